def q_L_cell (K : Nat) (h : mm_H) (n : Nat) (l0 : Option Nat) (l1 : Int32) : Option (Int32) :=
  l0.bind fun a1 =>
  (lenA h n a1 0).bind fun v3 =>
  ((if v3 ≤ l1 then
    some (0)
  else
    (ldI h n a1 l1).bind fun v9 =>
    some (v9)
   : Option (Int32))).bind fun y6 =>
  some y6
set_option maxRecDepth 100000 in
set_option maxHeartbeats 4000000 in
theorem c_L_cell {K : Nat} {G : mm_G} {l : Launch} {h : mm_H} {n : Nat} (l0 : Option Nat) (l1 : Int32) {r_ : Int32} (hn : 48 ≤ n) (hr : q_L_cell K h n l0 l1 = some r_) : Sp G l yL_cell cL_cell 2 (some .int) 0 0 0 [va_rf l0, .int l1] h n (fun v h' n' => v = some (.int r_) ∧ h' = h ∧ n' = n) := by
  refine Sp_of (by decide +kernel) (by rcases l0 with _ | _ <;> exact Nat.le_of_ble_eq_true rfl) hn ?_
  intro W0 hwl C
  subst hwl
  unfold q_L_cell at hr
  rw [show mm_en 2 [va_rf l0, .int l1] = [some (va_rf l0), some (.int l1)] from by rcases l0 with _ | _ <;> rfl]
  show WW W0 G 2 0 0 _ 0 [some (va_rf l0), some (.int l1)] [] h n 0 0
  refine rr_iload_n (i := 1) C dL_cell_0 rfl rfl ?_
  refine rr_aload_nO (i := 0) C dL_cell_1 rfl rfl ?_
  replace hr := Option.bind_eq_some_iff.mp hr
  obtain ⟨a1, e2, hr⟩ := hr
  subst e2
  replace hr := Option.bind_eq_some_iff.mp hr
  obtain ⟨v3, e4, hr⟩ := hr
  refine rr_lenA C dL_cell_2 e4 ?_
  replace hr := Option.bind_eq_some_iff.mp hr
  obtain ⟨y6, er8, hr⟩ := hr
  refine rr_join0 (pc' := 13) (L' := [none, none]) (st' := [.int y6]) (h' := h) (n' := n) C (fun hj7 => ?_) ?_
  · have hr := er8
    refine rr_icmp_ge (tgt := 12) C dL_cell_3 (by decide) (fun c5 => ?_) (fun c5 => ?_)
    · replace hr := (if_pos c5).symm.trans hr
      refine rr_iconst (v := 0) C dL_cell_12 (by decide) ?_
      cases hr
      exact rr_keep [false, false] hj7
    · replace hr := (if_neg c5).symm.trans hr
      refine rr_aload_n (i := 0) C dL_cell_6 rfl rfl ?_
      refine rr_iload_n (i := 1) C dL_cell_7 rfl rfl ?_
      replace hr := Option.bind_eq_some_iff.mp hr
      obtain ⟨v9, e10, hr⟩ := hr
      refine rr_ldI C dL_cell_8 e10 ?_
      refine rr_goto (tgt := 13) C dL_cell_9 (by decide) ?_
      cases hr
      exact rr_keep [false, false] hj7
  obtain rfl := Option.some.inj hr
  exact rr_iret (ty := .int) C dL_cell_13 rfl rfl ⟨rfl, rfl, rfl⟩
def lp_L_put_21 (K : Nat) (n : Nat) (l0 : Option Nat) (l1 : Nat) (l2 : Int32) (l3 : Int32) (l4 : Nat) : Nat → Int32 → mm_H → Option (mm_H)
  | 0, _, _ => none
  | k_ + 1, l5, h =>
    if 20 ≤ l5 then
      some (h)
    else
    (ldI h n l4 (l5 / 4)).bind fun v11 =>
    ((if l2 ≤ (l3 + l5) then
      some (32)
    else
      (ckS h n l1).bind fun u17 =>
      (q_J0_charAt_5068e K h n l1 (l3 + l5)).bind fun v19 =>
      some (v19)
     : Option (Int32))).bind fun y14 =>
    (stI h n l4 (l5 / 4) (v11 ||| (y14 <<< (((24 : Int32) - ((8 : Int32) * (l5 - l5 / 4 * 4))) &&& 31)))).bind fun h21 =>
    lp_L_put_21 K n l0 l1 l2 l3 l4 k_ (l5 + 1) h21
def lp_L_put_7 (K : Nat) (l0 : Option Nat) (l1 : Nat) (l2 : Int32) : Nat → Int32 → mm_H → Nat → Option (mm_H × Nat)
  | 0, _, _, _ => none
  | k_ + 1, l3, h, n =>
    if l2 ≤ l3 then
      some (h, n)
    else
    (newI h n .int 64 64).bind fun h8 =>
    (lp_L_put_21 K (n + 1) l0 l1 l2 l3 n K 0 h8).bind fun v23 =>
    (ldI v23 (n + 1) n 0).bind fun v25 =>
    (ldI v23 (n + 1) n 1).bind fun v27 =>
    (ldI v23 (n + 1) n 2).bind fun v29 =>
    (ldI v23 (n + 1) n 3).bind fun v31 =>
    (ldI v23 (n + 1) n 4).bind fun v33 =>
    l0.bind fun a35 =>
    (ckq v23 (n + 1) a35 9).bind fun u37 =>
    (q_X10_feed K v23 (n + 1) a35 v25 v27 v29 v31 v33).bind fun v39 =>
    lp_L_put_7 K l0 l1 l2 k_ (l3 + 20) v39.2 (n + 1)
def q_L_put (K M : Nat) (h : mm_H) (n : Nat) (l0 : Option Nat) (l1 : Option Nat) : Option (Int32 × mm_H × Nat) :=
  l1.bind fun a1 =>
  (ckS h n a1).bind fun u3 =>
  (q_J0_length_8abf5 K h n a1).bind fun v5 =>
  (lp_L_put_7 K l0 a1 v5 M 0 h n).bind fun v41 =>
  some (v5, v41.1, v41.2)
set_option maxRecDepth 100000 in
set_option maxHeartbeats 4000000 in
theorem w_L_put_21 {K : Nat} {W0 : mm_X} {G : mm_G} {mc ms kc ks : Nat} {Q_ : State → Prop} {n : Nat} (C : mm_C W0 G cL_put yL_put.cls 6 mc ms (some .int) 4 yL_put.name) (hn : 48 ≤ n) (l0 : Option Nat) (l1 : Nat) (l2 : Int32) (l3 : Int32) (l4 : Nat) : ∀ (k_ : Nat) (l5 : Int32) (h : mm_H) {r_ : mm_H} (hr : lp_L_put_21 K n l0 l1 l2 l3 l4 k_ l5 h = some r_) (hx0 : WW W0 G 6 mc ms Q_ 76 [some (va_rf l0), some (.ref l1), some (.int l2), some (.int l3), some (.ref l4), none] [] r_ n kc ks), WW W0 G 6 mc ms Q_ 21 [some (va_rf l0), some (.ref l1), some (.int l2), some (.int l3), some (.ref l4), some (.int l5)] [] h n kc ks := by
  intro k_
  induction k_ with
  | zero =>
    intro l5 h r_ hr
    cases hr
  | succ k_ ih_ =>
    intro l5 h r_ hr hx0
    unfold lp_L_put_21 at hr
    refine rr_iload C dL_put_21 rfl ?_
    refine rr_bipush (v := 20) C dL_put_23 (by decide) ?_
    refine rr_icmp_ge (tgt := 76) C dL_put_25 (by decide) (fun c25_ => ?_) (fun c25_ => ?_)
    · replace hr := (if_pos c25_).symm.trans hr
      obtain rfl := Option.some.inj hr
      exact rr_keep [true, true, true, true, true, false] (hx0)
    · replace hr := (if_neg c25_).symm.trans hr
      refine rr_aload C dL_put_28 rfl ?_
      refine rr_iload C dL_put_30 rfl ?_
      refine rr_iconst (v := 4) C dL_put_32 (by decide) ?_
      refine rr_idiv C dL_put_33 (by decide) ?_
      refine rr_dup2 C dL_put_34 rfl rfl ?_
      replace hr := Option.bind_eq_some_iff.mp hr
      obtain ⟨v11, e12, hr⟩ := hr
      refine rr_ldI C dL_put_35 e12 ?_
      refine rr_iload_n (i := 3) C dL_put_36 rfl rfl ?_
      refine rr_iload C dL_put_37 rfl ?_
      refine rr_iadd C dL_put_39 ?_
      refine rr_iload_n (i := 2) C dL_put_40 rfl rfl ?_
      replace hr := Option.bind_eq_some_iff.mp hr
      obtain ⟨y14, er16, hr⟩ := hr
      refine rr_join0 (pc' := 57) (L' := [some (va_rf l0), some (.ref l1), some (.int l2), some (.int l3), some (.ref l4), some (.int l5)]) (st' := [.int y14, .int v11, .int (l5 / 4), .ref l4]) (h' := h) (n' := n) C (fun hj15 => ?_) ?_
      · have hr := er16
        refine rr_icmp_ge (tgt := 55) C dL_put_41 (by decide) (fun c13 => ?_) (fun c13 => ?_)
        · replace hr := (if_pos c13).symm.trans hr
          refine rr_bipush (v := 32) C dL_put_55 (by decide) ?_
          cases hr
          exact rr_keep [true, true, true, true, true, true] hj15
        · replace hr := (if_neg c13).symm.trans hr
          refine rr_aload_n (i := 1) C dL_put_44 rfl rfl ?_
          refine rr_iload_n (i := 3) C dL_put_45 rfl rfl ?_
          refine rr_iload C dL_put_46 rfl ?_
          refine rr_iadd C dL_put_48 ?_
          replace hr := Option.bind_eq_some_iff.mp hr
          obtain ⟨u17, e18, hr⟩ := hr
          replace hr := Option.bind_eq_some_iff.mp hr
          obtain ⟨v19, e20, hr⟩ := hr
          refine rr_callVS (as := [.int (l3 + l5)]) (st := [.int v11, .int (l5 / 4), .ref l4]) (mc' := 0) (ms' := 0) C dL_put_49 iv_L_13 rfl (by decide) e18 (Nat.le_of_ble_eq_true rfl) (c_J0_charAt_5068e l1 (l3 + l5) (by omega) e20) (fun v_ h_ n_ q_ => ?_)
          obtain ⟨q1_, q2_, q3_⟩ := q_
          subst v_; subst h_; subst n_
          show WW W0 G 6 _ _ _ 52 [some (va_rf l0), some (.ref l1), some (.int l2), some (.int l3), some (.ref l4), some (.int l5)] [.int v19, .int v11, .int (l5 / 4), .ref l4] h n _ _
          refine rr_goto (tgt := 57) C dL_put_52 (by decide) ?_
          cases hr
          exact rr_keep [true, true, true, true, true, true] hj15
      refine rr_bipush (v := 24) C dL_put_57 (by decide) ?_
      refine rr_bipush (v := 8) C dL_put_59 (by decide) ?_
      refine rr_iload C dL_put_61 rfl ?_
      refine rr_iconst (v := 4) C dL_put_63 (by decide) ?_
      refine rr_irem C dL_put_64 (by decide) ?_
      refine rr_imul C dL_put_65 ?_
      refine rr_isub C dL_put_66 ?_
      refine rr_ishl C dL_put_67 ?_
      refine rr_ior C dL_put_68 ?_
      replace hr := Option.bind_eq_some_iff.mp hr
      obtain ⟨h21, e22, hr⟩ := hr
      refine rr_stI C dL_put_69 e22 ?_
      refine rr_iinc (v := l5 + 1) C dL_put_70 rfl rfl ?_
      show WW W0 G 6 _ _ _ 73 [some (va_rf l0), some (.ref l1), some (.int l2), some (.int l3), some (.ref l4), some (.int (l5 + 1))] [] h21 n _ _
      refine rr_goto (tgt := 21) C dL_put_73 (by decide) ?_
      exact rr_keep [true, true, true, true, true, true] (ih_ _ _ hr hx0)
set_option maxRecDepth 100000 in
set_option maxHeartbeats 4000000 in
theorem w_L_put_7 {K : Nat} {W0 : mm_X} {G : mm_G} {mc ms kc ks : Nat} {Q_ : State → Prop} (C : mm_C W0 G cL_put yL_put.cls 6 mc ms (some .int) 4 yL_put.name) (l0 : Option Nat) (l1 : Nat) (l2 : Int32) : ∀ (k_ : Nat) (l3 : Int32) (h : mm_H) (n : Nat) (hn : 48 ≤ n) {r_ : mm_H × Nat} (hr : lp_L_put_7 K l0 l1 l2 k_ l3 h n = some r_) (hx0 : n ≤ r_.2 → WW W0 G 6 mc ms Q_ 107 [none, none, some (.int l2), none, none, none] [] r_.1 r_.2 kc ks), WW W0 G 6 mc ms Q_ 7 [some (va_rf l0), some (.ref l1), some (.int l2), some (.int l3), none, none] [] h n (kc + 1 * k_) (ks + 64 * k_) := by
  intro k_
  induction k_ with
  | zero =>
    intro l3 h n hn r_ hr
    cases hr
  | succ k_ ih_ =>
    intro l3 h n hn r_ hr hx0
    unfold lp_L_put_7 at hr
    refine rr_cut C (kc' := kc + 1 * k_ + 1) (ks' := ks + 64 * k_ + 64) (by omega) (by omega) ?_
    refine rr_iload_n (i := 3) C dL_put_7 rfl rfl ?_
    refine rr_iload_n (i := 2) C dL_put_8 rfl rfl ?_
    refine rr_icmp_ge (tgt := 107) C dL_put_9 (by decide) (fun c9_ => ?_) (fun c9_ => ?_)
    · replace hr := (if_pos c9_).symm.trans hr
      obtain rfl := Option.some.inj hr
      refine rr_cut C (kc' := kc) (ks' := ks) (by omega) (by omega) ?_
      exact rr_keep [false, false, true, false, false, false] (hx0 (show n ≤ n from by omega))
    · replace hr := (if_neg c9_).symm.trans hr
      refine rr_bipush (v := 64) C dL_put_12 (by decide) ?_
      refine rr_cut C (kc' := kc + 1 * k_ + 0 + 1) (ks' := ks + 64 * k_ + 0 + 64) (by omega) (by omega) ?_
      replace hr := Option.bind_eq_some_iff.mp hr
      obtain ⟨h8, e9, hr⟩ := hr
      refine rr_newIq C dL_put_14 (t0 := 0) rfl rfl (by decide) rfl ac_int (N := 64) (by decide) e9 ?_
      show WW W0 G 6 _ _ _ 16 [some (va_rf l0), some (.ref l1), some (.int l2), some (.int l3), none, none] [.ref n] h8 (n + 1) _ _
      refine rr_astore C dL_put_16 (by decide) ?_
      show WW W0 G 6 _ _ _ 18 [some (va_rf l0), some (.ref l1), some (.int l2), some (.int l3), some (.ref n), none] [] h8 (n + 1) _ _
      refine rr_iconst (v := 0) C dL_put_18 (by decide) ?_
      refine rr_istore C dL_put_19 (by decide) ?_
      show WW W0 G 6 _ _ _ 21 [some (va_rf l0), some (.ref l1), some (.int l2), some (.int l3), some (.ref n), some (.int 0)] [] h8 (n + 1) _ _
      replace hr := Option.bind_eq_some_iff.mp hr
      obtain ⟨v23, e24, hr⟩ := hr
      refine rr_keep [true, true, true, true, true, true] (w_L_put_21 C (by omega) l0 l1 l2 l3 n K 0 h8 e24 ?_)
      show WW W0 G 6 _ _ _ 76 [some (va_rf l0), some (.ref l1), some (.int l2), some (.int l3), some (.ref n), none] [] v23 (n + 1) _ _
      refine rr_aload_nO (i := 0) C dL_put_76 rfl rfl ?_
      refine rr_aload C dL_put_77 rfl ?_
      refine rr_iconst (v := 0) C dL_put_79 (by decide) ?_
      replace hr := Option.bind_eq_some_iff.mp hr
      obtain ⟨v25, e26, hr⟩ := hr
      refine rr_ldI C dL_put_80 e26 ?_
      refine rr_aload C dL_put_81 rfl ?_
      refine rr_iconst (v := 1) C dL_put_83 (by decide) ?_
      replace hr := Option.bind_eq_some_iff.mp hr
      obtain ⟨v27, e28, hr⟩ := hr
      refine rr_ldI C dL_put_84 e28 ?_
      refine rr_aload C dL_put_85 rfl ?_
      refine rr_iconst (v := 2) C dL_put_87 (by decide) ?_
      replace hr := Option.bind_eq_some_iff.mp hr
      obtain ⟨v29, e30, hr⟩ := hr
      refine rr_ldI C dL_put_88 e30 ?_
      refine rr_aload C dL_put_89 rfl ?_
      refine rr_iconst (v := 3) C dL_put_91 (by decide) ?_
      replace hr := Option.bind_eq_some_iff.mp hr
      obtain ⟨v31, e32, hr⟩ := hr
      refine rr_ldI C dL_put_92 e32 ?_
      refine rr_aload C dL_put_93 rfl ?_
      refine rr_iconst (v := 4) C dL_put_95 (by decide) ?_
      replace hr := Option.bind_eq_some_iff.mp hr
      obtain ⟨v33, e34, hr⟩ := hr
      refine rr_ldI C dL_put_96 e34 ?_
      replace hr := Option.bind_eq_some_iff.mp hr
      obtain ⟨a35, e36, hr⟩ := hr
      subst e36
      replace hr := Option.bind_eq_some_iff.mp hr
      obtain ⟨u37, e38, hr⟩ := hr
      replace hr := Option.bind_eq_some_iff.mp hr
      obtain ⟨v39, e40, hr⟩ := hr
      refine rr_callVq (as := [.int v25, .int v27, .int v29, .int v31, .int v33]) (st := []) (mc' := 0) (ms' := 0) (kc := kc + 1 * k_ + 0) (ks := ks + 64 * k_ + 0) C dL_put_97 iv_L_17 (by decide) e38 rfl (Nat.le_of_ble_eq_true rfl) (c_X10_feed a35 v25 v27 v29 v31 v33 (by omega) e40) (fun v_ h_ n_ q_ => ?_)
      obtain ⟨q1_, q2_, q3_⟩ := q_
      subst v_; subst h_; subst n_
      show WW W0 G 6 _ _ _ 100 [some (.ref a35), some (.ref l1), some (.int l2), some (.int l3), some (.ref n), none] [.int v39.1] v39.2 (n + 1) _ _
      refine rr_pop C dL_put_100 rfl ?_
      refine rr_iinc (v := l3 + 20) C dL_put_101 rfl rfl ?_
      show WW W0 G 6 _ _ _ 104 [some (.ref a35), some (.ref l1), some (.int l2), some (.int (l3 + 20)), some (.ref n), none] [] v39.2 (n + 1) _ _
      refine rr_goto (tgt := 7) C dL_put_104 (by decide) ?_
      refine rr_cut C (kc' := kc + 1 * k_) (ks' := ks + 64 * k_) (by omega) (by omega) ?_
      exact rr_keep [true, true, true, true, false, false] (ih_ _ _ (n + 1) (by omega) hr (fun q_ => hx0 (by omega)))
set_option maxRecDepth 100000 in
set_option maxHeartbeats 4000000 in
theorem c_L_put {K M : Nat} {G : mm_G} {l : Launch} {h : mm_H} {n : Nat} (l0 : Option Nat) (l1 : Option Nat) {r_ : Int32 × mm_H × Nat} (hn : 48 ≤ n) (hr : q_L_put K M h n l0 l1 = some r_) : Sp G l yL_put cL_put 6 (some .int) 4 (1 * M + 0) (64 * M + 0) [va_rf l0, va_rf l1] h n (fun v h' n' => v = some (.int r_.1) ∧ h' = r_.2.1 ∧ n' = r_.2.2 ∧ n ≤ n') := by
  refine Sp_of (by decide +kernel) (by rcases l0 with _ | _ <;> rcases l1 with _ | _ <;> exact Nat.le_of_ble_eq_true rfl) hn ?_
  intro W0 hwl C
  subst hwl
  unfold q_L_put at hr
  rw [show mm_en 6 [va_rf l0, va_rf l1] = [some (va_rf l0), some (va_rf l1), none, none, none, none] from by rcases l0 with _ | _ <;> rcases l1 with _ | _ <;> rfl]
  show WW W0 G 6 (1 * M + 0) (64 * M + 0) _ 0 [some (va_rf l0), some (va_rf l1), none, none, none, none] [] h n (1 * M + 0) (64 * M + 0)
  refine rr_aload_nO (i := 1) C dL_put_0 rfl rfl ?_
  replace hr := Option.bind_eq_some_iff.mp hr
  obtain ⟨a1, e2, hr⟩ := hr
  subst e2
  replace hr := Option.bind_eq_some_iff.mp hr
  obtain ⟨u3, e4, hr⟩ := hr
  replace hr := Option.bind_eq_some_iff.mp hr
  obtain ⟨v5, e6, hr⟩ := hr
  refine rr_callVS (as := []) (st := []) (mc' := 0) (ms' := 0) C dL_put_1 iv_L_7 rfl (by decide) e4 (Nat.le_of_ble_eq_true rfl) (c_J0_length_8abf5 a1 (by omega) e6) (fun v_ h_ n_ q_ => ?_)
  obtain ⟨q1_, q2_, q3_⟩ := q_
  subst v_; subst h_; subst n_
  show WW W0 G 6 _ _ _ 4 [some (va_rf l0), some (.ref a1), none, none, none, none] [.int v5] h n _ _
  refine rr_istore_n (i := 2) C dL_put_4 rfl (by decide) ?_
  show WW W0 G 6 _ _ _ 5 [some (va_rf l0), some (.ref a1), some (.int v5), none, none, none] [] h n _ _
  refine rr_iconst (v := 0) C dL_put_5 (by decide) ?_
  refine rr_istore_n (i := 3) C dL_put_6 rfl (by decide) ?_
  show WW W0 G 6 _ _ _ 7 [some (va_rf l0), some (.ref a1), some (.int v5), some (.int 0), none, none] [] h n _ _
  replace hr := Option.bind_eq_some_iff.mp hr
  obtain ⟨v41, e42, hr⟩ := hr
  refine rr_cut C (kc' := 0 + 1 * M) (ks' := 0 + 64 * M) (by omega) (by omega) ?_
  refine rr_keep [true, true, true, true, false, false] (w_L_put_7 (kc := 0) (ks := 0) C l0 a1 v5 M 0 h n (by omega) e42 (fun b43 => ?_))
  show WW W0 G 6 _ _ _ 107 [none, none, some (.int v5), none, none, none] [] v41.1 v41.2 _ _
  refine rr_iload_n (i := 2) C dL_put_107 rfl rfl ?_
  obtain rfl := Option.some.inj hr
  exact rr_iret (ty := .int) C dL_put_108 rfl rfl ⟨rfl, rfl, rfl, by omega⟩
def lp_L_law_665 (K : Nat) (n : Nat) (l0 : Nat) (l1 : Nat) (l2 : Int32) (l3 : Int32) (l4 : Int32) (l5 : Int32) (l6 : Int32) (l7 : Int32) (l8 : Int32) (l9 : Int32) (l10 : Int32) (l11 : Int32) (l12 : Int32) (l13 : Int32) (l14 : Int32) (l15 : Int32) (l16 : Int32) (l17 : Int32) (l19 : Int64) (l21 : Nat) (l22 : Nat) (l23 : Nat) (l24 : Nat) (l25 : Int32) : Nat → Int32 → mm_H → Option (mm_H)
  | 0, _, _ => none
  | k_ + 1, l27, h =>
    if 3 ≤ l27 then
      some (h)
    else
    (q_L_cell K h n (some l0) (9 + l25)).bind fun v498 =>
    (stI h n l24 ((8 * l27) + l25) ((v498 >>> ((8 * l27) &&& 31)) &&& 255)).bind fun h500 =>
    (ldI h500 n l24 ((8 * l27) + l25)).bind fun v502 =>
    ((if v502 ≤ 0 then
      some (h500)
    else
      (ldI h500 n l24 ((8 * l27) + l25)).bind fun v508 =>
      (ckq h500 n l1 9).bind fun u510 =>
      (q_X10_fact K h500 n l1 0 l25 (11 + l27) v508).bind fun v512 =>
      if ¬ (0 ≤ v512.1) then none else
      some (v512.2)
     : Option (mm_H))).bind fun h505 =>
    lp_L_law_665 K n l0 l1 l2 l3 l4 l5 l6 l7 l8 l9 l10 l11 l12 l13 l14 l15 l16 l17 l19 l21 l22 l23 l24 l25 k_ (l27 + 1) h505
def lp_L_law_512 (K : Nat) (n : Nat) (l0 : Nat) (l1 : Nat) (l2 : Int32) (l3 : Int32) (l4 : Int32) (l5 : Int32) (l6 : Int32) (l7 : Int32) (l8 : Int32) (l9 : Int32) (l10 : Int32) (l11 : Int32) (l12 : Int32) (l13 : Int32) (l14 : Int32) (l15 : Int32) (l16 : Int32) (l17 : Int32) (l19 : Int64) (l21 : Nat) (l22 : Nat) (l23 : Nat) (l24 : Nat) : Nat → Int32 → mm_H → Option (mm_H)
  | 0, _, _ => none
  | k_ + 1, l25, h =>
    if 5 ≤ l25 then
      some (h)
    else
    (q_L_cell K h n (some l0) (4 + l25)).bind fun v448 =>
    (stI h n l22 l25 (v448 &&& 1023)).bind fun h450 =>
    ((if ((v448 >>> (10 &&& 31)) &&& 3) = 0 then
      some ((-1))
    else
      some ((v448 >>> (12 &&& 31)) &&& 1023)
     : Option (Int32))).bind fun y453 =>
    (stI h450 n l21 l25 y453).bind fun h456 =>
    ((if ((v448 >>> (22 &&& 31)) &&& 3) = 0 then
      some ((-1))
    else
      some ((v448 >>> (24 &&& 31)) &&& 127)
     : Option (Int32))).bind fun y459 =>
    (stI h456 n l23 l25 y459).bind fun h462 =>
    (ldI h462 n l22 l25).bind fun v464 =>
    (ckq h462 n l1 9).bind fun u466 =>
    (q_X10_fact K h462 n l1 0 l25 7 v464).bind fun v468 =>
    if v468.1 < 0 then none else
    (ldI v468.2 n l21 l25).bind fun v471 =>
    ((if v471 < 0 then
      some (v468.2)
    else
      (ldI v468.2 n l21 l25).bind fun v477 =>
      (ckq v468.2 n l1 9).bind fun u479 =>
      (q_X10_fact K v468.2 n l1 0 l25 3 v477).bind fun v481 =>
      if v481.1 < 0 then none else
      some (v481.2)
     : Option (mm_H))).bind fun h474 =>
    (ldI h474 n l23 l25).bind fun v484 =>
    ((if v484 < 0 then
      some (h474)
    else
      (ldI h474 n l23 l25).bind fun v490 =>
      (ckq h474 n l1 9).bind fun u492 =>
      (q_X10_fact K h474 n l1 0 l25 15 v490).bind fun v494 =>
      if ¬ (0 ≤ v494.1) then none else
      some (v494.2)
     : Option (mm_H))).bind fun h487 =>
    (lp_L_law_665 K n l0 l1 l2 l3 l4 l5 l6 l7 l8 l9 l10 l11 l12 l13 l14 l15 l16 l17 l19 l21 l22 l23 l24 l25 K 0 h487).bind fun v515 =>
    lp_L_law_512 K n l0 l1 l2 l3 l4 l5 l6 l7 l8 l9 l10 l11 l12 l13 l14 l15 l16 l17 l19 l21 l22 l23 l24 k_ (l25 + 1) v515
def lp_L_law_786 (K : Nat) (n : Nat) (l0 : Nat) (l1 : Nat) (l2 : Int32) (l3 : Int32) (l4 : Int32) (l5 : Int32) (l6 : Int32) (l7 : Int32) (l8 : Int32) (l9 : Int32) (l10 : Int32) (l11 : Int32) (l12 : Int32) (l13 : Int32) (l14 : Int32) (l15 : Int32) (l16 : Int32) (l17 : Int32) (l19 : Int64) (l21 : Nat) (l22 : Nat) (l23 : Nat) (l24 : Nat) (l25 : Nat) (l26 : Nat) (l27 : Nat) (l28 : Int32) : Nat → Int32 → mm_H → Option (mm_H)
  | 0, _, _ => none
  | k_ + 1, l29, h =>
    if l28 ≤ l29 then
      some (h)
    else
    (q_L_cell K h n (some l0) (15 + l29)).bind fun v530 =>
    (stI h n l25 l29 ((1 : Int32) + (v530 &&& 4095))).bind fun h532 =>
    (stI h532 n l26 l29 ((((v530 >>> (12 &&& 31)) &&& 7) : Int32) - (((v530 >>> (12 &&& 31)) &&& 7) : Int32) / 5 * 5)).bind fun h534 =>
    (stI h534 n l27 l29 9999).bind fun h536 =>
    (ldI h536 n l25 l29).bind fun v538 =>
    (ldI h536 n l26 l29).bind fun v540 =>
    (ckq h536 n l1 9).bind fun u542 =>
    (q_X10_work K h536 n l1 0 v538 v540).bind fun v544 =>
    if ¬ (v544.1 = l29) then none else
    lp_L_law_786 K n l0 l1 l2 l3 l4 l5 l6 l7 l8 l9 l10 l11 l12 l13 l14 l15 l16 l17 l19 l21 l22 l23 l24 l25 l26 l27 l28 k_ (l29 + 1) v544.2
def lp_L_law_877 (K : Nat) (n : Nat) (l0 : Nat) (l1 : Nat) (l2 : Int32) (l3 : Int32) (l4 : Int32) (l5 : Int32) (l6 : Int32) (l7 : Int32) (l8 : Int32) (l9 : Int32) (l10 : Int32) (l11 : Int32) (l12 : Int32) (l13 : Int32) (l14 : Int32) (l15 : Int32) (l16 : Int32) (l17 : Int32) (l19 : Int64) (l21 : Nat) (l22 : Nat) (l23 : Nat) (l24 : Nat) (l25 : Nat) (l26 : Nat) (l27 : Nat) (l28 : Int32) (l29 : Nat) : Nat → Int32 → mm_H → Option (mm_H)
  | 0, _, _ => none
  | k_ + 1, l30, h =>
    if 2 ≤ l30 then
      some (h)
    else
    (q_L_cell K h n (some l0) 18).bind fun v552 =>
    (some ((1 : Int32) + ((v552 >>> ((2 * l30) &&& 31)) &&& 3) : Int32)).bind fun x554 =>
    (q_L_cell K h n (some l0) 18).bind fun v556 =>
    (some ((1 : Int32) + ((v556 >>> (((4 : Int32) + (10 * l30)) &&& 31)) &&& 1023) : Int32)).bind fun x558 =>
    (ckq h n l1 9).bind fun u560 =>
    (q_X10_log K h n l1 0 x554 x558).bind fun v562 =>
    if ¬ (v562.1 = (l30 + 1)) then none else
    (ldI v562.2 n l29 x554).bind fun v565 =>
    (stI v562.2 n l29 x554 (v565 + x558)).bind fun h567 =>
    lp_L_law_877 K n l0 l1 l2 l3 l4 l5 l6 l7 l8 l9 l10 l11 l12 l13 l14 l15 l16 l17 l19 l21 l22 l23 l24 l25 l26 l27 l28 l29 k_ (l30 + 1) h567
def lp_L_law_959 (K : Nat) (n : Nat) (l0 : Nat) (l1 : Nat) (l2 : Int32) (l3 : Int32) (l4 : Int32) (l5 : Int32) (l6 : Int32) (l7 : Int32) (l8 : Int32) (l9 : Int32) (l10 : Int32) (l11 : Int32) (l12 : Int32) (l13 : Int32) (l14 : Int32) (l15 : Int32) (l16 : Int32) (l17 : Int32) (l19 : Int64) (l21 : Nat) (l22 : Nat) (l23 : Nat) (l24 : Nat) (l25 : Nat) (l26 : Nat) (l27 : Nat) (l28 : Int32) (l29 : Nat) : Nat → Int32 → mm_H → Option (mm_H)
  | 0, _, _ => none
  | k_ + 1, l30, h =>
    if l28 ≤ l30 then
      some (h)
    else
    (q_L_cell K h n (some l0) (15 + l30)).bind fun v572 =>
    (some ((v572 >>> (15 &&& 31)) &&& 511 : Int32)).bind fun x574 =>
    (ckq h n l1 9).bind fun u576 =>
    (q_X10_count K h n l1 0).bind fun v578 =>
    ((if x574 ≤ v578 then
      some (h)
    else
      (q_L_cell K h n (some l0) (15 + l30)).bind fun v584 =>
      if ((v584 >>> (24 &&& 31)) &&& 3) = 0 then
        some (h)
      else
      (ckq h n l1 9).bind fun u587 =>
      (q_X10_day K h n l1 x574).bind fun v589 =>
      if v589.1 = 0 then none else
      (ckq v589.2 n l1 9).bind fun u592 =>
      (q_X10_done K v589.2 n l1 l30).bind fun v594 =>
      if v594.1 = 0 then none else
      (ckq v594.2 n l1 9).bind fun u597 =>
      (q_X10_done K v594.2 n l1 l30).bind fun v599 =>
      if ¬ (v599.1 = 0) then none else
      (stI v599.2 n l27 l30 x574).bind fun h602 =>
      some (h602)
     : Option (mm_H))).bind fun h581 =>
    lp_L_law_959 K n l0 l1 l2 l3 l4 l5 l6 l7 l8 l9 l10 l11 l12 l13 l14 l15 l16 l17 l19 l21 l22 l23 l24 l25 l26 l27 l28 l29 k_ (l30 + 1) h581
def lp_L_law_1076 (K : Nat) (n : Nat) (l1 : Nat) (l2 : Int32) (l3 : Int32) (l4 : Int32) (l5 : Int32) (l6 : Int32) (l7 : Int32) (l8 : Int32) (l9 : Int32) (l10 : Int32) (l11 : Int32) (l12 : Int32) (l13 : Int32) (l14 : Int32) (l15 : Int32) (l16 : Int32) (l17 : Int32) (l21 : Nat) (l22 : Nat) (l23 : Nat) (l24 : Nat) (l25 : Nat) (l26 : Nat) (l27 : Nat) (l28 : Int32) (l29 : Nat) (l30 : Int32) (l31 : Int64) (l33 : Nat) : Nat → Int32 → mm_H → Option (mm_H)
  | 0, _, _ => none
  | k_ + 1, l34, h =>
    if l28 ≤ l34 then
      some (h)
    else
    (ldI h n l25 l34).bind fun v613 =>
    (stJ h n l33 l34 (Int32.toInt64 v613)).bind fun h615 =>
    lp_L_law_1076 K n l1 l2 l3 l4 l5 l6 l7 l8 l9 l10 l11 l12 l13 l14 l15 l16 l17 l21 l22 l23 l24 l25 l26 l27 l28 l29 l30 l31 l33 k_ (l34 + 1) h615
def lp_L_law_1157 (K : Nat) (n : Nat) (l1 : Nat) (l2 : Int32) (l3 : Int32) (l4 : Int32) (l5 : Int32) (l6 : Int32) (l7 : Int32) (l8 : Int32) (l9 : Int32) (l10 : Int32) (l11 : Int32) (l12 : Int32) (l13 : Int32) (l14 : Int32) (l15 : Int32) (l16 : Int32) (l17 : Int32) (l21 : Nat) (l22 : Nat) (l23 : Nat) (l24 : Nat) (l25 : Nat) (l26 : Nat) (l27 : Nat) (l28 : Int32) (l29 : Nat) (l30 : Int32) (l31 : Int64) (l33 : Nat) (l34 : Int64) (l36 : Int64) (l38 : Int64) (l40 : Int64) (l42 : Int32) (l43 : Int64) (l45 : Int64) : Nat → Int64 → Int64 → Int32 → mm_H → Option (Int64 × Int64 × mm_H)
  | 0, _, _, _, _ => none
  | k_ + 1, l47, l49, l51, h =>
    if l28 ≤ l51 then
      some (l47, l49, h)
    else
    (ldI h n l26 l51).bind fun v627 =>
    ((if v627 = l42 then
      (ldI h n l25 l51).bind fun v633 =>
      (some (l47 + (Int32.toInt64 v633) : Int64)).bind fun x635 =>
      some (x635)
    else
      some (l47)
     : Option (Int64))).bind fun y630 =>
    (ldI h n l26 l51).bind fun v637 =>
    ((if l42 ≤ v637 then
      some (l49, h)
    else
      (ldI h n l27 l51).bind fun v644 =>
      if (100 * l42) ≤ v644 then
        ((if l42 ≤ 3 then
          (ldI h n l25 l51).bind fun v651 =>
          some (((Int32.toInt64 v651) * (Int32.toInt64 l5)) / 100)
        else
          some (0)
         : Option (Int64))).bind fun y648 =>
        (ldJ h n l33 l51).bind fun v653 =>
        ((if (lg_cmp y648 v653) ≤ 0 then
          some (y648)
        else
          (ldJ h n l33 l51).bind fun v659 =>
          some (v659)
         : Option (Int64))).bind fun y656 =>
        (ldJ h n l33 l51).bind fun v661 =>
        (stJ h n l33 l51 (v661 - y656)).bind fun h663 =>
        (some (l49 + y656 : Int64)).bind fun x665 =>
        some (x665, h663)
      else
      some (l49, h)
     : Option (Int64 × mm_H))).bind fun (y640, h641) =>
    lp_L_law_1157 K n l1 l2 l3 l4 l5 l6 l7 l8 l9 l10 l11 l12 l13 l14 l15 l16 l17 l21 l22 l23 l24 l25 l26 l27 l28 l29 l30 l31 l33 l34 l36 l38 l40 l42 l43 l45 k_ y630 y640 (l51 + 1) h641
def lp_L_law_1418 (K : Nat) (n : Nat) (l1 : Nat) (l2 : Int32) (l3 : Int32) (l4 : Int32) (l5 : Int32) (l6 : Int32) (l7 : Int32) (l8 : Int32) (l9 : Int32) (l10 : Int32) (l11 : Int32) (l12 : Int32) (l13 : Int32) (l14 : Int32) (l15 : Int32) (l16 : Int32) (l17 : Int32) (l21 : Nat) (l22 : Nat) (l23 : Nat) (l24 : Nat) (l25 : Nat) (l26 : Nat) (l27 : Nat) (l28 : Int32) (l29 : Nat) (l30 : Int32) (l31 : Int64) (l33 : Nat) (l38 : Int64) (l40 : Int64) (l42 : Int32) (l43 : Int64) (l45 : Int64) (l53 : Int64) (l55 : Nat) : Nat → Int32 → mm_H → Option (mm_H)
  | 0, _, _ => none
  | k_ + 1, l56, h =>
    if 15 ≤ l56 then
      some (h)
    else
    (ckq h n l1 9).bind fun u712 =>
    (q_X10_line K h n l1 0 l42 l30 l56).bind fun v714 =>
    (ldJ v714.2 n l55 l56).bind fun v716 =>
    if ¬ ((lg_cmp v714.1 v716) = 0) then none else
    lp_L_law_1418 K n l1 l2 l3 l4 l5 l6 l7 l8 l9 l10 l11 l12 l13 l14 l15 l16 l17 l21 l22 l23 l24 l25 l26 l27 l28 l29 l30 l31 l33 l38 l40 l42 l43 l45 l53 l55 k_ (l56 + 1) v714.2
def lp_L_law_1730 (K : Nat) (n : Nat) (l1 : Nat) (l2 : Int32) (l3 : Int32) (l4 : Int32) (l5 : Int32) (l6 : Int32) (l7 : Int32) (l8 : Int32) (l9 : Int32) (l10 : Int32) (l11 : Int32) (l12 : Int32) (l13 : Int32) (l14 : Int32) (l15 : Int32) (l16 : Int32) (l17 : Int32) (l21 : Nat) (l22 : Nat) (l23 : Nat) (l24 : Nat) (l25 : Nat) (l26 : Nat) (l27 : Nat) (l28 : Int32) (l29 : Nat) (l30 : Int32) (l31 : Int64) (l33 : Nat) (l38 : Int64) (l40 : Int64) (l42 : Int32) (l43 : Int64) (l45 : Int64) (l60 : Int64) (l62 : Nat) : Nat → Int64 → Int32 → mm_H → Option (Int64 × mm_H)
  | 0, _, _, _ => none
  | k_ + 1, l63, l65, h =>
    if 3 ≤ l65 then
      some (l63, h)
    else
    (ckq h n l1 9).bind fun u792 =>
    (q_X10_home K h n l1 0 l42 l30 l65).bind fun v794 =>
    (ldJ v794.2 n l62 l65).bind fun v796 =>
    if ¬ ((lg_cmp v794.1 v796) = 0) then none else
    (ldJ v794.2 n l62 l65).bind fun v799 =>
    (ldI v794.2 n l24 ((8 * l65) + l42)).bind fun v801 =>
    (some (l63 - (v799 * (Int32.toInt64 v801)) : Int64)).bind fun x803 =>
    lp_L_law_1730 K n l1 l2 l3 l4 l5 l6 l7 l8 l9 l10 l11 l12 l13 l14 l15 l16 l17 l21 l22 l23 l24 l25 l26 l27 l28 l29 l30 l31 l33 l38 l40 l42 l43 l45 l60 l62 k_ x803 (l65 + 1) v794.2
def lp_L_law_2036 (K : Nat) (h : mm_H) (n : Nat) (l1 : Nat) (l2 : Int32) (l3 : Int32) (l4 : Int32) (l5 : Int32) (l6 : Int32) (l7 : Int32) (l8 : Int32) (l9 : Int32) (l10 : Int32) (l11 : Int32) (l12 : Int32) (l13 : Int32) (l14 : Int32) (l15 : Int32) (l16 : Int32) (l17 : Int32) (l21 : Nat) (l22 : Nat) (l23 : Nat) (l24 : Nat) (l25 : Nat) (l26 : Nat) (l27 : Nat) (l28 : Int32) (l29 : Nat) (l30 : Int32) (l33 : Nat) (l34 : Int64) (l36 : Int64) (l38 : Int64) (l40 : Int64) (l42 : Int32) : Nat → Int64 → Int32 → Option (Int64)
  | 0, _, _ => none
  | k_ + 1, l67, l69 =>
    if l28 ≤ l69 then
      some (l67)
    else
    (ldI h n l27 l69).bind fun v876 =>
    ((if (v876 / 100) = l42 then
      (ldI h n l25 l69).bind fun v882 =>
      (some (l67 + (Int32.toInt64 v882) : Int64)).bind fun x884 =>
      some (x884)
    else
      some (l67)
     : Option (Int64))).bind fun y879 =>
    lp_L_law_2036 K h n l1 l2 l3 l4 l5 l6 l7 l8 l9 l10 l11 l12 l13 l14 l15 l16 l17 l21 l22 l23 l24 l25 l26 l27 l28 l29 l30 l33 l34 l36 l38 l40 l42 k_ y879 (l69 + 1)
def lp_L_law_1115 (K : Nat) (l1 : Nat) (l2 : Int32) (l3 : Int32) (l4 : Int32) (l5 : Int32) (l6 : Int32) (l7 : Int32) (l8 : Int32) (l9 : Int32) (l10 : Int32) (l11 : Int32) (l12 : Int32) (l13 : Int32) (l14 : Int32) (l15 : Int32) (l16 : Int32) (l17 : Int32) (l21 : Nat) (l22 : Nat) (l23 : Nat) (l24 : Nat) (l25 : Nat) (l26 : Nat) (l27 : Nat) (l28 : Int32) (l29 : Nat) (l30 : Int32) (l33 : Nat) : Nat → Int64 → Int64 → Int64 → Int64 → Int64 → Int32 → mm_H → Nat → Option (Int64 × mm_H × Nat)
  | 0, _, _, _, _, _, _, _, _ => none
  | k_ + 1, l31, l34, l36, l38, l40, l42, h, n =>
    if 5 ≤ l42 then
      some (l31, h, n)
    else
    (ldI h n l22 l42).bind fun v620 =>
    (some (((Int32.toInt64 v620) * (Int32.toInt64 l8)) / 100 : Int64)).bind fun x622 =>
    (some ((l31 * (Int32.toInt64 l2)) / 1000 : Int64)).bind fun x624 =>
    (lp_L_law_1157 K n l1 l2 l3 l4 l5 l6 l7 l8 l9 l10 l11 l12 l13 l14 l15 l16 l17 l21 l22 l23 l24 l25 l26 l27 l28 l29 l30 l31 l33 l34 l36 l38 l40 l42 x622 x624 K 0 0 0 h).bind fun v667 =>
    (ldI v667.2.2 n l29 l42).bind fun v669 =>
    ((if (lg_cmp (Int32.toInt64 v669) ((x622 * (Int32.toInt64 l7)) / 100)) < 0 then
      some (0)
    else
      (ldI v667.2.2 n l29 l42).bind fun v675 =>
      some (Int32.toInt64 v675)
     : Option (Int64))).bind fun y672 =>
    (some ((((((x622 + x624) + v667.1) - v667.2.1) + l36) + l34) + y672 : Int64)).bind fun x677 =>
    (newJ v667.2.2 n 15 15).bind fun h679 =>
    (stJ h679 (n + 1) n 0 x622).bind fun h681 =>
    (stJ h681 (n + 1) n 1 0).bind fun h683 =>
    (stJ h683 (n + 1) n 2 0).bind fun h685 =>
    (stJ h685 (n + 1) n 3 0).bind fun h687 =>
    (stJ h687 (n + 1) n 4 x624).bind fun h689 =>
    (stJ h689 (n + 1) n 5 v667.1).bind fun h691 =>
    (stJ h691 (n + 1) n 6 (-v667.2.1)).bind fun h693 =>
    (stJ h693 (n + 1) n 7 0).bind fun h695 =>
    (stJ h695 (n + 1) n 8 l36).bind fun h697 =>
    (stJ h697 (n + 1) n 9 0).bind fun h699 =>
    (stJ h699 (n + 1) n 10 l34).bind fun h701 =>
    (stJ h701 (n + 1) n 11 0).bind fun h703 =>
    (stJ h703 (n + 1) n 12 0).bind fun h705 =>
    (stJ h705 (n + 1) n 13 0).bind fun h707 =>
    (stJ h707 (n + 1) n 14 y672).bind fun h709 =>
    (lp_L_law_1418 K (n + 1) l1 l2 l3 l4 l5 l6 l7 l8 l9 l10 l11 l12 l13 l14 l15 l16 l17 l21 l22 l23 l24 l25 l26 l27 l28 l29 l30 l31 l33 l38 l40 l42 x622 x624 x677 n K 0 h709).bind fun v719 =>
    (ckq v719 (n + 1) l1 9).bind fun u721 =>
    (q_X10_worth K v719 (n + 1) l1 0 l42).bind fun v723 =>
    if ¬ ((lg_cmp v723.1 l31) = 0) then none else
    (ckq v723.2 (n + 1) l1 9).bind fun u726 =>
    (q_X10_revenue K v723.2 (n + 1) l1 0 l42 l30).bind fun v728 =>
    if ¬ ((lg_cmp v728.1 x677) = 0) then none else
    (some (x677 + l40 : Int64)).bind fun x731 =>
    ((if l42 ≤ 0 then
      some (x731)
    else
      if 4 ≤ l42 then
        some (x731)
      else
      if l17 = 0 then
        some (x731)
      else
      (some ((l38 * (Int32.toInt64 (100 + l6))) / 100 : Int64)).bind fun x739 =>
      (some ((l38 * (Int32.toInt64 (100 - l6))) / 100 : Int64)).bind fun x741 =>
      ((if (lg_cmp x731 x739) ≤ 0 then
        some (x731)
      else
        some (x739)
       : Option (Int64))).bind fun y744 =>
      if 0 ≤ (lg_cmp y744 x741) then
        some (y744)
      else
      some (x741)
     : Option (Int64))).bind fun y734 =>
    (some (x731 - y734 : Int64)).bind fun x748 =>
    (ckq v728.2 (n + 1) l1 9).bind fun u750 =>
    (q_X10_bills K v728.2 (n + 1) l1 0 l42 l30 0).bind fun v752 =>
    if ¬ ((lg_cmp v752.1 y734) = 0) then none else
    (ckq v752.2 (n + 1) l1 9).bind fun u755 =>
    (q_X10_bills K v752.2 (n + 1) l1 0 l42 l30 1).bind fun v757 =>
    if ¬ ((lg_cmp v757.1 x748) = 0) then none else
    (ldI v757.2 (n + 1) l24 l42).bind fun v760 =>
    (ldI v757.2 (n + 1) l24 (8 + l42)).bind fun v762 =>
    (ldI v757.2 (n + 1) l24 (16 + l42)).bind fun v764 =>
    (some ((((Int32.toInt64 v760) * 2) + ((Int32.toInt64 v762) * 3)) + ((Int32.toInt64 v764) * 5) : Int64)).bind fun x766 =>
    (newJ v757.2 (n + 1) 3 3).bind fun h768 =>
    ((if (lg_cmp x766 0) = 0 then
      some (0)
    else
      if x766 = 0 then none else
      some ((y734 * 2) / x766)
     : Option (Int64))).bind fun y771 =>
    (stJ h768 (n + 2) (n + 1) 0 y771).bind fun h775 =>
    ((if (lg_cmp x766 0) = 0 then
      some (0)
    else
      if x766 = 0 then none else
      some ((y734 * 3) / x766)
     : Option (Int64))).bind fun y778 =>
    (stJ h775 (n + 2) (n + 1) 1 y778).bind fun h782 =>
    ((if (lg_cmp x766 0) = 0 then
      some (0)
    else
      if x766 = 0 then none else
      some ((y734 * 5) / x766)
     : Option (Int64))).bind fun y785 =>
    (stJ h782 (n + 2) (n + 1) 2 y785).bind fun h789 =>
    (lp_L_law_1730 K (n + 2) l1 l2 l3 l4 l5 l6 l7 l8 l9 l10 l11 l12 l13 l14 l15 l16 l17 l21 l22 l23 l24 l25 l26 l27 l28 l29 l30 l31 l33 y734 x748 l42 x622 x624 x766 (n + 1) K y734 0 h789).bind fun v805 =>
    (ckq v805.2 (n + 2) l1 9).bind fun u807 =>
    (q_X10_home K v805.2 (n + 2) l1 0 l42 l30 3).bind fun v809 =>
    if ¬ ((lg_cmp v809.1 v805.1) = 0) then none else
    (ckq v809.2 (n + 2) l1 9).bind fun u812 =>
    (q_X10_who K v809.2 (n + 2) l1 0 l42 l30 1 4).bind fun v814 =>
    ((if (lg_cmp x766 0) = 0 then
      some (0)
    else
      if x766 = 0 then none else
      some ((x624 * 3) / x766)
     : Option (Int64))).bind fun y817 =>
    if ¬ ((lg_cmp v814.1 y817) = 0) then none else
    (ldI v814.2 (n + 2) l21 l42).bind fun v822 =>
    ((if 0 ≤ v822 then
      (ldI v814.2 (n + 2) l21 l42).bind fun v828 =>
      some ((Int32.toInt64 v828) - x622)
    else
      some (0)
     : Option (Int64))).bind fun y825 =>
    ((if (lg_cmp y825 0) ≤ 0 then
      some ((y825 * (Int32.toInt64 l10)) / 100)
    else
      some ((y825 * (Int32.toInt64 l9)) / 100)
     : Option (Int64))).bind fun y831 =>
    (some (y825 - y831 : Int64)).bind fun x834 =>
    (ldI v814.2 (n + 2) l23 l42).bind fun v836 =>
    ((if v836 < 0 then
      some (0)
    else
      ((if l16 = 0 then
        (ldI v814.2 (n + 2) l23 l42).bind fun v846 =>
        some (Int32.toInt64 (v846 - l11))
      else
        (ldI v814.2 (n + 2) l23 l42).bind fun v848 =>
        some (Int32.toInt64 (l11 - v848))
       : Option (Int64))).bind fun y843 =>
      ((if 0 ≤ (lg_cmp y843 0) then
        some (y843)
      else
        some (-y843)
       : Option (Int64))).bind fun y851 =>
      (some (y851 - (Int32.toInt64 l14) : Int64)).bind fun x854 =>
      ((if 0 ≤ (lg_cmp x854 0) then
        some (x854)
      else
        some (0)
       : Option (Int64))).bind fun y857 =>
      if (Int32.toInt64 l12) = 0 then none else
      (some ((y857 / (Int32.toInt64 l12)) * (Int32.toInt64 l13) : Int64)).bind fun x861 =>
      ((if (lg_cmp x861 (Int32.toInt64 l15)) ≤ 0 then
        some (x861)
      else
        (some (Int32.toInt64 l15 : Int64)).bind fun x867 =>
        some (x867)
       : Option (Int64))).bind fun y864 =>
      ((if 0 ≤ (lg_cmp y843 0) then
        some (y864)
      else
        some (-y864)
       : Option (Int64))).bind fun y870 =>
      some (y870)
     : Option (Int64))).bind fun y839 =>
    (some (((l31 * (Int32.toInt64 l3)) / 100) - ((l31 * (Int32.toInt64 l4)) / 100) : Int64)).bind fun x873 =>
    (lp_L_law_2036 K v814.2 (n + 2) l1 l2 l3 l4 l5 l6 l7 l8 l9 l10 l11 l12 l13 l14 l15 l16 l17 l21 l22 l23 l24 l25 l26 l27 l28 l29 l30 l33 x834 y839 y734 x748 l42 K x873 0).bind fun v886 =>
    lp_L_law_1115 K l1 l2 l3 l4 l5 l6 l7 l8 l9 l10 l11 l12 l13 l14 l15 l16 l17 l21 l22 l23 l24 l25 l26 l27 l28 l29 l30 l33 k_ v886 x834 y839 y734 x748 (l42 + 1) v814.2 (n + 2)
def q_law_1112 (K : Nat) (h : mm_H) (n : Nat) (l2 : Int32) (l3 : Int32) (l4 : Int32) (l5 : Int32) (l6 : Int32) (l7 : Int32) (l8 : Int32) (l9 : Int32) (l10 : Int32) (l11 : Int32) (l12 : Int32) (l13 : Int32) (l14 : Int32) (l15 : Int32) (l16 : Int32) (l17 : Int32) (l21 : Nat) (l22 : Nat) (l23 : Nat) (l24 : Nat) (l25 : Nat) (l26 : Nat) (l27 : Nat) (l28 : Int32) (l29 : Nat) (l30 : Int32) (l31 : Int64) (l33 : Nat) : Option Unit :=
  (lp_L_law_1115 K 48 l2 l3 l4 l5 l6 l7 l8 l9 l10 l11 l12 l13 l14 l15 l16 l17 l21 l22 l23 l24 l25 l26 l27 l28 l29 l30 l33 40 l31 0 0 0 0 0 h n).bind fun v888 =>
  (ckq v888.2.1 v888.2.2 48 9).bind fun u891 =>
  (q_X10_worth K v888.2.1 v888.2.2 48 0 5).bind fun v893 =>
  if ¬ ((lg_cmp v893.1 v888.1) = 0) then none else
  (ckq v893.2 v888.2.2 48 9).bind fun u896 =>
  (q_X10_revenue K v893.2 v888.2.2 48 1 0 l30).bind fun v898 =>
  if ¬ ((lg_cmp v898.1 ((7 * (Int32.toInt64 l2)) / 1000)) = 0) then none else
  some ()
def q_law_1056 (K : Nat) (h : mm_H) (n : Nat) (l2 : Int32) (l3 : Int32) (l4 : Int32) (l5 : Int32) (l6 : Int32) (l7 : Int32) (l8 : Int32) (l9 : Int32) (l10 : Int32) (l11 : Int32) (l12 : Int32) (l13 : Int32) (l14 : Int32) (l15 : Int32) (l16 : Int32) (l17 : Int32) (l19 : Int64) (l21 : Nat) (l22 : Nat) (l23 : Nat) (l24 : Nat) (l25 : Nat) (l26 : Nat) (l27 : Nat) (l28 : Int32) (l29 : Nat) : Option Unit :=
  (ckq h n 48 9).bind fun u606 =>
  (q_X10_count K h n 48 0).bind fun v608 =>
  (newJ h n 64 64).bind fun h610 =>
  (lp_L_law_1076 K (n + 1) 48 l2 l3 l4 l5 l6 l7 l8 l9 l10 l11 l12 l13 l14 l15 l16 l17 l21 l22 l23 l24 l25 l26 l27 l28 l29 v608 l19 n K 0 h610).bind fun v617 =>
  q_law_1112 K v617 (n + 1) l2 l3 l4 l5 l6 l7 l8 l9 l10 l11 l12 l13 l14 l15 l16 l17 l21 l22 l23 l24 l25 l26 l27 l28 l29 v608 l19 n
def q_law_956 (K : Nat) (h : mm_H) (n : Nat) (l2 : Int32) (l3 : Int32) (l4 : Int32) (l5 : Int32) (l6 : Int32) (l7 : Int32) (l8 : Int32) (l9 : Int32) (l10 : Int32) (l11 : Int32) (l12 : Int32) (l13 : Int32) (l14 : Int32) (l15 : Int32) (l16 : Int32) (l17 : Int32) (l19 : Int64) (l21 : Nat) (l22 : Nat) (l23 : Nat) (l24 : Nat) (l25 : Nat) (l26 : Nat) (l27 : Nat) (l28 : Int32) (l29 : Nat) : Option Unit :=
  (lp_L_law_959 K n 0 48 l2 l3 l4 l5 l6 l7 l8 l9 l10 l11 l12 l13 l14 l15 l16 l17 l19 l21 l22 l23 l24 l25 l26 l27 l28 l29 K 0 h).bind fun v604 =>
  q_law_1056 K v604 n l2 l3 l4 l5 l6 l7 l8 l9 l10 l11 l12 l13 l14 l15 l16 l17 l19 l21 l22 l23 l24 l25 l26 l27 l28 l29
def q_law_868 (K : Nat) (h : mm_H) (n : Nat) (l2 : Int32) (l3 : Int32) (l4 : Int32) (l5 : Int32) (l6 : Int32) (l7 : Int32) (l8 : Int32) (l9 : Int32) (l10 : Int32) (l11 : Int32) (l12 : Int32) (l13 : Int32) (l14 : Int32) (l15 : Int32) (l16 : Int32) (l17 : Int32) (l19 : Int64) (l21 : Nat) (l22 : Nat) (l23 : Nat) (l24 : Nat) (l25 : Nat) (l26 : Nat) (l27 : Nat) (l28 : Int32) : Option Unit :=
  (newI h n .int 64 64).bind fun h549 =>
  (lp_L_law_877 K (n + 1) 0 48 l2 l3 l4 l5 l6 l7 l8 l9 l10 l11 l12 l13 l14 l15 l16 l17 l19 l21 l22 l23 l24 l25 l26 l27 l28 n K 0 h549).bind fun v569 =>
  q_law_956 K v569 (n + 1) l2 l3 l4 l5 l6 l7 l8 l9 l10 l11 l12 l13 l14 l15 l16 l17 l19 l21 l22 l23 l24 l25 l26 l27 l28 n
def q_law_755 (K : Nat) (h : mm_H) (n : Nat) (l2 : Int32) (l3 : Int32) (l4 : Int32) (l5 : Int32) (l6 : Int32) (l7 : Int32) (l8 : Int32) (l9 : Int32) (l10 : Int32) (l11 : Int32) (l12 : Int32) (l13 : Int32) (l14 : Int32) (l15 : Int32) (l16 : Int32) (l17 : Int32) (l19 : Int64) (l21 : Nat) (l22 : Nat) (l23 : Nat) (l24 : Nat) : Option Unit :=
  (newI h n .int 64 64).bind fun h519 =>
  (newI h519 (n + 1) .int 64 64).bind fun h521 =>
  (newI h521 (n + 2) .int 64 64).bind fun h523 =>
  (q_L_cell K h523 (n + 3) (some 0) 14).bind fun v525 =>
  (some (v525 &&& 3 : Int32)).bind fun x527 =>
  (lp_L_law_786 K (n + 3) 0 48 l2 l3 l4 l5 l6 l7 l8 l9 l10 l11 l12 l13 l14 l15 l16 l17 l19 l21 l22 l23 l24 n (n + 1) (n + 2) x527 K 0 h523).bind fun v547 =>
  q_law_868 K v547 (n + 3) l2 l3 l4 l5 l6 l7 l8 l9 l10 l11 l12 l13 l14 l15 l16 l17 l19 l21 l22 l23 l24 n (n + 1) (n + 2) x527
def q_law_485 (K : Nat) (h : mm_H) (n : Nat) (l2 : Int32) (l3 : Int32) (l4 : Int32) (l5 : Int32) (l6 : Int32) (l7 : Int32) (l8 : Int32) (l9 : Int32) (l10 : Int32) (l11 : Int32) (l12 : Int32) (l13 : Int32) (l14 : Int32) (l15 : Int32) (l16 : Int32) (l17 : Int32) (l19 : Int64) : Option Unit :=
  (newI h n .int 64 64).bind fun h439 =>
  (newI h439 (n + 1) .int 64 64).bind fun h441 =>
  (newI h441 (n + 2) .int 64 64).bind fun h443 =>
  (newI h443 (n + 3) .int 64 64).bind fun h445 =>
  (lp_L_law_512 K (n + 4) 0 48 l2 l3 l4 l5 l6 l7 l8 l9 l10 l11 l12 l13 l14 l15 l16 l17 l19 n (n + 1) (n + 2) (n + 3) K 0 h445).bind fun v517 =>
  q_law_755 K v517 (n + 4) l2 l3 l4 l5 l6 l7 l8 l9 l10 l11 l12 l13 l14 l15 l16 l17 l19 n (n + 1) (n + 2) (n + 3)
def q_law_452 (K : Nat) (h : mm_H) (n : Nat) (l2 : Int32) (l3 : Int32) (l4 : Int32) (l5 : Int32) (l6 : Int32) (l7 : Int32) (l8 : Int32) (l9 : Int32) (l10 : Int32) (l11 : Int32) (l12 : Int32) (l13 : Int32) (l14 : Int32) (l15 : Int32) (l16 : Int32) (l17 : Int32) : Option Unit :=
  (q_L_cell K h n (some 0) 3).bind fun v425 =>
  (some (Int32.toInt64 (v425 &&& 131071) : Int64)).bind fun x427 =>
  (ckq h n 48 9).bind fun u429 =>
  (q_X10_firm K h n 48 (Int64.toInt32 x427)).bind fun v431 =>
  if ¬ (v431.1 = 0) then none else
  (ckq v431.2 n 48 9).bind fun u434 =>
  (q_X10_firm K v431.2 n 48 7).bind fun v436 =>
  if ¬ (v436.1 = 1) then none else
  q_law_485 K v436.2 n l2 l3 l4 l5 l6 l7 l8 l9 l10 l11 l12 l13 l14 l15 l16 l17 x427
def q_law_434 (K : Nat) (h : mm_H) (n : Nat) (l2 : Int32) (l3 : Int32) (l4 : Int32) (l5 : Int32) (l6 : Int32) (l7 : Int32) (l8 : Int32) (l9 : Int32) (l10 : Int32) (l11 : Int32) (l12 : Int32) (l13 : Int32) (l14 : Int32) (l15 : Int32) (l16 : Int32) (l17 : Int32) (t0 : Option Nat) : Option Unit :=
  (q_L_put K 40 h n (some 48) t0).bind fun v414 =>
  (ckq v414.2.1 v414.2.2 48 9).bind fun u417 =>
  (q_X10_rules K 40 v414.2.1 v414.2.2 48 v414.1 0).bind fun v421 =>
  if ¬ (v421.1 = 0) then none else
  q_law_452 K v421.2.1 v421.2.2 l2 l3 l4 l5 l6 l7 l8 l9 l10 l11 l12 l13 l14 l15 l16 l17
def q_law_403 (K : Nat) (h : mm_H) (n : Nat) (l2 : Int32) (l3 : Int32) (l4 : Int32) (l5 : Int32) (l6 : Int32) (l7 : Int32) (l8 : Int32) (l9 : Int32) (l10 : Int32) (l11 : Int32) (l12 : Int32) (l13 : Int32) (l14 : Int32) (l15 : Int32) (l16 : Int32) (l17 : Int32) (t0 : Int32) (t1 : Option Nat) : Option Unit :=
  t1.bind fun a349 =>
  (ckq h n a349 11).bind fun u351 =>
  (q_J4_append_bf812 K h n a349 t0).bind fun v355 =>
  v355.1.bind fun a358 =>
  (ckq v355.2.1 v355.2.2 a358 11).bind fun u360 =>
  (q_J4_append_15ec4 K v355.2.1 v355.2.2 a358 (some 1000017)).bind fun v364 =>
  v364.1.bind fun a367 =>
  (ckq v364.2.1 v364.2.2 a367 11).bind fun u369 =>
  (q_J4_append_bf812 K v364.2.1 v364.2.2 a367 l14).bind fun v373 =>
  v373.1.bind fun a376 =>
  (ckq v373.2.1 v373.2.2 a376 11).bind fun u378 =>
  (q_J4_append_15ec4 K v373.2.1 v373.2.2 a376 (some 1000018)).bind fun v382 =>
  v382.1.bind fun a385 =>
  (ckq v382.2.1 v382.2.2 a385 11).bind fun u387 =>
  (q_J4_append_bf812 K v382.2.1 v382.2.2 a385 l15).bind fun v391 =>
  v391.1.bind fun a394 =>
  (ckq v391.2.1 v391.2.2 a394 11).bind fun u396 =>
  (q_J4_append_15ec4 K v391.2.1 v391.2.2 a394 (some 1000006)).bind fun v400 =>
  v400.1.bind fun a403 =>
  (ckq v400.2.1 v400.2.2 a403 11).bind fun u405 =>
  (q_J4_toString_0e30d K v400.2.1 v400.2.2 a403).bind fun v409 =>
  q_law_434 K v409.2.1 v409.2.2 l2 l3 l4 l5 l6 l7 l8 l9 l10 l11 l12 l13 l14 l15 l16 l17 v409.1
def q_law_378 (K : Nat) (h : mm_H) (n : Nat) (l2 : Int32) (l3 : Int32) (l4 : Int32) (l5 : Int32) (l6 : Int32) (l7 : Int32) (l8 : Int32) (l9 : Int32) (l10 : Int32) (l11 : Int32) (l12 : Int32) (l13 : Int32) (l14 : Int32) (l15 : Int32) (l16 : Int32) (l17 : Int32) (t0 : Nat) (t1 : Option Nat) : Option Unit :=
  t1.bind fun a304 =>
  (ckq h n a304 11).bind fun u306 =>
  (q_J4_append_15ec4 K h n a304 (some t0)).bind fun v310 =>
  v310.1.bind fun a313 =>
  (ckq v310.2.1 v310.2.2 a313 11).bind fun u315 =>
  (q_J4_append_bf812 K v310.2.1 v310.2.2 a313 l11).bind fun v319 =>
  v319.1.bind fun a322 =>
  (ckq v319.2.1 v319.2.2 a322 11).bind fun u324 =>
  (q_J4_append_15ec4 K v319.2.1 v319.2.2 a322 (some 1000015)).bind fun v328 =>
  v328.1.bind fun a331 =>
  (ckq v328.2.1 v328.2.2 a331 11).bind fun u333 =>
  (q_J4_append_bf812 K v328.2.1 v328.2.2 a331 l12).bind fun v337 =>
  v337.1.bind fun a340 =>
  (ckq v337.2.1 v337.2.2 a340 11).bind fun u342 =>
  (q_J4_append_15ec4 K v337.2.1 v337.2.2 a340 (some 1000016)).bind fun v346 =>
  q_law_403 K v346.2.1 v346.2.2 l2 l3 l4 l5 l6 l7 l8 l9 l10 l11 l12 l13 l14 l15 l16 l17 l13 v346.1
def q_law_346 (K : Nat) (h : mm_H) (n : Nat) (l2 : Int32) (l3 : Int32) (l4 : Int32) (l5 : Int32) (l6 : Int32) (l7 : Int32) (l8 : Int32) (l9 : Int32) (l10 : Int32) (l11 : Int32) (l12 : Int32) (l13 : Int32) (l14 : Int32) (l15 : Int32) (l16 : Int32) (l17 : Int32) (t0 : Option Nat) : Option Unit :=
  t0.bind fun a264 =>
  (ckq h n a264 11).bind fun u266 =>
  (q_J4_append_bf812 K h n a264 l9).bind fun v270 =>
  v270.1.bind fun a273 =>
  (ckq v270.2.1 v270.2.2 a273 11).bind fun u275 =>
  (q_J4_append_15ec4 K v270.2.1 v270.2.2 a273 (some 1000011)).bind fun v279 =>
  v279.1.bind fun a282 =>
  (ckq v279.2.1 v279.2.2 a282 11).bind fun u284 =>
  (q_J4_append_bf812 K v279.2.1 v279.2.2 a282 l10).bind fun v288 =>
  v288.1.bind fun a291 =>
  (ckq v288.2.1 v288.2.2 a291 11).bind fun u293 =>
  (q_J4_append_15ec4 K v288.2.1 v288.2.2 a291 (some 1000012)).bind fun v297 =>
  ((if l16 = 0 then
    some (1000014)
  else
    some (1000013)
   : Option (Nat))).bind fun y301 =>
  q_law_378 K v297.2.1 v297.2.2 l2 l3 l4 l5 l6 l7 l8 l9 l10 l11 l12 l13 l14 l15 l16 l17 y301 v297.1
def q_law_318 (K : Nat) (h : mm_H) (n : Nat) (l2 : Int32) (l3 : Int32) (l4 : Int32) (l5 : Int32) (l6 : Int32) (l7 : Int32) (l8 : Int32) (l9 : Int32) (l10 : Int32) (l11 : Int32) (l12 : Int32) (l13 : Int32) (l14 : Int32) (l15 : Int32) (l16 : Int32) (l17 : Int32) (t0 : Option Nat) (t1 : Option Nat) : Option Unit :=
  t1.bind fun a210 =>
  (ckq h n a210 11).bind fun u212 =>
  (q_J4_append_15ec4 K h n a210 t0).bind fun v216 =>
  v216.1.bind fun a219 =>
  (ckq v216.2.1 v216.2.2 a219 11).bind fun u221 =>
  (q_J4_append_15ec4 K v216.2.1 v216.2.2 a219 (some 1000008)).bind fun v225 =>
  v225.1.bind fun a228 =>
  (ckq v225.2.1 v225.2.2 a228 11).bind fun u230 =>
  (q_J4_append_bf812 K v225.2.1 v225.2.2 a228 l7).bind fun v234 =>
  v234.1.bind fun a237 =>
  (ckq v234.2.1 v234.2.2 a237 11).bind fun u239 =>
  (q_J4_append_15ec4 K v234.2.1 v234.2.2 a237 (some 1000009)).bind fun v243 =>
  v243.1.bind fun a246 =>
  (ckq v243.2.1 v243.2.2 a246 11).bind fun u248 =>
  (q_J4_append_bf812 K v243.2.1 v243.2.2 a246 l8).bind fun v252 =>
  v252.1.bind fun a255 =>
  (ckq v252.2.1 v252.2.2 a255 11).bind fun u257 =>
  (q_J4_append_15ec4 K v252.2.1 v252.2.2 a255 (some 1000010)).bind fun v261 =>
  q_law_346 K v261.2.1 v261.2.2 l2 l3 l4 l5 l6 l7 l8 l9 l10 l11 l12 l13 l14 l15 l16 l17 v261.1
def q_law_263 (K : Nat) (h : mm_H) (n : Nat) (l2 : Int32) (l3 : Int32) (l4 : Int32) (l5 : Int32) (l6 : Int32) (l7 : Int32) (l8 : Int32) (l9 : Int32) (l10 : Int32) (l11 : Int32) (l12 : Int32) (l13 : Int32) (l14 : Int32) (l15 : Int32) (l16 : Int32) (l17 : Int32) (t0 : Option Nat) : Option Unit :=
  t0.bind fun a126 =>
  (ckq h n a126 11).bind fun u128 =>
  (q_J4_append_bf812 K h n a126 l4).bind fun v132 =>
  v132.1.bind fun a135 =>
  (ckq v132.2.1 v132.2.2 a135 11).bind fun u137 =>
  (q_J4_append_15ec4 K v132.2.1 v132.2.2 a135 (some 1000003)).bind fun v141 =>
  v141.1.bind fun a144 =>
  (ckq v141.2.1 v141.2.2 a144 11).bind fun u146 =>
  (q_J4_append_bf812 K v141.2.1 v141.2.2 a144 l5).bind fun v150 =>
  v150.1.bind fun a153 =>
  (ckq v150.2.1 v150.2.2 a153 11).bind fun u155 =>
  (q_J4_append_15ec4 K v150.2.1 v150.2.2 a153 (some 1000004)).bind fun v159 =>
  ((if l17 = 0 then
    some ((some 1000007), v159.2.1, v159.2.2)
  else
    (newO v159.2.1 v159.2.2 11 [.null, .int 0, .int 0, .int 0]).bind fun h168 =>
    (q_J4_init_da8c8 K h168 (v159.2.2 + 1) v159.2.2).bind fun v172 =>
    (ckq v172.1 v172.2 v159.2.2 11).bind fun u175 =>
    (q_J4_append_15ec4 K v172.1 v172.2 v159.2.2 (some 1000005)).bind fun v179 =>
    v179.1.bind fun a182 =>
    (ckq v179.2.1 v179.2.2 a182 11).bind fun u184 =>
    (q_J4_append_bf812 K v179.2.1 v179.2.2 a182 l6).bind fun v188 =>
    v188.1.bind fun a191 =>
    (ckq v188.2.1 v188.2.2 a191 11).bind fun u193 =>
    (q_J4_append_15ec4 K v188.2.1 v188.2.2 a191 (some 1000006)).bind fun v197 =>
    v197.1.bind fun a200 =>
    (ckq v197.2.1 v197.2.2 a200 11).bind fun u202 =>
    (q_J4_toString_0e30d K v197.2.1 v197.2.2 a200).bind fun v206 =>
    some (v206.1, v206.2.1, v206.2.2)
   : Option ((Option Nat) × mm_H × Nat))).bind fun (y163, h164, n165) =>
  if n165 < 48 then none else
  q_law_318 K h164 n165 l2 l3 l4 l5 l6 l7 l8 l9 l10 l11 l12 l13 l14 l15 l16 l17 y163 v159.1
def q_law_233 (K : Nat) (h : mm_H) (n : Nat) (l2 : Int32) (l3 : Int32) (l4 : Int32) (l5 : Int32) (l6 : Int32) (l7 : Int32) (l8 : Int32) (l9 : Int32) (l10 : Int32) (l11 : Int32) (l12 : Int32) (l13 : Int32) (l14 : Int32) (l15 : Int32) (l16 : Int32) (l17 : Int32) : Option Unit :=
  (newO h n 11 [.null, .int 0, .int 0, .int 0]).bind fun h76 =>
  (q_J4_init_da8c8 K h76 (n + 1) n).bind fun v80 =>
  (ckq v80.1 v80.2 n 11).bind fun u83 =>
  (q_J4_append_15ec4 K v80.1 v80.2 n (some 1000000)).bind fun v87 =>
  v87.1.bind fun a90 =>
  (ckq v87.2.1 v87.2.2 a90 11).bind fun u92 =>
  (q_J4_append_bf812 K v87.2.1 v87.2.2 a90 l2).bind fun v96 =>
  v96.1.bind fun a99 =>
  (ckq v96.2.1 v96.2.2 a99 11).bind fun u101 =>
  (q_J4_append_15ec4 K v96.2.1 v96.2.2 a99 (some 1000001)).bind fun v105 =>
  v105.1.bind fun a108 =>
  (ckq v105.2.1 v105.2.2 a108 11).bind fun u110 =>
  (q_J4_append_bf812 K v105.2.1 v105.2.2 a108 l3).bind fun v114 =>
  v114.1.bind fun a117 =>
  (ckq v114.2.1 v114.2.2 a117 11).bind fun u119 =>
  (q_J4_append_15ec4 K v114.2.1 v114.2.2 a117 (some 1000002)).bind fun v123 =>
  q_law_263 K v123.2.1 v123.2.2 l2 l3 l4 l5 l6 l7 l8 l9 l10 l11 l12 l13 l14 l15 l16 l17 v123.1
def q_law (K : Nat) (h : mm_H) : Option Unit :=
  (newO h 48 9 [.null, .null, .null, .null, .null, .int 0, .null, .int 0, .null, .null, .int 0, .null]).bind fun h1 =>
  (q_X10_init K h1 (48 + 1) 48).bind fun v5 =>
  (q_L_cell K v5.1 v5.2 (some 0) 0).bind fun v8 =>
  (some (v8 &&& 127 : Int32)).bind fun x10 =>
  (q_L_cell K v5.1 v5.2 (some 0) 0).bind fun v12 =>
  (some ((80 : Int32) + ((v12 >>> (7 &&& 31)) &&& 63) : Int32)).bind fun x14 =>
  (q_L_cell K v5.1 v5.2 (some 0) 0).bind fun v16 =>
  (some ((v16 >>> (13 &&& 31)) &&& 31 : Int32)).bind fun x18 =>
  (q_L_cell K v5.1 v5.2 (some 0) 0).bind fun v20 =>
  (some ((v20 >>> (18 &&& 31)) &&& 63 : Int32)).bind fun x22 =>
  (q_L_cell K v5.1 v5.2 (some 0) 0).bind fun v24 =>
  (some ((v24 >>> (24 &&& 31)) &&& 63 : Int32)).bind fun x26 =>
  (q_L_cell K v5.1 v5.2 (some 0) 1).bind fun v28 =>
  (some (v28 &&& 63 : Int32)).bind fun x30 =>
  (q_L_cell K v5.1 v5.2 (some 0) 1).bind fun v32 =>
  (some ((v32 >>> (6 &&& 31)) &&& 127 : Int32)).bind fun x34 =>
  (q_L_cell K v5.1 v5.2 (some 0) 1).bind fun v36 =>
  (some ((((v36 >>> (13 &&& 31)) &&& 127) : Int32) - (((v36 >>> (13 &&& 31)) &&& 127) : Int32) / 101 * 101 : Int32)).bind fun x38 =>
  (q_L_cell K v5.1 v5.2 (some 0) 1).bind fun v40 =>
  (some ((((v40 >>> (20 &&& 31)) &&& 127) : Int32) - (((v40 >>> (20 &&& 31)) &&& 127) : Int32) / 101 * 101 : Int32)).bind fun x42 =>
  (q_L_cell K v5.1 v5.2 (some 0) 2).bind fun v44 =>
  (some (v44 &&& 63 : Int32)).bind fun x46 =>
  (q_L_cell K v5.1 v5.2 (some 0) 2).bind fun v48 =>
  (some ((1 : Int32) + ((v48 >>> (6 &&& 31)) &&& 7) : Int32)).bind fun x50 =>
  (q_L_cell K v5.1 v5.2 (some 0) 2).bind fun v52 =>
  (some ((v52 >>> (9 &&& 31)) &&& 31 : Int32)).bind fun x54 =>
  (q_L_cell K v5.1 v5.2 (some 0) 2).bind fun v56 =>
  (some ((v56 >>> (14 &&& 31)) &&& 7 : Int32)).bind fun x58 =>
  (q_L_cell K v5.1 v5.2 (some 0) 2).bind fun v60 =>
  (some ((v60 >>> (17 &&& 31)) &&& 255 : Int32)).bind fun x62 =>
  (q_L_cell K v5.1 v5.2 (some 0) 2).bind fun v64 =>
  ((if ((v64 >>> (25 &&& 31)) &&& 1) = 1 then
    some (1)
  else
    some (0)
   : Option (Int32))).bind fun y67 =>
  (q_L_cell K v5.1 v5.2 (some 0) 2).bind fun v70 =>
  ((if ((v70 >>> (26 &&& 31)) &&& 1) = 1 then
    some (1)
  else
    some (0)
   : Option (Int32))).bind fun y73 =>
  q_law_233 K v5.1 v5.2 x10 x14 x18 x22 x26 x30 x34 x38 x42 x46 x50 x54 x58 x62 y67 y73
set_option maxRecDepth 100000 in
set_option maxHeartbeats 4000000 in
theorem w_L_law_665 {K : Nat} {nm_ : String} {W0 : mm_X} {G : mm_G} {mc ms kc ks : Nat} {Q_ : State → Prop} {n : Nat} (C : mm_C W0 G cL_law yL_law.cls 73 mc ms (some .boolean) 300 nm_) (hn : 48 ≤ n) (l0 : Nat) (l1 : Nat) (l2 : Int32) (l3 : Int32) (l4 : Int32) (l5 : Int32) (l6 : Int32) (l7 : Int32) (l8 : Int32) (l9 : Int32) (l10 : Int32) (l11 : Int32) (l12 : Int32) (l13 : Int32) (l14 : Int32) (l15 : Int32) (l16 : Int32) (l17 : Int32) (l19 : Int64) (l21 : Nat) (l22 : Nat) (l23 : Nat) (l24 : Nat) (l25 : Int32) : ∀ (k_ : Nat) (l27 : Int32) (h : mm_H) {r_ : mm_H} (hr : lp_L_law_665 K n l0 l1 l2 l3 l4 l5 l6 l7 l8 l9 l10 l11 l12 l13 l14 l15 l16 l17 l19 l21 l22 l23 l24 l25 k_ l27 h = some r_) (hx0 : WW W0 G 73 mc ms Q_ 749 [some (.ref l0), some (.ref l1), some (.int l2), some (.int l3), some (.int l4), some (.int l5), some (.int l6), some (.int l7), some (.int l8), some (.int l9), some (.int l10), some (.int l11), some (.int l12), some (.int l13), some (.int l14), some (.int l15), some (.int l16), some (.int l17), none, some (.long l19), none, some (.ref l21), some (.ref l22), some (.ref l23), some (.ref l24), some (.int l25), none, none, none, none, none, none, none, none, none, none, none, none, none, none, none, none, none, none, none, none, none, none, none, none, none, none, none, none, none, none, none, none, none, none, none, none, none, none, none, none, none, none, none, none, none, none, none] [] r_ n kc ks), WW W0 G 73 mc ms Q_ 665 [some (.ref l0), some (.ref l1), some (.int l2), some (.int l3), some (.int l4), some (.int l5), some (.int l6), some (.int l7), some (.int l8), some (.int l9), some (.int l10), some (.int l11), some (.int l12), some (.int l13), some (.int l14), some (.int l15), some (.int l16), some (.int l17), none, some (.long l19), none, some (.ref l21), some (.ref l22), some (.ref l23), some (.ref l24), some (.int l25), none, some (.int l27), none, none, none, none, none, none, none, none, none, none, none, none, none, none, none, none, none, none, none, none, none, none, none, none, none, none, none, none, none, none, none, none, none, none, none, none, none, none, none, none, none, none, none, none, none] [] h n kc ks := by
  intro k_
  induction k_ with
  | zero =>
    intro l27 h r_ hr
    cases hr
  | succ k_ ih_ =>
    intro l27 h r_ hr hx0
    unfold lp_L_law_665 at hr
    refine rr_iload C dL_law_665 rfl ?_
    refine rr_iconst (v := 3) C dL_law_667 (by decide) ?_
    refine rr_icmp_ge (tgt := 749) C dL_law_668 (by decide) (fun c668_ => ?_) (fun c668_ => ?_)
    · replace hr := (if_pos c668_).symm.trans hr
      obtain rfl := Option.some.inj hr
      exact rr_keep [true, true, true, true, true, true, true, true, true, true, true, true, true, true, true, true, true, true, false, true, false, true, true, true, true, true, false, false, false, false, false, false, false, false, false, false, false, false, false, false, false, false, false, false, false, false, false, false, false, false, false, false, false, false, false, false, false, false, false, false, false, false, false, false, false, false, false, false, false, false, false, false, false] (hx0)
    · replace hr := (if_neg c668_).symm.trans hr
      refine rr_aload C dL_law_671 rfl ?_
      refine rr_bipush (v := 8) C dL_law_673 (by decide) ?_
      refine rr_iload C dL_law_675 rfl ?_
      refine rr_imul C dL_law_677 ?_
      refine rr_iload C dL_law_678 rfl ?_
      refine rr_iadd C dL_law_680 ?_
      refine rr_aload_n (i := 0) C dL_law_681 rfl rfl ?_
      refine rr_bipush (v := 9) C dL_law_682 (by decide) ?_
      refine rr_iload C dL_law_684 rfl ?_
      refine rr_iadd C dL_law_686 ?_
      replace hr := Option.bind_eq_some_iff.mp hr
      obtain ⟨v498, e499, hr⟩ := hr
      refine rr_callS (as := [.ref l0, .int (9 + l25)]) (st := [.int ((8 * l27) + l25), .ref l24]) (mc' := 0) (ms' := 0) C dL_law_687 it_L_24 (by decide) (Nat.le_of_ble_eq_true rfl) (c_L_cell (some l0) (9 + l25) (by omega) e499) (fun v_ h_ n_ q_ => ?_)
      obtain ⟨q1_, q2_, q3_⟩ := q_
      subst v_; subst h_; subst n_
      show WW W0 G 73 _ _ _ 690 [some (.ref l0), some (.ref l1), some (.int l2), some (.int l3), some (.int l4), some (.int l5), some (.int l6), some (.int l7), some (.int l8), some (.int l9), some (.int l10), some (.int l11), some (.int l12), some (.int l13), some (.int l14), some (.int l15), some (.int l16), some (.int l17), none, some (.long l19), none, some (.ref l21), some (.ref l22), some (.ref l23), some (.ref l24), some (.int l25), none, some (.int l27), none, none, none, none, none, none, none, none, none, none, none, none, none, none, none, none, none, none, none, none, none, none, none, none, none, none, none, none, none, none, none, none, none, none, none, none, none, none, none, none, none, none, none, none, none] [.int v498, .int ((8 * l27) + l25), .ref l24] h n _ _
      refine rr_bipush (v := 8) C dL_law_690 (by decide) ?_
      refine rr_iload C dL_law_692 rfl ?_
      refine rr_imul C dL_law_694 ?_
      refine rr_ishr C dL_law_695 ?_
      refine rr_sipush (v := 255) C dL_law_696 (by decide) ?_
      refine rr_iand C dL_law_699 ?_
      replace hr := Option.bind_eq_some_iff.mp hr
      obtain ⟨h500, e501, hr⟩ := hr
      refine rr_stI C dL_law_700 e501 ?_
      refine rr_aload C dL_law_701 rfl ?_
      refine rr_bipush (v := 8) C dL_law_703 (by decide) ?_
      refine rr_iload C dL_law_705 rfl ?_
      refine rr_imul C dL_law_707 ?_
      refine rr_iload C dL_law_708 rfl ?_
      refine rr_iadd C dL_law_710 ?_
      replace hr := Option.bind_eq_some_iff.mp hr
      obtain ⟨v502, e503, hr⟩ := hr
      refine rr_ldI C dL_law_711 e503 ?_
      replace hr := Option.bind_eq_some_iff.mp hr
      obtain ⟨h505, er507, hr⟩ := hr
      refine rr_join0 (pc' := 743) (L' := [some (.ref l0), some (.ref l1), some (.int l2), some (.int l3), some (.int l4), some (.int l5), some (.int l6), some (.int l7), some (.int l8), some (.int l9), some (.int l10), some (.int l11), some (.int l12), some (.int l13), some (.int l14), some (.int l15), some (.int l16), some (.int l17), none, some (.long l19), none, some (.ref l21), some (.ref l22), some (.ref l23), some (.ref l24), some (.int l25), none, some (.int l27), none, none, none, none, none, none, none, none, none, none, none, none, none, none, none, none, none, none, none, none, none, none, none, none, none, none, none, none, none, none, none, none, none, none, none, none, none, none, none, none, none, none, none, none, none]) (st' := []) (h' := h505) (n' := n) C (fun hj506 => ?_) ?_
      · have hr := er507
        refine rr_if_le (tgt := 743) C dL_law_712 (by decide) (fun c504 => ?_) (fun c504 => ?_)
        · replace hr := (if_pos c504).symm.trans hr
          cases hr
          exact rr_keep [true, true, true, true, true, true, true, true, true, true, true, true, true, true, true, true, true, true, false, true, false, true, true, true, true, true, false, true, false, false, false, false, false, false, false, false, false, false, false, false, false, false, false, false, false, false, false, false, false, false, false, false, false, false, false, false, false, false, false, false, false, false, false, false, false, false, false, false, false, false, false, false, false] hj506
        · replace hr := (if_neg c504).symm.trans hr
          refine rr_aload_n (i := 1) C dL_law_715 rfl rfl ?_
          refine rr_iconst (v := 0) C dL_law_716 (by decide) ?_
          refine rr_iload C dL_law_717 rfl ?_
          refine rr_bipush (v := 11) C dL_law_719 (by decide) ?_
          refine rr_iload C dL_law_721 rfl ?_
          refine rr_iadd C dL_law_723 ?_
          refine rr_aload C dL_law_724 rfl ?_
          refine rr_bipush (v := 8) C dL_law_726 (by decide) ?_
          refine rr_iload C dL_law_728 rfl ?_
          refine rr_imul C dL_law_730 ?_
          refine rr_iload C dL_law_731 rfl ?_
          refine rr_iadd C dL_law_733 ?_
          replace hr := Option.bind_eq_some_iff.mp hr
          obtain ⟨v508, e509, hr⟩ := hr
          refine rr_ldI C dL_law_734 e509 ?_
          replace hr := Option.bind_eq_some_iff.mp hr
          obtain ⟨u510, e511, hr⟩ := hr
          replace hr := Option.bind_eq_some_iff.mp hr
          obtain ⟨v512, e513, hr⟩ := hr
          refine rr_callVq (as := [.int 0, .int l25, .int (11 + l27), .int v508]) (st := []) (mc' := 0) (ms' := 0) C dL_law_735 iv_L_95 (by decide) e511 rfl (Nat.le_of_ble_eq_true rfl) (c_X10_fact l1 0 l25 (11 + l27) v508 (by omega) e513) (fun v_ h_ n_ q_ => ?_)
          obtain ⟨q1_, q2_, q3_⟩ := q_
          subst v_; subst h_; subst n_
          show WW W0 G 73 _ _ _ 738 [some (.ref l0), some (.ref l1), some (.int l2), some (.int l3), some (.int l4), some (.int l5), some (.int l6), some (.int l7), some (.int l8), some (.int l9), some (.int l10), some (.int l11), some (.int l12), some (.int l13), some (.int l14), some (.int l15), some (.int l16), some (.int l17), none, some (.long l19), none, some (.ref l21), some (.ref l22), some (.ref l23), some (.ref l24), some (.int l25), none, some (.int l27), none, none, none, none, none, none, none, none, none, none, none, none, none, none, none, none, none, none, none, none, none, none, none, none, none, none, none, none, none, none, none, none, none, none, none, none, none, none, none, none, none, none, none, none, none] [.int v512.1] v512.2 n _ _
          obtain ⟨c514, hr⟩ := ite_nn hr
          refine rr_if_ge (tgt := 743) C dL_law_738 (by decide) (fun _ => ?_) (fun q_ => absurd c514 q_)
          cases hr
          exact rr_keep [true, true, true, true, true, true, true, true, true, true, true, true, true, true, true, true, true, true, false, true, false, true, true, true, true, true, false, true, false, false, false, false, false, false, false, false, false, false, false, false, false, false, false, false, false, false, false, false, false, false, false, false, false, false, false, false, false, false, false, false, false, false, false, false, false, false, false, false, false, false, false, false, false] hj506
      refine rr_iinc (v := l27 + 1) C dL_law_743 rfl rfl ?_
      show WW W0 G 73 _ _ _ 746 [some (.ref l0), some (.ref l1), some (.int l2), some (.int l3), some (.int l4), some (.int l5), some (.int l6), some (.int l7), some (.int l8), some (.int l9), some (.int l10), some (.int l11), some (.int l12), some (.int l13), some (.int l14), some (.int l15), some (.int l16), some (.int l17), none, some (.long l19), none, some (.ref l21), some (.ref l22), some (.ref l23), some (.ref l24), some (.int l25), none, some (.int (l27 + 1)), none, none, none, none, none, none, none, none, none, none, none, none, none, none, none, none, none, none, none, none, none, none, none, none, none, none, none, none, none, none, none, none, none, none, none, none, none, none, none, none, none, none, none, none, none] [] h505 n _ _
      refine rr_goto (tgt := 665) C dL_law_746 (by decide) ?_
      exact rr_keep [true, true, true, true, true, true, true, true, true, true, true, true, true, true, true, true, true, true, false, true, false, true, true, true, true, true, false, true, false, false, false, false, false, false, false, false, false, false, false, false, false, false, false, false, false, false, false, false, false, false, false, false, false, false, false, false, false, false, false, false, false, false, false, false, false, false, false, false, false, false, false, false, false] (ih_ _ _ hr hx0)
set_option maxRecDepth 100000 in
set_option maxHeartbeats 4000000 in
theorem w_L_law_512 {K : Nat} {nm_ : String} {W0 : mm_X} {G : mm_G} {mc ms kc ks : Nat} {Q_ : State → Prop} {n : Nat} (C : mm_C W0 G cL_law yL_law.cls 73 mc ms (some .boolean) 300 nm_) (hn : 48 ≤ n) (l0 : Nat) (l1 : Nat) (l2 : Int32) (l3 : Int32) (l4 : Int32) (l5 : Int32) (l6 : Int32) (l7 : Int32) (l8 : Int32) (l9 : Int32) (l10 : Int32) (l11 : Int32) (l12 : Int32) (l13 : Int32) (l14 : Int32) (l15 : Int32) (l16 : Int32) (l17 : Int32) (l19 : Int64) (l21 : Nat) (l22 : Nat) (l23 : Nat) (l24 : Nat) : ∀ (k_ : Nat) (l25 : Int32) (h : mm_H) {r_ : mm_H} (hr : lp_L_law_512 K n l0 l1 l2 l3 l4 l5 l6 l7 l8 l9 l10 l11 l12 l13 l14 l15 l16 l17 l19 l21 l22 l23 l24 k_ l25 h = some r_) (hx0 : WW W0 G 73 mc ms Q_ 755 [some (.ref l0), some (.ref l1), some (.int l2), some (.int l3), some (.int l4), some (.int l5), some (.int l6), some (.int l7), some (.int l8), some (.int l9), some (.int l10), some (.int l11), some (.int l12), some (.int l13), some (.int l14), some (.int l15), some (.int l16), some (.int l17), none, some (.long l19), none, some (.ref l21), some (.ref l22), some (.ref l23), some (.ref l24), none, none, none, none, none, none, none, none, none, none, none, none, none, none, none, none, none, none, none, none, none, none, none, none, none, none, none, none, none, none, none, none, none, none, none, none, none, none, none, none, none, none, none, none, none, none, none, none] [] r_ n kc ks), WW W0 G 73 mc ms Q_ 512 [some (.ref l0), some (.ref l1), some (.int l2), some (.int l3), some (.int l4), some (.int l5), some (.int l6), some (.int l7), some (.int l8), some (.int l9), some (.int l10), some (.int l11), some (.int l12), some (.int l13), some (.int l14), some (.int l15), some (.int l16), some (.int l17), none, some (.long l19), none, some (.ref l21), some (.ref l22), some (.ref l23), some (.ref l24), some (.int l25), none, none, none, none, none, none, none, none, none, none, none, none, none, none, none, none, none, none, none, none, none, none, none, none, none, none, none, none, none, none, none, none, none, none, none, none, none, none, none, none, none, none, none, none, none, none, none] [] h n kc ks := by
  intro k_
  induction k_ with
  | zero =>
    intro l25 h r_ hr
    cases hr
  | succ k_ ih_ =>
    intro l25 h r_ hr hx0
    unfold lp_L_law_512 at hr
    refine rr_iload C dL_law_512 rfl ?_
    refine rr_iconst (v := 5) C dL_law_514 (by decide) ?_
    refine rr_icmp_ge (tgt := 755) C dL_law_515 (by decide) (fun c515_ => ?_) (fun c515_ => ?_)
    · replace hr := (if_pos c515_).symm.trans hr
      obtain rfl := Option.some.inj hr
      exact rr_keep [true, true, true, true, true, true, true, true, true, true, true, true, true, true, true, true, true, true, false, true, false, true, true, true, true, false, false, false, false, false, false, false, false, false, false, false, false, false, false, false, false, false, false, false, false, false, false, false, false, false, false, false, false, false, false, false, false, false, false, false, false, false, false, false, false, false, false, false, false, false, false, false, false] (hx0)
    · replace hr := (if_neg c515_).symm.trans hr
      refine rr_aload_n (i := 0) C dL_law_518 rfl rfl ?_
      refine rr_iconst (v := 4) C dL_law_519 (by decide) ?_
      refine rr_iload C dL_law_520 rfl ?_
      refine rr_iadd C dL_law_522 ?_
      replace hr := Option.bind_eq_some_iff.mp hr
      obtain ⟨v448, e449, hr⟩ := hr
      refine rr_callS (as := [.ref l0, .int (4 + l25)]) (st := []) (mc' := 0) (ms' := 0) C dL_law_523 it_L_24 (by decide) (Nat.le_of_ble_eq_true rfl) (c_L_cell (some l0) (4 + l25) (by omega) e449) (fun v_ h_ n_ q_ => ?_)
      obtain ⟨q1_, q2_, q3_⟩ := q_
      subst v_; subst h_; subst n_
      show WW W0 G 73 _ _ _ 526 [some (.ref l0), some (.ref l1), some (.int l2), some (.int l3), some (.int l4), some (.int l5), some (.int l6), some (.int l7), some (.int l8), some (.int l9), some (.int l10), some (.int l11), some (.int l12), some (.int l13), some (.int l14), some (.int l15), some (.int l16), some (.int l17), none, some (.long l19), none, some (.ref l21), some (.ref l22), some (.ref l23), some (.ref l24), some (.int l25), none, none, none, none, none, none, none, none, none, none, none, none, none, none, none, none, none, none, none, none, none, none, none, none, none, none, none, none, none, none, none, none, none, none, none, none, none, none, none, none, none, none, none, none, none, none, none] [.int v448] h n _ _
      refine rr_istore C dL_law_526 (by decide) ?_
      show WW W0 G 73 _ _ _ 528 [some (.ref l0), some (.ref l1), some (.int l2), some (.int l3), some (.int l4), some (.int l5), some (.int l6), some (.int l7), some (.int l8), some (.int l9), some (.int l10), some (.int l11), some (.int l12), some (.int l13), some (.int l14), some (.int l15), some (.int l16), some (.int l17), none, some (.long l19), none, some (.ref l21), some (.ref l22), some (.ref l23), some (.ref l24), some (.int l25), some (.int v448), none, none, none, none, none, none, none, none, none, none, none, none, none, none, none, none, none, none, none, none, none, none, none, none, none, none, none, none, none, none, none, none, none, none, none, none, none, none, none, none, none, none, none, none, none, none] [] h n _ _
      refine rr_aload C dL_law_528 rfl ?_
      refine rr_iload C dL_law_530 rfl ?_
      refine rr_iload C dL_law_532 rfl ?_
      refine rr_sipush (v := 1023) C dL_law_534 (by decide) ?_
      refine rr_iand C dL_law_537 ?_
      replace hr := Option.bind_eq_some_iff.mp hr
      obtain ⟨h450, e451, hr⟩ := hr
      refine rr_stI C dL_law_538 e451 ?_
      refine rr_aload C dL_law_539 rfl ?_
      refine rr_iload C dL_law_541 rfl ?_
      refine rr_iload C dL_law_543 rfl ?_
      refine rr_bipush (v := 10) C dL_law_545 (by decide) ?_
      refine rr_ishr C dL_law_547 ?_
      refine rr_iconst (v := 3) C dL_law_548 (by decide) ?_
      refine rr_iand C dL_law_549 ?_
      replace hr := Option.bind_eq_some_iff.mp hr
      obtain ⟨y453, er455, hr⟩ := hr
      refine rr_join0 (pc' := 566) (L' := [some (.ref l0), some (.ref l1), some (.int l2), some (.int l3), some (.int l4), some (.int l5), some (.int l6), some (.int l7), some (.int l8), some (.int l9), some (.int l10), some (.int l11), some (.int l12), some (.int l13), some (.int l14), some (.int l15), some (.int l16), some (.int l17), none, some (.long l19), none, some (.ref l21), some (.ref l22), some (.ref l23), some (.ref l24), some (.int l25), some (.int v448), none, none, none, none, none, none, none, none, none, none, none, none, none, none, none, none, none, none, none, none, none, none, none, none, none, none, none, none, none, none, none, none, none, none, none, none, none, none, none, none, none, none, none, none, none, none]) (st' := [.int y453, .int l25, .ref l21]) (h' := h450) (n' := n) C (fun hj454 => ?_) ?_
      · have hr := er455
        refine rr_if_ne (tgt := 557) C dL_law_550 (by decide) (fun c452 => ?_) (fun c452 => ?_)
        · replace hr := (if_neg c452).symm.trans hr
          refine rr_iload C dL_law_557 rfl ?_
          refine rr_bipush (v := 12) C dL_law_559 (by decide) ?_
          refine rr_ishr C dL_law_561 ?_
          refine rr_sipush (v := 1023) C dL_law_562 (by decide) ?_
          refine rr_iand C dL_law_565 ?_
          cases hr
          exact rr_keep [true, true, true, true, true, true, true, true, true, true, true, true, true, true, true, true, true, true, false, true, false, true, true, true, true, true, true, false, false, false, false, false, false, false, false, false, false, false, false, false, false, false, false, false, false, false, false, false, false, false, false, false, false, false, false, false, false, false, false, false, false, false, false, false, false, false, false, false, false, false, false, false, false] hj454
        · replace hr := (if_pos c452).symm.trans hr
          refine rr_iconst (v := (-1)) C dL_law_553 (by decide) ?_
          refine rr_goto (tgt := 566) C dL_law_554 (by decide) ?_
          cases hr
          exact rr_keep [true, true, true, true, true, true, true, true, true, true, true, true, true, true, true, true, true, true, false, true, false, true, true, true, true, true, true, false, false, false, false, false, false, false, false, false, false, false, false, false, false, false, false, false, false, false, false, false, false, false, false, false, false, false, false, false, false, false, false, false, false, false, false, false, false, false, false, false, false, false, false, false, false] hj454
      replace hr := Option.bind_eq_some_iff.mp hr
      obtain ⟨h456, e457, hr⟩ := hr
      refine rr_stI C dL_law_566 e457 ?_
      refine rr_aload C dL_law_567 rfl ?_
      refine rr_iload C dL_law_569 rfl ?_
      refine rr_iload C dL_law_571 rfl ?_
      refine rr_bipush (v := 22) C dL_law_573 (by decide) ?_
      refine rr_ishr C dL_law_575 ?_
      refine rr_iconst (v := 3) C dL_law_576 (by decide) ?_
      refine rr_iand C dL_law_577 ?_
      replace hr := Option.bind_eq_some_iff.mp hr
      obtain ⟨y459, er461, hr⟩ := hr
      refine rr_join0 (pc' := 593) (L' := [some (.ref l0), some (.ref l1), some (.int l2), some (.int l3), some (.int l4), some (.int l5), some (.int l6), some (.int l7), some (.int l8), some (.int l9), some (.int l10), some (.int l11), some (.int l12), some (.int l13), some (.int l14), some (.int l15), some (.int l16), some (.int l17), none, some (.long l19), none, some (.ref l21), some (.ref l22), some (.ref l23), some (.ref l24), some (.int l25), none, none, none, none, none, none, none, none, none, none, none, none, none, none, none, none, none, none, none, none, none, none, none, none, none, none, none, none, none, none, none, none, none, none, none, none, none, none, none, none, none, none, none, none, none, none, none]) (st' := [.int y459, .int l25, .ref l23]) (h' := h456) (n' := n) C (fun hj460 => ?_) ?_
      · have hr := er461
        refine rr_if_ne (tgt := 585) C dL_law_578 (by decide) (fun c458 => ?_) (fun c458 => ?_)
        · replace hr := (if_neg c458).symm.trans hr
          refine rr_iload C dL_law_585 rfl ?_
          refine rr_bipush (v := 24) C dL_law_587 (by decide) ?_
          refine rr_ishr C dL_law_589 ?_
          refine rr_bipush (v := 127) C dL_law_590 (by decide) ?_
          refine rr_iand C dL_law_592 ?_
          cases hr
          exact rr_keep [true, true, true, true, true, true, true, true, true, true, true, true, true, true, true, true, true, true, false, true, false, true, true, true, true, true, false, false, false, false, false, false, false, false, false, false, false, false, false, false, false, false, false, false, false, false, false, false, false, false, false, false, false, false, false, false, false, false, false, false, false, false, false, false, false, false, false, false, false, false, false, false, false] hj460
        · replace hr := (if_pos c458).symm.trans hr
          refine rr_iconst (v := (-1)) C dL_law_581 (by decide) ?_
          refine rr_goto (tgt := 593) C dL_law_582 (by decide) ?_
          cases hr
          exact rr_keep [true, true, true, true, true, true, true, true, true, true, true, true, true, true, true, true, true, true, false, true, false, true, true, true, true, true, false, false, false, false, false, false, false, false, false, false, false, false, false, false, false, false, false, false, false, false, false, false, false, false, false, false, false, false, false, false, false, false, false, false, false, false, false, false, false, false, false, false, false, false, false, false, false] hj460
      replace hr := Option.bind_eq_some_iff.mp hr
      obtain ⟨h462, e463, hr⟩ := hr
      refine rr_stI C dL_law_593 e463 ?_
      refine rr_aload_n (i := 1) C dL_law_594 rfl rfl ?_
      refine rr_iconst (v := 0) C dL_law_595 (by decide) ?_
      refine rr_iload C dL_law_596 rfl ?_
      refine rr_bipush (v := 7) C dL_law_598 (by decide) ?_
      refine rr_aload C dL_law_600 rfl ?_
      refine rr_iload C dL_law_602 rfl ?_
      replace hr := Option.bind_eq_some_iff.mp hr
      obtain ⟨v464, e465, hr⟩ := hr
      refine rr_ldI C dL_law_604 e465 ?_
      replace hr := Option.bind_eq_some_iff.mp hr
      obtain ⟨u466, e467, hr⟩ := hr
      replace hr := Option.bind_eq_some_iff.mp hr
      obtain ⟨v468, e469, hr⟩ := hr
      refine rr_callVq (as := [.int 0, .int l25, .int 7, .int v464]) (st := []) (mc' := 0) (ms' := 0) C dL_law_605 iv_L_95 (by decide) e467 rfl (Nat.le_of_ble_eq_true rfl) (c_X10_fact l1 0 l25 7 v464 (by omega) e469) (fun v_ h_ n_ q_ => ?_)
      obtain ⟨q1_, q2_, q3_⟩ := q_
      subst v_; subst h_; subst n_
      show WW W0 G 73 _ _ _ 608 [some (.ref l0), some (.ref l1), some (.int l2), some (.int l3), some (.int l4), some (.int l5), some (.int l6), some (.int l7), some (.int l8), some (.int l9), some (.int l10), some (.int l11), some (.int l12), some (.int l13), some (.int l14), some (.int l15), some (.int l16), some (.int l17), none, some (.long l19), none, some (.ref l21), some (.ref l22), some (.ref l23), some (.ref l24), some (.int l25), none, none, none, none, none, none, none, none, none, none, none, none, none, none, none, none, none, none, none, none, none, none, none, none, none, none, none, none, none, none, none, none, none, none, none, none, none, none, none, none, none, none, none, none, none, none, none] [.int v468.1] v468.2 n _ _
      obtain ⟨c470, hr⟩ := ite_n hr
      refine rr_if_lt (tgt := 660) C dL_law_608 (by decide) (fun q_ => absurd q_ c470) (fun _ => ?_)
      refine rr_aload C dL_law_611 rfl ?_
      refine rr_iload C dL_law_613 rfl ?_
      replace hr := Option.bind_eq_some_iff.mp hr
      obtain ⟨v471, e472, hr⟩ := hr
      refine rr_ldI C dL_law_615 e472 ?_
      replace hr := Option.bind_eq_some_iff.mp hr
      obtain ⟨h474, er476, hr⟩ := hr
      refine rr_join0 (pc' := 635) (L' := [some (.ref l0), some (.ref l1), some (.int l2), some (.int l3), some (.int l4), some (.int l5), some (.int l6), some (.int l7), some (.int l8), some (.int l9), some (.int l10), some (.int l11), some (.int l12), some (.int l13), some (.int l14), some (.int l15), some (.int l16), some (.int l17), none, some (.long l19), none, some (.ref l21), some (.ref l22), some (.ref l23), some (.ref l24), some (.int l25), none, none, none, none, none, none, none, none, none, none, none, none, none, none, none, none, none, none, none, none, none, none, none, none, none, none, none, none, none, none, none, none, none, none, none, none, none, none, none, none, none, none, none, none, none, none, none]) (st' := []) (h' := h474) (n' := n) C (fun hj475 => ?_) ?_
      · have hr := er476
        refine rr_if_lt (tgt := 635) C dL_law_616 (by decide) (fun c473 => ?_) (fun c473 => ?_)
        · replace hr := (if_pos c473).symm.trans hr
          cases hr
          exact rr_keep [true, true, true, true, true, true, true, true, true, true, true, true, true, true, true, true, true, true, false, true, false, true, true, true, true, true, false, false, false, false, false, false, false, false, false, false, false, false, false, false, false, false, false, false, false, false, false, false, false, false, false, false, false, false, false, false, false, false, false, false, false, false, false, false, false, false, false, false, false, false, false, false, false] hj475
        · replace hr := (if_neg c473).symm.trans hr
          refine rr_aload_n (i := 1) C dL_law_619 rfl rfl ?_
          refine rr_iconst (v := 0) C dL_law_620 (by decide) ?_
          refine rr_iload C dL_law_621 rfl ?_
          refine rr_iconst (v := 3) C dL_law_623 (by decide) ?_
          refine rr_aload C dL_law_624 rfl ?_
          refine rr_iload C dL_law_626 rfl ?_
          replace hr := Option.bind_eq_some_iff.mp hr
          obtain ⟨v477, e478, hr⟩ := hr
          refine rr_ldI C dL_law_628 e478 ?_
          replace hr := Option.bind_eq_some_iff.mp hr
          obtain ⟨u479, e480, hr⟩ := hr
          replace hr := Option.bind_eq_some_iff.mp hr
          obtain ⟨v481, e482, hr⟩ := hr
          refine rr_callVq (as := [.int 0, .int l25, .int 3, .int v477]) (st := []) (mc' := 0) (ms' := 0) C dL_law_629 iv_L_95 (by decide) e480 rfl (Nat.le_of_ble_eq_true rfl) (c_X10_fact l1 0 l25 3 v477 (by omega) e482) (fun v_ h_ n_ q_ => ?_)
          obtain ⟨q1_, q2_, q3_⟩ := q_
          subst v_; subst h_; subst n_
          show WW W0 G 73 _ _ _ 632 [some (.ref l0), some (.ref l1), some (.int l2), some (.int l3), some (.int l4), some (.int l5), some (.int l6), some (.int l7), some (.int l8), some (.int l9), some (.int l10), some (.int l11), some (.int l12), some (.int l13), some (.int l14), some (.int l15), some (.int l16), some (.int l17), none, some (.long l19), none, some (.ref l21), some (.ref l22), some (.ref l23), some (.ref l24), some (.int l25), none, none, none, none, none, none, none, none, none, none, none, none, none, none, none, none, none, none, none, none, none, none, none, none, none, none, none, none, none, none, none, none, none, none, none, none, none, none, none, none, none, none, none, none, none, none, none] [.int v481.1] v481.2 n _ _
          obtain ⟨c483, hr⟩ := ite_n hr
          refine rr_if_lt (tgt := 660) C dL_law_632 (by decide) (fun q_ => absurd q_ c483) (fun _ => ?_)
          cases hr
          exact rr_keep [true, true, true, true, true, true, true, true, true, true, true, true, true, true, true, true, true, true, false, true, false, true, true, true, true, true, false, false, false, false, false, false, false, false, false, false, false, false, false, false, false, false, false, false, false, false, false, false, false, false, false, false, false, false, false, false, false, false, false, false, false, false, false, false, false, false, false, false, false, false, false, false, false] hj475
      refine rr_aload C dL_law_635 rfl ?_
      refine rr_iload C dL_law_637 rfl ?_
      replace hr := Option.bind_eq_some_iff.mp hr
      obtain ⟨v484, e485, hr⟩ := hr
      refine rr_ldI C dL_law_639 e485 ?_
      replace hr := Option.bind_eq_some_iff.mp hr
      obtain ⟨h487, er489, hr⟩ := hr
      refine rr_join0 (pc' := 662) (L' := [some (.ref l0), some (.ref l1), some (.int l2), some (.int l3), some (.int l4), some (.int l5), some (.int l6), some (.int l7), some (.int l8), some (.int l9), some (.int l10), some (.int l11), some (.int l12), some (.int l13), some (.int l14), some (.int l15), some (.int l16), some (.int l17), none, some (.long l19), none, some (.ref l21), some (.ref l22), some (.ref l23), some (.ref l24), some (.int l25), none, none, none, none, none, none, none, none, none, none, none, none, none, none, none, none, none, none, none, none, none, none, none, none, none, none, none, none, none, none, none, none, none, none, none, none, none, none, none, none, none, none, none, none, none, none, none]) (st' := []) (h' := h487) (n' := n) C (fun hj488 => ?_) ?_
      · have hr := er489
        refine rr_if_lt (tgt := 662) C dL_law_640 (by decide) (fun c486 => ?_) (fun c486 => ?_)
        · replace hr := (if_pos c486).symm.trans hr
          cases hr
          exact rr_keep [true, true, true, true, true, true, true, true, true, true, true, true, true, true, true, true, true, true, false, true, false, true, true, true, true, true, false, false, false, false, false, false, false, false, false, false, false, false, false, false, false, false, false, false, false, false, false, false, false, false, false, false, false, false, false, false, false, false, false, false, false, false, false, false, false, false, false, false, false, false, false, false, false] hj488
        · replace hr := (if_neg c486).symm.trans hr
          refine rr_aload_n (i := 1) C dL_law_643 rfl rfl ?_
          refine rr_iconst (v := 0) C dL_law_644 (by decide) ?_
          refine rr_iload C dL_law_645 rfl ?_
          refine rr_bipush (v := 15) C dL_law_647 (by decide) ?_
          refine rr_aload C dL_law_649 rfl ?_
          refine rr_iload C dL_law_651 rfl ?_
          replace hr := Option.bind_eq_some_iff.mp hr
          obtain ⟨v490, e491, hr⟩ := hr
          refine rr_ldI C dL_law_653 e491 ?_
          replace hr := Option.bind_eq_some_iff.mp hr
          obtain ⟨u492, e493, hr⟩ := hr
          replace hr := Option.bind_eq_some_iff.mp hr
          obtain ⟨v494, e495, hr⟩ := hr
          refine rr_callVq (as := [.int 0, .int l25, .int 15, .int v490]) (st := []) (mc' := 0) (ms' := 0) C dL_law_654 iv_L_95 (by decide) e493 rfl (Nat.le_of_ble_eq_true rfl) (c_X10_fact l1 0 l25 15 v490 (by omega) e495) (fun v_ h_ n_ q_ => ?_)
          obtain ⟨q1_, q2_, q3_⟩ := q_
          subst v_; subst h_; subst n_
          show WW W0 G 73 _ _ _ 657 [some (.ref l0), some (.ref l1), some (.int l2), some (.int l3), some (.int l4), some (.int l5), some (.int l6), some (.int l7), some (.int l8), some (.int l9), some (.int l10), some (.int l11), some (.int l12), some (.int l13), some (.int l14), some (.int l15), some (.int l16), some (.int l17), none, some (.long l19), none, some (.ref l21), some (.ref l22), some (.ref l23), some (.ref l24), some (.int l25), none, none, none, none, none, none, none, none, none, none, none, none, none, none, none, none, none, none, none, none, none, none, none, none, none, none, none, none, none, none, none, none, none, none, none, none, none, none, none, none, none, none, none, none, none, none, none] [.int v494.1] v494.2 n _ _
          obtain ⟨c496, hr⟩ := ite_nn hr
          refine rr_if_ge (tgt := 662) C dL_law_657 (by decide) (fun _ => ?_) (fun q_ => absurd c496 q_)
          cases hr
          exact rr_keep [true, true, true, true, true, true, true, true, true, true, true, true, true, true, true, true, true, true, false, true, false, true, true, true, true, true, false, false, false, false, false, false, false, false, false, false, false, false, false, false, false, false, false, false, false, false, false, false, false, false, false, false, false, false, false, false, false, false, false, false, false, false, false, false, false, false, false, false, false, false, false, false, false] hj488
      refine rr_iconst (v := 0) C dL_law_662 (by decide) ?_
      refine rr_istore C dL_law_663 (by decide) ?_
      show WW W0 G 73 _ _ _ 665 [some (.ref l0), some (.ref l1), some (.int l2), some (.int l3), some (.int l4), some (.int l5), some (.int l6), some (.int l7), some (.int l8), some (.int l9), some (.int l10), some (.int l11), some (.int l12), some (.int l13), some (.int l14), some (.int l15), some (.int l16), some (.int l17), none, some (.long l19), none, some (.ref l21), some (.ref l22), some (.ref l23), some (.ref l24), some (.int l25), none, some (.int 0), none, none, none, none, none, none, none, none, none, none, none, none, none, none, none, none, none, none, none, none, none, none, none, none, none, none, none, none, none, none, none, none, none, none, none, none, none, none, none, none, none, none, none, none, none] [] h487 n _ _
      replace hr := Option.bind_eq_some_iff.mp hr
      obtain ⟨v515, e516, hr⟩ := hr
      refine rr_keep [true, true, true, true, true, true, true, true, true, true, true, true, true, true, true, true, true, true, false, true, false, true, true, true, true, true, false, true, false, false, false, false, false, false, false, false, false, false, false, false, false, false, false, false, false, false, false, false, false, false, false, false, false, false, false, false, false, false, false, false, false, false, false, false, false, false, false, false, false, false, false, false, false] (w_L_law_665 C (by omega) l0 l1 l2 l3 l4 l5 l6 l7 l8 l9 l10 l11 l12 l13 l14 l15 l16 l17 l19 l21 l22 l23 l24 l25 K 0 h487 e516 ?_)
      show WW W0 G 73 _ _ _ 749 [some (.ref l0), some (.ref l1), some (.int l2), some (.int l3), some (.int l4), some (.int l5), some (.int l6), some (.int l7), some (.int l8), some (.int l9), some (.int l10), some (.int l11), some (.int l12), some (.int l13), some (.int l14), some (.int l15), some (.int l16), some (.int l17), none, some (.long l19), none, some (.ref l21), some (.ref l22), some (.ref l23), some (.ref l24), some (.int l25), none, none, none, none, none, none, none, none, none, none, none, none, none, none, none, none, none, none, none, none, none, none, none, none, none, none, none, none, none, none, none, none, none, none, none, none, none, none, none, none, none, none, none, none, none, none, none] [] v515 n _ _
      refine rr_iinc (v := l25 + 1) C dL_law_749 rfl rfl ?_
      show WW W0 G 73 _ _ _ 752 [some (.ref l0), some (.ref l1), some (.int l2), some (.int l3), some (.int l4), some (.int l5), some (.int l6), some (.int l7), some (.int l8), some (.int l9), some (.int l10), some (.int l11), some (.int l12), some (.int l13), some (.int l14), some (.int l15), some (.int l16), some (.int l17), none, some (.long l19), none, some (.ref l21), some (.ref l22), some (.ref l23), some (.ref l24), some (.int (l25 + 1)), none, none, none, none, none, none, none, none, none, none, none, none, none, none, none, none, none, none, none, none, none, none, none, none, none, none, none, none, none, none, none, none, none, none, none, none, none, none, none, none, none, none, none, none, none, none, none] [] v515 n _ _
      refine rr_goto (tgt := 512) C dL_law_752 (by decide) ?_
      exact rr_keep [true, true, true, true, true, true, true, true, true, true, true, true, true, true, true, true, true, true, false, true, false, true, true, true, true, true, false, false, false, false, false, false, false, false, false, false, false, false, false, false, false, false, false, false, false, false, false, false, false, false, false, false, false, false, false, false, false, false, false, false, false, false, false, false, false, false, false, false, false, false, false, false, false] (ih_ _ _ hr hx0)
set_option maxRecDepth 100000 in
set_option maxHeartbeats 4000000 in
theorem w_L_law_786 {K : Nat} {nm_ : String} {W0 : mm_X} {G : mm_G} {mc ms kc ks : Nat} {Q_ : State → Prop} {n : Nat} (C : mm_C W0 G cL_law yL_law.cls 73 mc ms (some .boolean) 300 nm_) (hn : 48 ≤ n) (l0 : Nat) (l1 : Nat) (l2 : Int32) (l3 : Int32) (l4 : Int32) (l5 : Int32) (l6 : Int32) (l7 : Int32) (l8 : Int32) (l9 : Int32) (l10 : Int32) (l11 : Int32) (l12 : Int32) (l13 : Int32) (l14 : Int32) (l15 : Int32) (l16 : Int32) (l17 : Int32) (l19 : Int64) (l21 : Nat) (l22 : Nat) (l23 : Nat) (l24 : Nat) (l25 : Nat) (l26 : Nat) (l27 : Nat) (l28 : Int32) : ∀ (k_ : Nat) (l29 : Int32) (h : mm_H) {r_ : mm_H} (hr : lp_L_law_786 K n l0 l1 l2 l3 l4 l5 l6 l7 l8 l9 l10 l11 l12 l13 l14 l15 l16 l17 l19 l21 l22 l23 l24 l25 l26 l27 l28 k_ l29 h = some r_) (hx0 : WW W0 G 73 mc ms Q_ 868 [some (.ref l0), some (.ref l1), some (.int l2), some (.int l3), some (.int l4), some (.int l5), some (.int l6), some (.int l7), some (.int l8), some (.int l9), some (.int l10), some (.int l11), some (.int l12), some (.int l13), some (.int l14), some (.int l15), some (.int l16), some (.int l17), none, some (.long l19), none, some (.ref l21), some (.ref l22), some (.ref l23), some (.ref l24), some (.ref l25), some (.ref l26), some (.ref l27), some (.int l28), none, none, none, none, none, none, none, none, none, none, none, none, none, none, none, none, none, none, none, none, none, none, none, none, none, none, none, none, none, none, none, none, none, none, none, none, none, none, none, none, none, none, none, none] [] r_ n kc ks), WW W0 G 73 mc ms Q_ 786 [some (.ref l0), some (.ref l1), some (.int l2), some (.int l3), some (.int l4), some (.int l5), some (.int l6), some (.int l7), some (.int l8), some (.int l9), some (.int l10), some (.int l11), some (.int l12), some (.int l13), some (.int l14), some (.int l15), some (.int l16), some (.int l17), none, some (.long l19), none, some (.ref l21), some (.ref l22), some (.ref l23), some (.ref l24), some (.ref l25), some (.ref l26), some (.ref l27), some (.int l28), some (.int l29), none, none, none, none, none, none, none, none, none, none, none, none, none, none, none, none, none, none, none, none, none, none, none, none, none, none, none, none, none, none, none, none, none, none, none, none, none, none, none, none, none, none, none] [] h n kc ks := by
  intro k_
  induction k_ with
  | zero =>
    intro l29 h r_ hr
    cases hr
  | succ k_ ih_ =>
    intro l29 h r_ hr hx0
    unfold lp_L_law_786 at hr
    refine rr_iload C dL_law_786 rfl ?_
    refine rr_iload C dL_law_788 rfl ?_
    refine rr_icmp_ge (tgt := 868) C dL_law_790 (by decide) (fun c790_ => ?_) (fun c790_ => ?_)
    · replace hr := (if_pos c790_).symm.trans hr
      obtain rfl := Option.some.inj hr
      exact rr_keep [true, true, true, true, true, true, true, true, true, true, true, true, true, true, true, true, true, true, false, true, false, true, true, true, true, true, true, true, true, false, false, false, false, false, false, false, false, false, false, false, false, false, false, false, false, false, false, false, false, false, false, false, false, false, false, false, false, false, false, false, false, false, false, false, false, false, false, false, false, false, false, false, false] (hx0)
    · replace hr := (if_neg c790_).symm.trans hr
      refine rr_aload_n (i := 0) C dL_law_793 rfl rfl ?_
      refine rr_bipush (v := 15) C dL_law_794 (by decide) ?_
      refine rr_iload C dL_law_796 rfl ?_
      refine rr_iadd C dL_law_798 ?_
      replace hr := Option.bind_eq_some_iff.mp hr
      obtain ⟨v530, e531, hr⟩ := hr
      refine rr_callS (as := [.ref l0, .int (15 + l29)]) (st := []) (mc' := 0) (ms' := 0) C dL_law_799 it_L_24 (by decide) (Nat.le_of_ble_eq_true rfl) (c_L_cell (some l0) (15 + l29) (by omega) e531) (fun v_ h_ n_ q_ => ?_)
      obtain ⟨q1_, q2_, q3_⟩ := q_
      subst v_; subst h_; subst n_
      show WW W0 G 73 _ _ _ 802 [some (.ref l0), some (.ref l1), some (.int l2), some (.int l3), some (.int l4), some (.int l5), some (.int l6), some (.int l7), some (.int l8), some (.int l9), some (.int l10), some (.int l11), some (.int l12), some (.int l13), some (.int l14), some (.int l15), some (.int l16), some (.int l17), none, some (.long l19), none, some (.ref l21), some (.ref l22), some (.ref l23), some (.ref l24), some (.ref l25), some (.ref l26), some (.ref l27), some (.int l28), some (.int l29), none, none, none, none, none, none, none, none, none, none, none, none, none, none, none, none, none, none, none, none, none, none, none, none, none, none, none, none, none, none, none, none, none, none, none, none, none, none, none, none, none, none, none] [.int v530] h n _ _
      refine rr_istore C dL_law_802 (by decide) ?_
      show WW W0 G 73 _ _ _ 804 [some (.ref l0), some (.ref l1), some (.int l2), some (.int l3), some (.int l4), some (.int l5), some (.int l6), some (.int l7), some (.int l8), some (.int l9), some (.int l10), some (.int l11), some (.int l12), some (.int l13), some (.int l14), some (.int l15), some (.int l16), some (.int l17), none, some (.long l19), none, some (.ref l21), some (.ref l22), some (.ref l23), some (.ref l24), some (.ref l25), some (.ref l26), some (.ref l27), some (.int l28), some (.int l29), some (.int v530), none, none, none, none, none, none, none, none, none, none, none, none, none, none, none, none, none, none, none, none, none, none, none, none, none, none, none, none, none, none, none, none, none, none, none, none, none, none, none, none, none, none] [] h n _ _
      refine rr_aload C dL_law_804 rfl ?_
      refine rr_iload C dL_law_806 rfl ?_
      refine rr_iconst (v := 1) C dL_law_808 (by decide) ?_
      refine rr_iload C dL_law_809 rfl ?_
      refine rr_sipush (v := 4095) C dL_law_811 (by decide) ?_
      refine rr_iand C dL_law_814 ?_
      refine rr_iadd C dL_law_815 ?_
      replace hr := Option.bind_eq_some_iff.mp hr
      obtain ⟨h532, e533, hr⟩ := hr
      refine rr_stI C dL_law_816 e533 ?_
      refine rr_aload C dL_law_817 rfl ?_
      refine rr_iload C dL_law_819 rfl ?_
      refine rr_iload C dL_law_821 rfl ?_
      refine rr_bipush (v := 12) C dL_law_823 (by decide) ?_
      refine rr_ishr C dL_law_825 ?_
      refine rr_bipush (v := 7) C dL_law_826 (by decide) ?_
      refine rr_iand C dL_law_828 ?_
      refine rr_iconst (v := 5) C dL_law_829 (by decide) ?_
      refine rr_irem C dL_law_830 (by decide) ?_
      replace hr := Option.bind_eq_some_iff.mp hr
      obtain ⟨h534, e535, hr⟩ := hr
      refine rr_stI C dL_law_831 e535 ?_
      refine rr_aload C dL_law_832 rfl ?_
      refine rr_iload C dL_law_834 rfl ?_
      refine rr_sipush (v := 9999) C dL_law_836 (by decide) ?_
      replace hr := Option.bind_eq_some_iff.mp hr
      obtain ⟨h536, e537, hr⟩ := hr
      refine rr_stI C dL_law_839 e537 ?_
      refine rr_aload_n (i := 1) C dL_law_840 rfl rfl ?_
      refine rr_iconst (v := 0) C dL_law_841 (by decide) ?_
      refine rr_aload C dL_law_842 rfl ?_
      refine rr_iload C dL_law_844 rfl ?_
      replace hr := Option.bind_eq_some_iff.mp hr
      obtain ⟨v538, e539, hr⟩ := hr
      refine rr_ldI C dL_law_846 e539 ?_
      refine rr_aload C dL_law_847 rfl ?_
      refine rr_iload C dL_law_849 rfl ?_
      replace hr := Option.bind_eq_some_iff.mp hr
      obtain ⟨v540, e541, hr⟩ := hr
      refine rr_ldI C dL_law_851 e541 ?_
      replace hr := Option.bind_eq_some_iff.mp hr
      obtain ⟨u542, e543, hr⟩ := hr
      replace hr := Option.bind_eq_some_iff.mp hr
      obtain ⟨v544, e545, hr⟩ := hr
      refine rr_callVq (as := [.int 0, .int v538, .int v540]) (st := []) (mc' := 0) (ms' := 0) C dL_law_852 iv_L_99 (by decide) e543 rfl (Nat.le_of_ble_eq_true rfl) (c_X10_work l1 0 v538 v540 (by omega) e545) (fun v_ h_ n_ q_ => ?_)
      obtain ⟨q1_, q2_, q3_⟩ := q_
      subst v_; subst h_; subst n_
      show WW W0 G 73 _ _ _ 855 [some (.ref l0), some (.ref l1), some (.int l2), some (.int l3), some (.int l4), some (.int l5), some (.int l6), some (.int l7), some (.int l8), some (.int l9), some (.int l10), some (.int l11), some (.int l12), some (.int l13), some (.int l14), some (.int l15), some (.int l16), some (.int l17), none, some (.long l19), none, some (.ref l21), some (.ref l22), some (.ref l23), some (.ref l24), some (.ref l25), some (.ref l26), some (.ref l27), some (.int l28), some (.int l29), some (.int v530), none, none, none, none, none, none, none, none, none, none, none, none, none, none, none, none, none, none, none, none, none, none, none, none, none, none, none, none, none, none, none, none, none, none, none, none, none, none, none, none, none, none] [.int v544.1] v544.2 n _ _
      refine rr_iload C dL_law_855 rfl ?_
      obtain ⟨c546, hr⟩ := ite_nn hr
      refine rr_icmp_eq (tgt := 862) C dL_law_857 (by decide) (fun _ => ?_) (fun q_ => absurd c546 q_)
      refine rr_iinc (v := l29 + 1) C dL_law_862 rfl rfl ?_
      show WW W0 G 73 _ _ _ 865 [some (.ref l0), some (.ref l1), some (.int l2), some (.int l3), some (.int l4), some (.int l5), some (.int l6), some (.int l7), some (.int l8), some (.int l9), some (.int l10), some (.int l11), some (.int l12), some (.int l13), some (.int l14), some (.int l15), some (.int l16), some (.int l17), none, some (.long l19), none, some (.ref l21), some (.ref l22), some (.ref l23), some (.ref l24), some (.ref l25), some (.ref l26), some (.ref l27), some (.int l28), some (.int (l29 + 1)), some (.int v530), none, none, none, none, none, none, none, none, none, none, none, none, none, none, none, none, none, none, none, none, none, none, none, none, none, none, none, none, none, none, none, none, none, none, none, none, none, none, none, none, none, none] [] v544.2 n _ _
      refine rr_goto (tgt := 786) C dL_law_865 (by decide) ?_
      exact rr_keep [true, true, true, true, true, true, true, true, true, true, true, true, true, true, true, true, true, true, false, true, false, true, true, true, true, true, true, true, true, true, false, false, false, false, false, false, false, false, false, false, false, false, false, false, false, false, false, false, false, false, false, false, false, false, false, false, false, false, false, false, false, false, false, false, false, false, false, false, false, false, false, false, false] (ih_ _ _ hr hx0)
set_option maxRecDepth 100000 in
set_option maxHeartbeats 4000000 in
theorem w_L_law_877 {K : Nat} {nm_ : String} {W0 : mm_X} {G : mm_G} {mc ms kc ks : Nat} {Q_ : State → Prop} {n : Nat} (C : mm_C W0 G cL_law yL_law.cls 73 mc ms (some .boolean) 300 nm_) (hn : 48 ≤ n) (l0 : Nat) (l1 : Nat) (l2 : Int32) (l3 : Int32) (l4 : Int32) (l5 : Int32) (l6 : Int32) (l7 : Int32) (l8 : Int32) (l9 : Int32) (l10 : Int32) (l11 : Int32) (l12 : Int32) (l13 : Int32) (l14 : Int32) (l15 : Int32) (l16 : Int32) (l17 : Int32) (l19 : Int64) (l21 : Nat) (l22 : Nat) (l23 : Nat) (l24 : Nat) (l25 : Nat) (l26 : Nat) (l27 : Nat) (l28 : Int32) (l29 : Nat) : ∀ (k_ : Nat) (l30 : Int32) (h : mm_H) {r_ : mm_H} (hr : lp_L_law_877 K n l0 l1 l2 l3 l4 l5 l6 l7 l8 l9 l10 l11 l12 l13 l14 l15 l16 l17 l19 l21 l22 l23 l24 l25 l26 l27 l28 l29 k_ l30 h = some r_) (hx0 : WW W0 G 73 mc ms Q_ 956 [some (.ref l0), some (.ref l1), some (.int l2), some (.int l3), some (.int l4), some (.int l5), some (.int l6), some (.int l7), some (.int l8), some (.int l9), some (.int l10), some (.int l11), some (.int l12), some (.int l13), some (.int l14), some (.int l15), some (.int l16), some (.int l17), none, some (.long l19), none, some (.ref l21), some (.ref l22), some (.ref l23), some (.ref l24), some (.ref l25), some (.ref l26), some (.ref l27), some (.int l28), some (.ref l29), none, none, none, none, none, none, none, none, none, none, none, none, none, none, none, none, none, none, none, none, none, none, none, none, none, none, none, none, none, none, none, none, none, none, none, none, none, none, none, none, none, none, none] [] r_ n kc ks), WW W0 G 73 mc ms Q_ 877 [some (.ref l0), some (.ref l1), some (.int l2), some (.int l3), some (.int l4), some (.int l5), some (.int l6), some (.int l7), some (.int l8), some (.int l9), some (.int l10), some (.int l11), some (.int l12), some (.int l13), some (.int l14), some (.int l15), some (.int l16), some (.int l17), none, some (.long l19), none, some (.ref l21), some (.ref l22), some (.ref l23), some (.ref l24), some (.ref l25), some (.ref l26), some (.ref l27), some (.int l28), some (.ref l29), some (.int l30), none, none, none, none, none, none, none, none, none, none, none, none, none, none, none, none, none, none, none, none, none, none, none, none, none, none, none, none, none, none, none, none, none, none, none, none, none, none, none, none, none, none] [] h n kc ks := by
  intro k_
  induction k_ with
  | zero =>
    intro l30 h r_ hr
    cases hr
  | succ k_ ih_ =>
    intro l30 h r_ hr hx0
    unfold lp_L_law_877 at hr
    refine rr_iload C dL_law_877 rfl ?_
    refine rr_iconst (v := 2) C dL_law_879 (by decide) ?_
    refine rr_icmp_ge (tgt := 956) C dL_law_880 (by decide) (fun c880_ => ?_) (fun c880_ => ?_)
    · replace hr := (if_pos c880_).symm.trans hr
      obtain rfl := Option.some.inj hr
      exact rr_keep [true, true, true, true, true, true, true, true, true, true, true, true, true, true, true, true, true, true, false, true, false, true, true, true, true, true, true, true, true, true, false, false, false, false, false, false, false, false, false, false, false, false, false, false, false, false, false, false, false, false, false, false, false, false, false, false, false, false, false, false, false, false, false, false, false, false, false, false, false, false, false, false, false] (hx0)
    · replace hr := (if_neg c880_).symm.trans hr
      refine rr_iconst (v := 1) C dL_law_883 (by decide) ?_
      refine rr_aload_n (i := 0) C dL_law_884 rfl rfl ?_
      refine rr_bipush (v := 18) C dL_law_885 (by decide) ?_
      replace hr := Option.bind_eq_some_iff.mp hr
      obtain ⟨v552, e553, hr⟩ := hr
      refine rr_callS (as := [.ref l0, .int 18]) (st := [.int 1]) (mc' := 0) (ms' := 0) C dL_law_887 it_L_24 (by decide) (Nat.le_of_ble_eq_true rfl) (c_L_cell (some l0) 18 (by omega) e553) (fun v_ h_ n_ q_ => ?_)
      obtain ⟨q1_, q2_, q3_⟩ := q_
      subst v_; subst h_; subst n_
      show WW W0 G 73 _ _ _ 890 [some (.ref l0), some (.ref l1), some (.int l2), some (.int l3), some (.int l4), some (.int l5), some (.int l6), some (.int l7), some (.int l8), some (.int l9), some (.int l10), some (.int l11), some (.int l12), some (.int l13), some (.int l14), some (.int l15), some (.int l16), some (.int l17), none, some (.long l19), none, some (.ref l21), some (.ref l22), some (.ref l23), some (.ref l24), some (.ref l25), some (.ref l26), some (.ref l27), some (.int l28), some (.ref l29), some (.int l30), none, none, none, none, none, none, none, none, none, none, none, none, none, none, none, none, none, none, none, none, none, none, none, none, none, none, none, none, none, none, none, none, none, none, none, none, none, none, none, none, none, none] [.int v552, .int 1] h n _ _
      refine rr_iconst (v := 2) C dL_law_890 (by decide) ?_
      refine rr_iload C dL_law_891 rfl ?_
      refine rr_imul C dL_law_893 ?_
      refine rr_ishr C dL_law_894 ?_
      refine rr_iconst (v := 3) C dL_law_895 (by decide) ?_
      refine rr_iand C dL_law_896 ?_
      refine rr_iadd C dL_law_897 ?_
      replace hr := Option.bind_eq_some_iff.mp hr
      obtain ⟨x554, e555, hr⟩ := hr
      refine rr_asI C e555 ?_
      refine rr_istore C dL_law_898 (by decide) ?_
      show WW W0 G 73 _ _ _ 900 [some (.ref l0), some (.ref l1), some (.int l2), some (.int l3), some (.int l4), some (.int l5), some (.int l6), some (.int l7), some (.int l8), some (.int l9), some (.int l10), some (.int l11), some (.int l12), some (.int l13), some (.int l14), some (.int l15), some (.int l16), some (.int l17), none, some (.long l19), none, some (.ref l21), some (.ref l22), some (.ref l23), some (.ref l24), some (.ref l25), some (.ref l26), some (.ref l27), some (.int l28), some (.ref l29), some (.int l30), some (.int x554), none, none, none, none, none, none, none, none, none, none, none, none, none, none, none, none, none, none, none, none, none, none, none, none, none, none, none, none, none, none, none, none, none, none, none, none, none, none, none, none, none] [] h n _ _
      refine rr_iconst (v := 1) C dL_law_900 (by decide) ?_
      refine rr_aload_n (i := 0) C dL_law_901 rfl rfl ?_
      refine rr_bipush (v := 18) C dL_law_902 (by decide) ?_
      replace hr := Option.bind_eq_some_iff.mp hr
      obtain ⟨v556, e557, hr⟩ := hr
      refine rr_callS (as := [.ref l0, .int 18]) (st := [.int 1]) (mc' := 0) (ms' := 0) C dL_law_904 it_L_24 (by decide) (Nat.le_of_ble_eq_true rfl) (c_L_cell (some l0) 18 (by omega) e557) (fun v_ h_ n_ q_ => ?_)
      obtain ⟨q1_, q2_, q3_⟩ := q_
      subst v_; subst h_; subst n_
      show WW W0 G 73 _ _ _ 907 [some (.ref l0), some (.ref l1), some (.int l2), some (.int l3), some (.int l4), some (.int l5), some (.int l6), some (.int l7), some (.int l8), some (.int l9), some (.int l10), some (.int l11), some (.int l12), some (.int l13), some (.int l14), some (.int l15), some (.int l16), some (.int l17), none, some (.long l19), none, some (.ref l21), some (.ref l22), some (.ref l23), some (.ref l24), some (.ref l25), some (.ref l26), some (.ref l27), some (.int l28), some (.ref l29), some (.int l30), some (.int x554), none, none, none, none, none, none, none, none, none, none, none, none, none, none, none, none, none, none, none, none, none, none, none, none, none, none, none, none, none, none, none, none, none, none, none, none, none, none, none, none, none] [.int v556, .int 1] h n _ _
      refine rr_iconst (v := 4) C dL_law_907 (by decide) ?_
      refine rr_bipush (v := 10) C dL_law_908 (by decide) ?_
      refine rr_iload C dL_law_910 rfl ?_
      refine rr_imul C dL_law_912 ?_
      refine rr_iadd C dL_law_913 ?_
      refine rr_ishr C dL_law_914 ?_
      refine rr_sipush (v := 1023) C dL_law_915 (by decide) ?_
      refine rr_iand C dL_law_918 ?_
      refine rr_iadd C dL_law_919 ?_
      replace hr := Option.bind_eq_some_iff.mp hr
      obtain ⟨x558, e559, hr⟩ := hr
      refine rr_asI C e559 ?_
      refine rr_istore C dL_law_920 (by decide) ?_
      show WW W0 G 73 _ _ _ 922 [some (.ref l0), some (.ref l1), some (.int l2), some (.int l3), some (.int l4), some (.int l5), some (.int l6), some (.int l7), some (.int l8), some (.int l9), some (.int l10), some (.int l11), some (.int l12), some (.int l13), some (.int l14), some (.int l15), some (.int l16), some (.int l17), none, some (.long l19), none, some (.ref l21), some (.ref l22), some (.ref l23), some (.ref l24), some (.ref l25), some (.ref l26), some (.ref l27), some (.int l28), some (.ref l29), some (.int l30), some (.int x554), some (.int x558), none, none, none, none, none, none, none, none, none, none, none, none, none, none, none, none, none, none, none, none, none, none, none, none, none, none, none, none, none, none, none, none, none, none, none, none, none, none, none, none] [] h n _ _
      refine rr_aload_n (i := 1) C dL_law_922 rfl rfl ?_
      refine rr_iconst (v := 0) C dL_law_923 (by decide) ?_
      refine rr_iload C dL_law_924 rfl ?_
      refine rr_iload C dL_law_926 rfl ?_
      replace hr := Option.bind_eq_some_iff.mp hr
      obtain ⟨u560, e561, hr⟩ := hr
      replace hr := Option.bind_eq_some_iff.mp hr
      obtain ⟨v562, e563, hr⟩ := hr
      refine rr_callVq (as := [.int 0, .int x554, .int x558]) (st := []) (mc' := 0) (ms' := 0) C dL_law_928 iv_L_103 (by decide) e561 rfl (Nat.le_of_ble_eq_true rfl) (c_X10_log l1 0 x554 x558 (by omega) e563) (fun v_ h_ n_ q_ => ?_)
      obtain ⟨q1_, q2_, q3_⟩ := q_
      subst v_; subst h_; subst n_
      show WW W0 G 73 _ _ _ 931 [some (.ref l0), some (.ref l1), some (.int l2), some (.int l3), some (.int l4), some (.int l5), some (.int l6), some (.int l7), some (.int l8), some (.int l9), some (.int l10), some (.int l11), some (.int l12), some (.int l13), some (.int l14), some (.int l15), some (.int l16), some (.int l17), none, some (.long l19), none, some (.ref l21), some (.ref l22), some (.ref l23), some (.ref l24), some (.ref l25), some (.ref l26), some (.ref l27), some (.int l28), some (.ref l29), some (.int l30), some (.int x554), some (.int x558), none, none, none, none, none, none, none, none, none, none, none, none, none, none, none, none, none, none, none, none, none, none, none, none, none, none, none, none, none, none, none, none, none, none, none, none, none, none, none, none] [.int v562.1] v562.2 n _ _
      refine rr_iload C dL_law_931 rfl ?_
      refine rr_iconst (v := 1) C dL_law_933 (by decide) ?_
      refine rr_iadd C dL_law_934 ?_
      obtain ⟨c564, hr⟩ := ite_nn hr
      refine rr_icmp_eq (tgt := 940) C dL_law_935 (by decide) (fun _ => ?_) (fun q_ => absurd c564 q_)
      refine rr_aload C dL_law_940 rfl ?_
      refine rr_iload C dL_law_942 rfl ?_
      refine rr_dup2 C dL_law_944 rfl rfl ?_
      replace hr := Option.bind_eq_some_iff.mp hr
      obtain ⟨v565, e566, hr⟩ := hr
      refine rr_ldI C dL_law_945 e566 ?_
      refine rr_iload C dL_law_946 rfl ?_
      refine rr_iadd C dL_law_948 ?_
      replace hr := Option.bind_eq_some_iff.mp hr
      obtain ⟨h567, e568, hr⟩ := hr
      refine rr_stI C dL_law_949 e568 ?_
      refine rr_iinc (v := l30 + 1) C dL_law_950 rfl rfl ?_
      show WW W0 G 73 _ _ _ 953 [some (.ref l0), some (.ref l1), some (.int l2), some (.int l3), some (.int l4), some (.int l5), some (.int l6), some (.int l7), some (.int l8), some (.int l9), some (.int l10), some (.int l11), some (.int l12), some (.int l13), some (.int l14), some (.int l15), some (.int l16), some (.int l17), none, some (.long l19), none, some (.ref l21), some (.ref l22), some (.ref l23), some (.ref l24), some (.ref l25), some (.ref l26), some (.ref l27), some (.int l28), some (.ref l29), some (.int (l30 + 1)), some (.int x554), some (.int x558), none, none, none, none, none, none, none, none, none, none, none, none, none, none, none, none, none, none, none, none, none, none, none, none, none, none, none, none, none, none, none, none, none, none, none, none, none, none, none, none] [] h567 n _ _
      refine rr_goto (tgt := 877) C dL_law_953 (by decide) ?_
      exact rr_keep [true, true, true, true, true, true, true, true, true, true, true, true, true, true, true, true, true, true, false, true, false, true, true, true, true, true, true, true, true, true, true, false, false, false, false, false, false, false, false, false, false, false, false, false, false, false, false, false, false, false, false, false, false, false, false, false, false, false, false, false, false, false, false, false, false, false, false, false, false, false, false, false, false] (ih_ _ _ hr hx0)
set_option maxRecDepth 100000 in
set_option maxHeartbeats 4000000 in
theorem w_L_law_959 {K : Nat} {nm_ : String} {W0 : mm_X} {G : mm_G} {mc ms kc ks : Nat} {Q_ : State → Prop} {n : Nat} (C : mm_C W0 G cL_law yL_law.cls 73 mc ms (some .boolean) 300 nm_) (hn : 48 ≤ n) (l0 : Nat) (l1 : Nat) (l2 : Int32) (l3 : Int32) (l4 : Int32) (l5 : Int32) (l6 : Int32) (l7 : Int32) (l8 : Int32) (l9 : Int32) (l10 : Int32) (l11 : Int32) (l12 : Int32) (l13 : Int32) (l14 : Int32) (l15 : Int32) (l16 : Int32) (l17 : Int32) (l19 : Int64) (l21 : Nat) (l22 : Nat) (l23 : Nat) (l24 : Nat) (l25 : Nat) (l26 : Nat) (l27 : Nat) (l28 : Int32) (l29 : Nat) : ∀ (k_ : Nat) (l30 : Int32) (h : mm_H) {r_ : mm_H} (hr : lp_L_law_959 K n l0 l1 l2 l3 l4 l5 l6 l7 l8 l9 l10 l11 l12 l13 l14 l15 l16 l17 l19 l21 l22 l23 l24 l25 l26 l27 l28 l29 k_ l30 h = some r_) (hx0 : WW W0 G 73 mc ms Q_ 1056 [none, some (.ref l1), some (.int l2), some (.int l3), some (.int l4), some (.int l5), some (.int l6), some (.int l7), some (.int l8), some (.int l9), some (.int l10), some (.int l11), some (.int l12), some (.int l13), some (.int l14), some (.int l15), some (.int l16), some (.int l17), none, some (.long l19), none, some (.ref l21), some (.ref l22), some (.ref l23), some (.ref l24), some (.ref l25), some (.ref l26), some (.ref l27), some (.int l28), some (.ref l29), none, none, none, none, none, none, none, none, none, none, none, none, none, none, none, none, none, none, none, none, none, none, none, none, none, none, none, none, none, none, none, none, none, none, none, none, none, none, none, none, none, none, none] [] r_ n kc ks), WW W0 G 73 mc ms Q_ 959 [some (.ref l0), some (.ref l1), some (.int l2), some (.int l3), some (.int l4), some (.int l5), some (.int l6), some (.int l7), some (.int l8), some (.int l9), some (.int l10), some (.int l11), some (.int l12), some (.int l13), some (.int l14), some (.int l15), some (.int l16), some (.int l17), none, some (.long l19), none, some (.ref l21), some (.ref l22), some (.ref l23), some (.ref l24), some (.ref l25), some (.ref l26), some (.ref l27), some (.int l28), some (.ref l29), some (.int l30), none, none, none, none, none, none, none, none, none, none, none, none, none, none, none, none, none, none, none, none, none, none, none, none, none, none, none, none, none, none, none, none, none, none, none, none, none, none, none, none, none, none] [] h n kc ks := by
  intro k_
  induction k_ with
  | zero =>
    intro l30 h r_ hr
    cases hr
  | succ k_ ih_ =>
    intro l30 h r_ hr hx0
    unfold lp_L_law_959 at hr
    refine rr_iload C dL_law_959 rfl ?_
    refine rr_iload C dL_law_961 rfl ?_
    refine rr_icmp_ge (tgt := 1056) C dL_law_963 (by decide) (fun c963_ => ?_) (fun c963_ => ?_)
    · replace hr := (if_pos c963_).symm.trans hr
      obtain rfl := Option.some.inj hr
      exact rr_keep [false, true, true, true, true, true, true, true, true, true, true, true, true, true, true, true, true, true, false, true, false, true, true, true, true, true, true, true, true, true, false, false, false, false, false, false, false, false, false, false, false, false, false, false, false, false, false, false, false, false, false, false, false, false, false, false, false, false, false, false, false, false, false, false, false, false, false, false, false, false, false, false, false] (hx0)
    · replace hr := (if_neg c963_).symm.trans hr
      refine rr_aload_n (i := 0) C dL_law_966 rfl rfl ?_
      refine rr_bipush (v := 15) C dL_law_967 (by decide) ?_
      refine rr_iload C dL_law_969 rfl ?_
      refine rr_iadd C dL_law_971 ?_
      replace hr := Option.bind_eq_some_iff.mp hr
      obtain ⟨v572, e573, hr⟩ := hr
      refine rr_callS (as := [.ref l0, .int (15 + l30)]) (st := []) (mc' := 0) (ms' := 0) C dL_law_972 it_L_24 (by decide) (Nat.le_of_ble_eq_true rfl) (c_L_cell (some l0) (15 + l30) (by omega) e573) (fun v_ h_ n_ q_ => ?_)
      obtain ⟨q1_, q2_, q3_⟩ := q_
      subst v_; subst h_; subst n_
      show WW W0 G 73 _ _ _ 975 [some (.ref l0), some (.ref l1), some (.int l2), some (.int l3), some (.int l4), some (.int l5), some (.int l6), some (.int l7), some (.int l8), some (.int l9), some (.int l10), some (.int l11), some (.int l12), some (.int l13), some (.int l14), some (.int l15), some (.int l16), some (.int l17), none, some (.long l19), none, some (.ref l21), some (.ref l22), some (.ref l23), some (.ref l24), some (.ref l25), some (.ref l26), some (.ref l27), some (.int l28), some (.ref l29), some (.int l30), none, none, none, none, none, none, none, none, none, none, none, none, none, none, none, none, none, none, none, none, none, none, none, none, none, none, none, none, none, none, none, none, none, none, none, none, none, none, none, none, none, none] [.int v572] h n _ _
      refine rr_bipush (v := 15) C dL_law_975 (by decide) ?_
      refine rr_ishr C dL_law_977 ?_
      refine rr_sipush (v := 511) C dL_law_978 (by decide) ?_
      refine rr_iand C dL_law_981 ?_
      replace hr := Option.bind_eq_some_iff.mp hr
      obtain ⟨x574, e575, hr⟩ := hr
      refine rr_asI C e575 ?_
      refine rr_istore C dL_law_982 (by decide) ?_
      show WW W0 G 73 _ _ _ 984 [some (.ref l0), some (.ref l1), some (.int l2), some (.int l3), some (.int l4), some (.int l5), some (.int l6), some (.int l7), some (.int l8), some (.int l9), some (.int l10), some (.int l11), some (.int l12), some (.int l13), some (.int l14), some (.int l15), some (.int l16), some (.int l17), none, some (.long l19), none, some (.ref l21), some (.ref l22), some (.ref l23), some (.ref l24), some (.ref l25), some (.ref l26), some (.ref l27), some (.int l28), some (.ref l29), some (.int l30), some (.int x574), none, none, none, none, none, none, none, none, none, none, none, none, none, none, none, none, none, none, none, none, none, none, none, none, none, none, none, none, none, none, none, none, none, none, none, none, none, none, none, none, none] [] h n _ _
      refine rr_iload C dL_law_984 rfl ?_
      refine rr_aload_n (i := 1) C dL_law_986 rfl rfl ?_
      refine rr_iconst (v := 0) C dL_law_987 (by decide) ?_
      replace hr := Option.bind_eq_some_iff.mp hr
      obtain ⟨u576, e577, hr⟩ := hr
      replace hr := Option.bind_eq_some_iff.mp hr
      obtain ⟨v578, e579, hr⟩ := hr
      refine rr_callVq (as := [.int 0]) (st := [.int x574]) (mc' := 0) (ms' := 0) C dL_law_988 iv_L_106 (by decide) e577 rfl (Nat.le_of_ble_eq_true rfl) (c_X10_count l1 0 (by omega) e579) (fun v_ h_ n_ q_ => ?_)
      obtain ⟨q1_, q2_, q3_⟩ := q_
      subst v_; subst h_; subst n_
      show WW W0 G 73 _ _ _ 991 [some (.ref l0), some (.ref l1), some (.int l2), some (.int l3), some (.int l4), some (.int l5), some (.int l6), some (.int l7), some (.int l8), some (.int l9), some (.int l10), some (.int l11), some (.int l12), some (.int l13), some (.int l14), some (.int l15), some (.int l16), some (.int l17), none, some (.long l19), none, some (.ref l21), some (.ref l22), some (.ref l23), some (.ref l24), some (.ref l25), some (.ref l26), some (.ref l27), some (.int l28), some (.ref l29), some (.int l30), some (.int x574), none, none, none, none, none, none, none, none, none, none, none, none, none, none, none, none, none, none, none, none, none, none, none, none, none, none, none, none, none, none, none, none, none, none, none, none, none, none, none, none, none] [.int v578, .int x574] h n _ _
      replace hr := Option.bind_eq_some_iff.mp hr
      obtain ⟨h581, er583, hr⟩ := hr
      refine rr_join0 (pc' := 1050) (L' := [some (.ref l0), some (.ref l1), some (.int l2), some (.int l3), some (.int l4), some (.int l5), some (.int l6), some (.int l7), some (.int l8), some (.int l9), some (.int l10), some (.int l11), some (.int l12), some (.int l13), some (.int l14), some (.int l15), some (.int l16), some (.int l17), none, some (.long l19), none, some (.ref l21), some (.ref l22), some (.ref l23), some (.ref l24), some (.ref l25), some (.ref l26), some (.ref l27), some (.int l28), some (.ref l29), some (.int l30), none, none, none, none, none, none, none, none, none, none, none, none, none, none, none, none, none, none, none, none, none, none, none, none, none, none, none, none, none, none, none, none, none, none, none, none, none, none, none, none, none, none]) (st' := []) (h' := h581) (n' := n) C (fun hj582 => ?_) ?_
      · have hr := er583
        refine rr_icmp_le (tgt := 1050) C dL_law_991 (by decide) (fun c580 => ?_) (fun c580 => ?_)
        · replace hr := (if_pos c580).symm.trans hr
          cases hr
          exact rr_keep [true, true, true, true, true, true, true, true, true, true, true, true, true, true, true, true, true, true, false, true, false, true, true, true, true, true, true, true, true, true, true, false, false, false, false, false, false, false, false, false, false, false, false, false, false, false, false, false, false, false, false, false, false, false, false, false, false, false, false, false, false, false, false, false, false, false, false, false, false, false, false, false, false] hj582
        · replace hr := (if_neg c580).symm.trans hr
          refine rr_aload_n (i := 0) C dL_law_994 rfl rfl ?_
          refine rr_bipush (v := 15) C dL_law_995 (by decide) ?_
          refine rr_iload C dL_law_997 rfl ?_
          refine rr_iadd C dL_law_999 ?_
          replace hr := Option.bind_eq_some_iff.mp hr
          obtain ⟨v584, e585, hr⟩ := hr
          refine rr_callS (as := [.ref l0, .int (15 + l30)]) (st := []) (mc' := 0) (ms' := 0) C dL_law_1000 it_L_24 (by decide) (Nat.le_of_ble_eq_true rfl) (c_L_cell (some l0) (15 + l30) (by omega) e585) (fun v_ h_ n_ q_ => ?_)
          obtain ⟨q1_, q2_, q3_⟩ := q_
          subst v_; subst h_; subst n_
          show WW W0 G 73 _ _ _ 1003 [some (.ref l0), some (.ref l1), some (.int l2), some (.int l3), some (.int l4), some (.int l5), some (.int l6), some (.int l7), some (.int l8), some (.int l9), some (.int l10), some (.int l11), some (.int l12), some (.int l13), some (.int l14), some (.int l15), some (.int l16), some (.int l17), none, some (.long l19), none, some (.ref l21), some (.ref l22), some (.ref l23), some (.ref l24), some (.ref l25), some (.ref l26), some (.ref l27), some (.int l28), some (.ref l29), some (.int l30), some (.int x574), none, none, none, none, none, none, none, none, none, none, none, none, none, none, none, none, none, none, none, none, none, none, none, none, none, none, none, none, none, none, none, none, none, none, none, none, none, none, none, none, none] [.int v584] h n _ _
          refine rr_bipush (v := 24) C dL_law_1003 (by decide) ?_
          refine rr_ishr C dL_law_1005 ?_
          refine rr_iconst (v := 3) C dL_law_1006 (by decide) ?_
          refine rr_iand C dL_law_1007 ?_
          refine rr_if_ne (tgt := 1014) C dL_law_1008 (by decide) (fun c1008_ => ?_) (fun c1008_ => ?_)
          · replace hr := (if_neg c1008_).symm.trans hr
            refine rr_aload_n (i := 1) C dL_law_1014 rfl rfl ?_
            refine rr_iload C dL_law_1015 rfl ?_
            replace hr := Option.bind_eq_some_iff.mp hr
            obtain ⟨u587, e588, hr⟩ := hr
            replace hr := Option.bind_eq_some_iff.mp hr
            obtain ⟨v589, e590, hr⟩ := hr
            refine rr_callVq (as := [.int x574]) (st := []) (mc' := 0) (ms' := 0) C dL_law_1017 iv_L_109 (by decide) e588 rfl (Nat.le_of_ble_eq_true rfl) (c_X10_day l1 x574 (by omega) e590) (fun v_ h_ n_ q_ => ?_)
            obtain ⟨q1_, q2_, q3_⟩ := q_
            subst v_; subst h_; subst n_
            show WW W0 G 73 _ _ _ 1020 [some (.ref l0), some (.ref l1), some (.int l2), some (.int l3), some (.int l4), some (.int l5), some (.int l6), some (.int l7), some (.int l8), some (.int l9), some (.int l10), some (.int l11), some (.int l12), some (.int l13), some (.int l14), some (.int l15), some (.int l16), some (.int l17), none, some (.long l19), none, some (.ref l21), some (.ref l22), some (.ref l23), some (.ref l24), some (.ref l25), some (.ref l26), some (.ref l27), some (.int l28), some (.ref l29), some (.int l30), some (.int x574), none, none, none, none, none, none, none, none, none, none, none, none, none, none, none, none, none, none, none, none, none, none, none, none, none, none, none, none, none, none, none, none, none, none, none, none, none, none, none, none, none] [.int v589.1] v589.2 n _ _
            obtain ⟨c591, hr⟩ := ite_n hr
            refine rr_if_eq (tgt := 1041) C dL_law_1020 (by decide) (fun q_ => absurd q_ c591) (fun _ => ?_)
            refine rr_aload_n (i := 1) C dL_law_1023 rfl rfl ?_
            refine rr_iload C dL_law_1024 rfl ?_
            replace hr := Option.bind_eq_some_iff.mp hr
            obtain ⟨u592, e593, hr⟩ := hr
            replace hr := Option.bind_eq_some_iff.mp hr
            obtain ⟨v594, e595, hr⟩ := hr
            refine rr_callVq (as := [.int l30]) (st := []) (mc' := 0) (ms' := 0) C dL_law_1026 iv_L_113 (by decide) e593 rfl (Nat.le_of_ble_eq_true rfl) (c_X10_done l1 l30 (by omega) e595) (fun v_ h_ n_ q_ => ?_)
            obtain ⟨q1_, q2_, q3_⟩ := q_
            subst v_; subst h_; subst n_
            show WW W0 G 73 _ _ _ 1029 [some (.ref l0), some (.ref l1), some (.int l2), some (.int l3), some (.int l4), some (.int l5), some (.int l6), some (.int l7), some (.int l8), some (.int l9), some (.int l10), some (.int l11), some (.int l12), some (.int l13), some (.int l14), some (.int l15), some (.int l16), some (.int l17), none, some (.long l19), none, some (.ref l21), some (.ref l22), some (.ref l23), some (.ref l24), some (.ref l25), some (.ref l26), some (.ref l27), some (.int l28), some (.ref l29), some (.int l30), some (.int x574), none, none, none, none, none, none, none, none, none, none, none, none, none, none, none, none, none, none, none, none, none, none, none, none, none, none, none, none, none, none, none, none, none, none, none, none, none, none, none, none, none] [.int v594.1] v594.2 n _ _
            obtain ⟨c596, hr⟩ := ite_n hr
            refine rr_if_eq (tgt := 1041) C dL_law_1029 (by decide) (fun q_ => absurd q_ c596) (fun _ => ?_)
            refine rr_aload_n (i := 1) C dL_law_1032 rfl rfl ?_
            refine rr_iload C dL_law_1033 rfl ?_
            replace hr := Option.bind_eq_some_iff.mp hr
            obtain ⟨u597, e598, hr⟩ := hr
            replace hr := Option.bind_eq_some_iff.mp hr
            obtain ⟨v599, e600, hr⟩ := hr
            refine rr_callVq (as := [.int l30]) (st := []) (mc' := 0) (ms' := 0) C dL_law_1035 iv_L_113 (by decide) e598 rfl (Nat.le_of_ble_eq_true rfl) (c_X10_done l1 l30 (by omega) e600) (fun v_ h_ n_ q_ => ?_)
            obtain ⟨q1_, q2_, q3_⟩ := q_
            subst v_; subst h_; subst n_
            show WW W0 G 73 _ _ _ 1038 [some (.ref l0), some (.ref l1), some (.int l2), some (.int l3), some (.int l4), some (.int l5), some (.int l6), some (.int l7), some (.int l8), some (.int l9), some (.int l10), some (.int l11), some (.int l12), some (.int l13), some (.int l14), some (.int l15), some (.int l16), some (.int l17), none, some (.long l19), none, some (.ref l21), some (.ref l22), some (.ref l23), some (.ref l24), some (.ref l25), some (.ref l26), some (.ref l27), some (.int l28), some (.ref l29), some (.int l30), some (.int x574), none, none, none, none, none, none, none, none, none, none, none, none, none, none, none, none, none, none, none, none, none, none, none, none, none, none, none, none, none, none, none, none, none, none, none, none, none, none, none, none, none] [.int v599.1] v599.2 n _ _
            obtain ⟨c601, hr⟩ := ite_nn hr
            refine rr_if_eq (tgt := 1043) C dL_law_1038 (by decide) (fun _ => ?_) (fun q_ => absurd c601 q_)
            refine rr_aload C dL_law_1043 rfl ?_
            refine rr_iload C dL_law_1045 rfl ?_
            refine rr_iload C dL_law_1047 rfl ?_
            replace hr := Option.bind_eq_some_iff.mp hr
            obtain ⟨h602, e603, hr⟩ := hr
            refine rr_stI C dL_law_1049 e603 ?_
            cases hr
            exact rr_keep [true, true, true, true, true, true, true, true, true, true, true, true, true, true, true, true, true, true, false, true, false, true, true, true, true, true, true, true, true, true, true, false, false, false, false, false, false, false, false, false, false, false, false, false, false, false, false, false, false, false, false, false, false, false, false, false, false, false, false, false, false, false, false, false, false, false, false, false, false, false, false, false, false] hj582
          · replace hr := (if_pos c1008_).symm.trans hr
            refine rr_goto (tgt := 1050) C dL_law_1011 (by decide) ?_
            cases hr
            exact rr_keep [true, true, true, true, true, true, true, true, true, true, true, true, true, true, true, true, true, true, false, true, false, true, true, true, true, true, true, true, true, true, true, false, false, false, false, false, false, false, false, false, false, false, false, false, false, false, false, false, false, false, false, false, false, false, false, false, false, false, false, false, false, false, false, false, false, false, false, false, false, false, false, false, false] hj582
      refine rr_iinc (v := l30 + 1) C dL_law_1050 rfl rfl ?_
      show WW W0 G 73 _ _ _ 1053 [some (.ref l0), some (.ref l1), some (.int l2), some (.int l3), some (.int l4), some (.int l5), some (.int l6), some (.int l7), some (.int l8), some (.int l9), some (.int l10), some (.int l11), some (.int l12), some (.int l13), some (.int l14), some (.int l15), some (.int l16), some (.int l17), none, some (.long l19), none, some (.ref l21), some (.ref l22), some (.ref l23), some (.ref l24), some (.ref l25), some (.ref l26), some (.ref l27), some (.int l28), some (.ref l29), some (.int (l30 + 1)), none, none, none, none, none, none, none, none, none, none, none, none, none, none, none, none, none, none, none, none, none, none, none, none, none, none, none, none, none, none, none, none, none, none, none, none, none, none, none, none, none, none] [] h581 n _ _
      refine rr_goto (tgt := 959) C dL_law_1053 (by decide) ?_
      exact rr_keep [true, true, true, true, true, true, true, true, true, true, true, true, true, true, true, true, true, true, false, true, false, true, true, true, true, true, true, true, true, true, true, false, false, false, false, false, false, false, false, false, false, false, false, false, false, false, false, false, false, false, false, false, false, false, false, false, false, false, false, false, false, false, false, false, false, false, false, false, false, false, false, false, false] (ih_ _ _ hr hx0)
set_option maxRecDepth 100000 in
set_option maxHeartbeats 4000000 in
theorem w_L_law_1076 {K : Nat} {nm_ : String} {W0 : mm_X} {G : mm_G} {mc ms kc ks : Nat} {Q_ : State → Prop} {n : Nat} (C : mm_C W0 G cL_law yL_law.cls 73 mc ms (some .boolean) 300 nm_) (hn : 48 ≤ n) (l1 : Nat) (l2 : Int32) (l3 : Int32) (l4 : Int32) (l5 : Int32) (l6 : Int32) (l7 : Int32) (l8 : Int32) (l9 : Int32) (l10 : Int32) (l11 : Int32) (l12 : Int32) (l13 : Int32) (l14 : Int32) (l15 : Int32) (l16 : Int32) (l17 : Int32) (l21 : Nat) (l22 : Nat) (l23 : Nat) (l24 : Nat) (l25 : Nat) (l26 : Nat) (l27 : Nat) (l28 : Int32) (l29 : Nat) (l30 : Int32) (l31 : Int64) (l33 : Nat) : ∀ (k_ : Nat) (l34 : Int32) (h : mm_H) {r_ : mm_H} (hr : lp_L_law_1076 K n l1 l2 l3 l4 l5 l6 l7 l8 l9 l10 l11 l12 l13 l14 l15 l16 l17 l21 l22 l23 l24 l25 l26 l27 l28 l29 l30 l31 l33 k_ l34 h = some r_) (hx0 : WW W0 G 73 mc ms Q_ 1100 [none, some (.ref l1), some (.int l2), some (.int l3), some (.int l4), some (.int l5), some (.int l6), some (.int l7), some (.int l8), some (.int l9), some (.int l10), some (.int l11), some (.int l12), some (.int l13), some (.int l14), some (.int l15), some (.int l16), some (.int l17), none, none, none, some (.ref l21), some (.ref l22), some (.ref l23), some (.ref l24), some (.ref l25), some (.ref l26), some (.ref l27), some (.int l28), some (.ref l29), some (.int l30), some (.long l31), none, some (.ref l33), none, none, none, none, none, none, none, none, none, none, none, none, none, none, none, none, none, none, none, none, none, none, none, none, none, none, none, none, none, none, none, none, none, none, none, none, none, none, none] [] r_ n kc ks), WW W0 G 73 mc ms Q_ 1076 [none, some (.ref l1), some (.int l2), some (.int l3), some (.int l4), some (.int l5), some (.int l6), some (.int l7), some (.int l8), some (.int l9), some (.int l10), some (.int l11), some (.int l12), some (.int l13), some (.int l14), some (.int l15), some (.int l16), some (.int l17), none, none, none, some (.ref l21), some (.ref l22), some (.ref l23), some (.ref l24), some (.ref l25), some (.ref l26), some (.ref l27), some (.int l28), some (.ref l29), some (.int l30), some (.long l31), none, some (.ref l33), some (.int l34), none, none, none, none, none, none, none, none, none, none, none, none, none, none, none, none, none, none, none, none, none, none, none, none, none, none, none, none, none, none, none, none, none, none, none, none, none, none] [] h n kc ks := by
  intro k_
  induction k_ with
  | zero =>
    intro l34 h r_ hr
    cases hr
  | succ k_ ih_ =>
    intro l34 h r_ hr hx0
    unfold lp_L_law_1076 at hr
    refine rr_iload C dL_law_1076 rfl ?_
    refine rr_iload C dL_law_1078 rfl ?_
    refine rr_icmp_ge (tgt := 1100) C dL_law_1080 (by decide) (fun c1080_ => ?_) (fun c1080_ => ?_)
    · replace hr := (if_pos c1080_).symm.trans hr
      obtain rfl := Option.some.inj hr
      exact rr_keep [false, true, true, true, true, true, true, true, true, true, true, true, true, true, true, true, true, true, false, false, false, true, true, true, true, true, true, true, true, true, true, true, false, true, false, false, false, false, false, false, false, false, false, false, false, false, false, false, false, false, false, false, false, false, false, false, false, false, false, false, false, false, false, false, false, false, false, false, false, false, false, false, false] (hx0)
    · replace hr := (if_neg c1080_).symm.trans hr
      refine rr_aload C dL_law_1083 rfl ?_
      refine rr_iload C dL_law_1085 rfl ?_
      refine rr_aload C dL_law_1087 rfl ?_
      refine rr_iload C dL_law_1089 rfl ?_
      replace hr := Option.bind_eq_some_iff.mp hr
      obtain ⟨v613, e614, hr⟩ := hr
      refine rr_ldI C dL_law_1091 e614 ?_
      refine rr_i2l C dL_law_1092 ?_
      replace hr := Option.bind_eq_some_iff.mp hr
      obtain ⟨h615, e616, hr⟩ := hr
      refine rr_stJ C dL_law_1093 e616 ?_
      refine rr_iinc (v := l34 + 1) C dL_law_1094 rfl rfl ?_
      show WW W0 G 73 _ _ _ 1097 [none, some (.ref l1), some (.int l2), some (.int l3), some (.int l4), some (.int l5), some (.int l6), some (.int l7), some (.int l8), some (.int l9), some (.int l10), some (.int l11), some (.int l12), some (.int l13), some (.int l14), some (.int l15), some (.int l16), some (.int l17), none, none, none, some (.ref l21), some (.ref l22), some (.ref l23), some (.ref l24), some (.ref l25), some (.ref l26), some (.ref l27), some (.int l28), some (.ref l29), some (.int l30), some (.long l31), none, some (.ref l33), some (.int (l34 + 1)), none, none, none, none, none, none, none, none, none, none, none, none, none, none, none, none, none, none, none, none, none, none, none, none, none, none, none, none, none, none, none, none, none, none, none, none, none, none] [] h615 n _ _
      refine rr_goto (tgt := 1076) C dL_law_1097 (by decide) ?_
      exact rr_keep [false, true, true, true, true, true, true, true, true, true, true, true, true, true, true, true, true, true, false, false, false, true, true, true, true, true, true, true, true, true, true, true, false, true, true, false, false, false, false, false, false, false, false, false, false, false, false, false, false, false, false, false, false, false, false, false, false, false, false, false, false, false, false, false, false, false, false, false, false, false, false, false, false] (ih_ _ _ hr hx0)
set_option maxRecDepth 100000 in
set_option maxHeartbeats 4000000 in
theorem w_L_law_1157 {K : Nat} {nm_ : String} {W0 : mm_X} {G : mm_G} {mc ms kc ks : Nat} {Q_ : State → Prop} {n : Nat} (C : mm_C W0 G cL_law yL_law.cls 73 mc ms (some .boolean) 300 nm_) (hn : 48 ≤ n) (l1 : Nat) (l2 : Int32) (l3 : Int32) (l4 : Int32) (l5 : Int32) (l6 : Int32) (l7 : Int32) (l8 : Int32) (l9 : Int32) (l10 : Int32) (l11 : Int32) (l12 : Int32) (l13 : Int32) (l14 : Int32) (l15 : Int32) (l16 : Int32) (l17 : Int32) (l21 : Nat) (l22 : Nat) (l23 : Nat) (l24 : Nat) (l25 : Nat) (l26 : Nat) (l27 : Nat) (l28 : Int32) (l29 : Nat) (l30 : Int32) (l31 : Int64) (l33 : Nat) (l34 : Int64) (l36 : Int64) (l38 : Int64) (l40 : Int64) (l42 : Int32) (l43 : Int64) (l45 : Int64) : ∀ (k_ : Nat) (l47 : Int64) (l49 : Int64) (l51 : Int32) (h : mm_H) {r_ : Int64 × Int64 × mm_H} (hr : lp_L_law_1157 K n l1 l2 l3 l4 l5 l6 l7 l8 l9 l10 l11 l12 l13 l14 l15 l16 l17 l21 l22 l23 l24 l25 l26 l27 l28 l29 l30 l31 l33 l34 l36 l38 l40 l42 l43 l45 k_ l47 l49 l51 h = some r_) (hx0 : WW W0 G 73 mc ms Q_ 1278 [none, some (.ref l1), some (.int l2), some (.int l3), some (.int l4), some (.int l5), some (.int l6), some (.int l7), some (.int l8), some (.int l9), some (.int l10), some (.int l11), some (.int l12), some (.int l13), some (.int l14), some (.int l15), some (.int l16), some (.int l17), none, none, none, some (.ref l21), some (.ref l22), some (.ref l23), some (.ref l24), some (.ref l25), some (.ref l26), some (.ref l27), some (.int l28), some (.ref l29), some (.int l30), some (.long l31), none, some (.ref l33), some (.long l34), none, some (.long l36), none, some (.long l38), none, some (.long l40), none, some (.int l42), some (.long l43), none, some (.long l45), none, some (.long r_.1), none, some (.long r_.2.1), none, none, none, none, none, none, none, none, none, none, none, none, none, none, none, none, none, none, none, none, none, none, none] [] r_.2.2 n kc ks), WW W0 G 73 mc ms Q_ 1157 [none, some (.ref l1), some (.int l2), some (.int l3), some (.int l4), some (.int l5), some (.int l6), some (.int l7), some (.int l8), some (.int l9), some (.int l10), some (.int l11), some (.int l12), some (.int l13), some (.int l14), some (.int l15), some (.int l16), some (.int l17), none, none, none, some (.ref l21), some (.ref l22), some (.ref l23), some (.ref l24), some (.ref l25), some (.ref l26), some (.ref l27), some (.int l28), some (.ref l29), some (.int l30), some (.long l31), none, some (.ref l33), some (.long l34), none, some (.long l36), none, some (.long l38), none, some (.long l40), none, some (.int l42), some (.long l43), none, some (.long l45), none, some (.long l47), none, some (.long l49), none, some (.int l51), none, none, none, none, none, none, none, none, none, none, none, none, none, none, none, none, none, none, none, none, none] [] h n kc ks := by
  intro k_
  induction k_ with
  | zero =>
    intro l47 l49 l51 h r_ hr
    cases hr
  | succ k_ ih_ =>
    intro l47 l49 l51 h r_ hr hx0
    unfold lp_L_law_1157 at hr
    refine rr_iload C dL_law_1157 rfl ?_
    refine rr_iload C dL_law_1159 rfl ?_
    refine rr_icmp_ge (tgt := 1278) C dL_law_1161 (by decide) (fun c1161_ => ?_) (fun c1161_ => ?_)
    · replace hr := (if_pos c1161_).symm.trans hr
      obtain rfl := Option.some.inj hr
      exact rr_keep [false, true, true, true, true, true, true, true, true, true, true, true, true, true, true, true, true, true, false, false, false, true, true, true, true, true, true, true, true, true, true, true, false, true, true, false, true, false, true, false, true, false, true, true, false, true, false, true, false, true, false, false, false, false, false, false, false, false, false, false, false, false, false, false, false, false, false, false, false, false, false, false, false] (hx0)
    · replace hr := (if_neg c1161_).symm.trans hr
      refine rr_aload C dL_law_1164 rfl ?_
      refine rr_iload C dL_law_1166 rfl ?_
      replace hr := Option.bind_eq_some_iff.mp hr
      obtain ⟨v627, e628, hr⟩ := hr
      refine rr_ldI C dL_law_1168 e628 ?_
      refine rr_iload C dL_law_1169 rfl ?_
      replace hr := Option.bind_eq_some_iff.mp hr
      obtain ⟨y630, er632, hr⟩ := hr
      refine rr_join0 (pc' := 1185) (L' := [none, some (.ref l1), some (.int l2), some (.int l3), some (.int l4), some (.int l5), some (.int l6), some (.int l7), some (.int l8), some (.int l9), some (.int l10), some (.int l11), some (.int l12), some (.int l13), some (.int l14), some (.int l15), some (.int l16), some (.int l17), none, none, none, some (.ref l21), some (.ref l22), some (.ref l23), some (.ref l24), some (.ref l25), some (.ref l26), some (.ref l27), some (.int l28), some (.ref l29), some (.int l30), some (.long l31), none, some (.ref l33), some (.long l34), none, some (.long l36), none, some (.long l38), none, some (.long l40), none, some (.int l42), some (.long l43), none, some (.long l45), none, some (.long y630), none, some (.long l49), none, some (.int l51), none, none, none, none, none, none, none, none, none, none, none, none, none, none, none, none, none, none, none, none, none]) (st' := []) (h' := h) (n' := n) C (fun hj631 => ?_) ?_
      · have hr := er632
        refine rr_icmp_ne (tgt := 1185) C dL_law_1171 (by decide) (fun c629 => ?_) (fun c629 => ?_)
        · replace hr := (if_neg c629).symm.trans hr
          cases hr
          exact rr_keep [false, true, true, true, true, true, true, true, true, true, true, true, true, true, true, true, true, true, false, false, false, true, true, true, true, true, true, true, true, true, true, true, false, true, true, false, true, false, true, false, true, false, true, true, false, true, false, true, false, true, false, true, false, false, false, false, false, false, false, false, false, false, false, false, false, false, false, false, false, false, false, false, false] hj631
        · replace hr := (if_pos c629).symm.trans hr
          refine rr_lload C dL_law_1174 rfl ?_
          refine rr_aload C dL_law_1176 rfl ?_
          refine rr_iload C dL_law_1178 rfl ?_
          replace hr := Option.bind_eq_some_iff.mp hr
          obtain ⟨v633, e634, hr⟩ := hr
          refine rr_ldI C dL_law_1180 e634 ?_
          refine rr_i2l C dL_law_1181 ?_
          refine rr_ladd C dL_law_1182 ?_
          replace hr := Option.bind_eq_some_iff.mp hr
          obtain ⟨x635, e636, hr⟩ := hr
          refine rr_asJ C e636 ?_
          refine rr_lstore C dL_law_1183 (by decide) ?_
          show WW W0 G 73 _ _ _ 1185 [none, some (.ref l1), some (.int l2), some (.int l3), some (.int l4), some (.int l5), some (.int l6), some (.int l7), some (.int l8), some (.int l9), some (.int l10), some (.int l11), some (.int l12), some (.int l13), some (.int l14), some (.int l15), some (.int l16), some (.int l17), none, none, none, some (.ref l21), some (.ref l22), some (.ref l23), some (.ref l24), some (.ref l25), some (.ref l26), some (.ref l27), some (.int l28), some (.ref l29), some (.int l30), some (.long l31), none, some (.ref l33), some (.long l34), none, some (.long l36), none, some (.long l38), none, some (.long l40), none, some (.int l42), some (.long l43), none, some (.long l45), none, some (.long x635), none, some (.long l49), none, some (.int l51), none, none, none, none, none, none, none, none, none, none, none, none, none, none, none, none, none, none, none, none, none] [] h n _ _
          cases hr
          exact rr_keep [false, true, true, true, true, true, true, true, true, true, true, true, true, true, true, true, true, true, false, false, false, true, true, true, true, true, true, true, true, true, true, true, false, true, true, false, true, false, true, false, true, false, true, true, false, true, false, true, false, true, false, true, false, false, false, false, false, false, false, false, false, false, false, false, false, false, false, false, false, false, false, false, false] hj631
      refine rr_aload C dL_law_1185 rfl ?_
      refine rr_iload C dL_law_1187 rfl ?_
      replace hr := Option.bind_eq_some_iff.mp hr
      obtain ⟨v637, e638, hr⟩ := hr
      refine rr_ldI C dL_law_1189 e638 ?_
      refine rr_iload C dL_law_1190 rfl ?_
      replace hr := Option.bind_eq_some_iff.mp hr
      obtain ⟨⟨y640, h641⟩, er643, hr⟩ := hr
      dsimp only at hr
      refine rr_join0 (pc' := 1272) (L' := [none, some (.ref l1), some (.int l2), some (.int l3), some (.int l4), some (.int l5), some (.int l6), some (.int l7), some (.int l8), some (.int l9), some (.int l10), some (.int l11), some (.int l12), some (.int l13), some (.int l14), some (.int l15), some (.int l16), some (.int l17), none, none, none, some (.ref l21), some (.ref l22), some (.ref l23), some (.ref l24), some (.ref l25), some (.ref l26), some (.ref l27), some (.int l28), some (.ref l29), some (.int l30), some (.long l31), none, some (.ref l33), some (.long l34), none, some (.long l36), none, some (.long l38), none, some (.long l40), none, some (.int l42), some (.long l43), none, some (.long l45), none, some (.long y630), none, some (.long y640), none, some (.int l51), none, none, none, none, none, none, none, none, none, none, none, none, none, none, none, none, none, none, none, none, none]) (st' := []) (h' := h641) (n' := n) C (fun hj642 => ?_) ?_
      · have hr := er643
        refine rr_icmp_ge (tgt := 1272) C dL_law_1192 (by decide) (fun c639 => ?_) (fun c639 => ?_)
        · replace hr := (if_pos c639).symm.trans hr
          cases hr
          exact rr_keep [false, true, true, true, true, true, true, true, true, true, true, true, true, true, true, true, true, true, false, false, false, true, true, true, true, true, true, true, true, true, true, true, false, true, true, false, true, false, true, false, true, false, true, true, false, true, false, true, false, true, false, true, false, false, false, false, false, false, false, false, false, false, false, false, false, false, false, false, false, false, false, false, false] hj642
        · replace hr := (if_neg c639).symm.trans hr
          refine rr_aload C dL_law_1195 rfl ?_
          refine rr_iload C dL_law_1197 rfl ?_
          replace hr := Option.bind_eq_some_iff.mp hr
          obtain ⟨v644, e645, hr⟩ := hr
          refine rr_ldI C dL_law_1199 e645 ?_
          refine rr_bipush (v := 100) C dL_law_1200 (by decide) ?_
          refine rr_iload C dL_law_1202 rfl ?_
          refine rr_imul C dL_law_1204 ?_
          refine rr_icmp_ge (tgt := 1211) C dL_law_1205 (by decide) (fun c1205_ => ?_) (fun c1205_ => ?_)
          · replace hr := (if_pos c1205_).symm.trans hr
            refine rr_iload C dL_law_1211 rfl ?_
            refine rr_iconst (v := 3) C dL_law_1213 (by decide) ?_
            replace hr := Option.bind_eq_some_iff.mp hr
            obtain ⟨y648, er650, hr⟩ := hr
            refine rr_join0 (pc' := 1235) (L' := [none, some (.ref l1), some (.int l2), some (.int l3), some (.int l4), some (.int l5), some (.int l6), some (.int l7), some (.int l8), some (.int l9), some (.int l10), some (.int l11), some (.int l12), some (.int l13), some (.int l14), some (.int l15), some (.int l16), some (.int l17), none, none, none, some (.ref l21), some (.ref l22), some (.ref l23), some (.ref l24), some (.ref l25), some (.ref l26), some (.ref l27), some (.int l28), some (.ref l29), some (.int l30), some (.long l31), none, some (.ref l33), some (.long l34), none, some (.long l36), none, some (.long l38), none, some (.long l40), none, some (.int l42), some (.long l43), none, some (.long l45), none, some (.long y630), none, some (.long l49), none, some (.int l51), none, none, none, none, none, none, none, none, none, none, none, none, none, none, none, none, none, none, none, none, none]) (st' := [.long y648]) (h' := h) (n' := n) C (fun hj649 => ?_) ?_
            · have hr := er650
              refine rr_icmp_le (tgt := 1221) C dL_law_1214 (by decide) (fun c647 => ?_) (fun c647 => ?_)
              · replace hr := (if_pos c647).symm.trans hr
                refine rr_aload C dL_law_1221 rfl ?_
                refine rr_iload C dL_law_1223 rfl ?_
                replace hr := Option.bind_eq_some_iff.mp hr
                obtain ⟨v651, e652, hr⟩ := hr
                refine rr_ldI C dL_law_1225 e652 ?_
                refine rr_i2l C dL_law_1226 ?_
                refine rr_iload C dL_law_1227 rfl ?_
                refine rr_i2l C dL_law_1229 ?_
                refine rr_lmul C dL_law_1230 ?_
                refine rr_ldc2 C dL_law_1231 ct_L_116 ?_
                refine rr_ldiv C dL_law_1234 (by decide) ?_
                cases hr
                exact rr_keep [false, true, true, true, true, true, true, true, true, true, true, true, true, true, true, true, true, true, false, false, false, true, true, true, true, true, true, true, true, true, true, true, false, true, true, false, true, false, true, false, true, false, true, true, false, true, false, true, false, true, false, true, false, false, false, false, false, false, false, false, false, false, false, false, false, false, false, false, false, false, false, false, false] hj649
              · replace hr := (if_neg c647).symm.trans hr
                refine rr_lconst (v := 0) C dL_law_1217 (by decide) ?_
                refine rr_goto (tgt := 1235) C dL_law_1218 (by decide) ?_
                cases hr
                exact rr_keep [false, true, true, true, true, true, true, true, true, true, true, true, true, true, true, true, true, true, false, false, false, true, true, true, true, true, true, true, true, true, true, true, false, true, true, false, true, false, true, false, true, false, true, true, false, true, false, true, false, true, false, true, false, false, false, false, false, false, false, false, false, false, false, false, false, false, false, false, false, false, false, false, false] hj649
            refine rr_lstore C dL_law_1235 (by decide) ?_
            show WW W0 G 73 _ _ _ 1237 [none, some (.ref l1), some (.int l2), some (.int l3), some (.int l4), some (.int l5), some (.int l6), some (.int l7), some (.int l8), some (.int l9), some (.int l10), some (.int l11), some (.int l12), some (.int l13), some (.int l14), some (.int l15), some (.int l16), some (.int l17), none, none, none, some (.ref l21), some (.ref l22), some (.ref l23), some (.ref l24), some (.ref l25), some (.ref l26), some (.ref l27), some (.int l28), some (.ref l29), some (.int l30), some (.long l31), none, some (.ref l33), some (.long l34), none, some (.long l36), none, some (.long l38), none, some (.long l40), none, some (.int l42), some (.long l43), none, some (.long l45), none, some (.long y630), none, some (.long l49), none, some (.int l51), some (.long y648), none, none, none, none, none, none, none, none, none, none, none, none, none, none, none, none, none, none, none, none] [] h n _ _
            refine rr_lload C dL_law_1237 rfl ?_
            refine rr_aload C dL_law_1239 rfl ?_
            refine rr_iload C dL_law_1241 rfl ?_
            replace hr := Option.bind_eq_some_iff.mp hr
            obtain ⟨v653, e654, hr⟩ := hr
            refine rr_ldJ C dL_law_1243 e654 ?_
            refine rr_lcmp C dL_law_1244 ?_
            replace hr := Option.bind_eq_some_iff.mp hr
            obtain ⟨y656, er658, hr⟩ := hr
            refine rr_join0 (pc' := 1255) (L' := [none, some (.ref l1), some (.int l2), some (.int l3), some (.int l4), some (.int l5), some (.int l6), some (.int l7), some (.int l8), some (.int l9), some (.int l10), some (.int l11), some (.int l12), some (.int l13), some (.int l14), some (.int l15), some (.int l16), some (.int l17), none, none, none, some (.ref l21), some (.ref l22), some (.ref l23), some (.ref l24), some (.ref l25), some (.ref l26), some (.ref l27), some (.int l28), some (.ref l29), some (.int l30), some (.long l31), none, some (.ref l33), some (.long l34), none, some (.long l36), none, some (.long l38), none, some (.long l40), none, some (.int l42), some (.long l43), none, some (.long l45), none, some (.long y630), none, some (.long l49), none, some (.int l51), some (.long y656), none, none, none, none, none, none, none, none, none, none, none, none, none, none, none, none, none, none, none, none]) (st' := []) (h' := h) (n' := n) C (fun hj657 => ?_) ?_
            · have hr := er658
              refine rr_if_le (tgt := 1255) C dL_law_1245 (by decide) (fun c655 => ?_) (fun c655 => ?_)
              · replace hr := (if_pos c655).symm.trans hr
                cases hr
                exact rr_keep [false, true, true, true, true, true, true, true, true, true, true, true, true, true, true, true, true, true, false, false, false, true, true, true, true, true, true, true, true, true, true, true, false, true, true, false, true, false, true, false, true, false, true, true, false, true, false, true, false, true, false, true, true, false, false, false, false, false, false, false, false, false, false, false, false, false, false, false, false, false, false, false, false] hj657
              · replace hr := (if_neg c655).symm.trans hr
                refine rr_aload C dL_law_1248 rfl ?_
                refine rr_iload C dL_law_1250 rfl ?_
                replace hr := Option.bind_eq_some_iff.mp hr
                obtain ⟨v659, e660, hr⟩ := hr
                refine rr_ldJ C dL_law_1252 e660 ?_
                refine rr_lstore C dL_law_1253 (by decide) ?_
                show WW W0 G 73 _ _ _ 1255 [none, some (.ref l1), some (.int l2), some (.int l3), some (.int l4), some (.int l5), some (.int l6), some (.int l7), some (.int l8), some (.int l9), some (.int l10), some (.int l11), some (.int l12), some (.int l13), some (.int l14), some (.int l15), some (.int l16), some (.int l17), none, none, none, some (.ref l21), some (.ref l22), some (.ref l23), some (.ref l24), some (.ref l25), some (.ref l26), some (.ref l27), some (.int l28), some (.ref l29), some (.int l30), some (.long l31), none, some (.ref l33), some (.long l34), none, some (.long l36), none, some (.long l38), none, some (.long l40), none, some (.int l42), some (.long l43), none, some (.long l45), none, some (.long y630), none, some (.long l49), none, some (.int l51), some (.long v659), none, none, none, none, none, none, none, none, none, none, none, none, none, none, none, none, none, none, none, none] [] h n _ _
                cases hr
                exact rr_keep [false, true, true, true, true, true, true, true, true, true, true, true, true, true, true, true, true, true, false, false, false, true, true, true, true, true, true, true, true, true, true, true, false, true, true, false, true, false, true, false, true, false, true, true, false, true, false, true, false, true, false, true, true, false, false, false, false, false, false, false, false, false, false, false, false, false, false, false, false, false, false, false, false] hj657
            refine rr_aload C dL_law_1255 rfl ?_
            refine rr_iload C dL_law_1257 rfl ?_
            refine rr_dup2 C dL_law_1259 rfl rfl ?_
            replace hr := Option.bind_eq_some_iff.mp hr
            obtain ⟨v661, e662, hr⟩ := hr
            refine rr_ldJ C dL_law_1260 e662 ?_
            refine rr_lload C dL_law_1261 rfl ?_
            refine rr_lsub C dL_law_1263 ?_
            replace hr := Option.bind_eq_some_iff.mp hr
            obtain ⟨h663, e664, hr⟩ := hr
            refine rr_stJ C dL_law_1264 e664 ?_
            refine rr_lload C dL_law_1265 rfl ?_
            refine rr_lload C dL_law_1267 rfl ?_
            refine rr_ladd C dL_law_1269 ?_
            replace hr := Option.bind_eq_some_iff.mp hr
            obtain ⟨x665, e666, hr⟩ := hr
            refine rr_asJ C e666 ?_
            refine rr_lstore C dL_law_1270 (by decide) ?_
            show WW W0 G 73 _ _ _ 1272 [none, some (.ref l1), some (.int l2), some (.int l3), some (.int l4), some (.int l5), some (.int l6), some (.int l7), some (.int l8), some (.int l9), some (.int l10), some (.int l11), some (.int l12), some (.int l13), some (.int l14), some (.int l15), some (.int l16), some (.int l17), none, none, none, some (.ref l21), some (.ref l22), some (.ref l23), some (.ref l24), some (.ref l25), some (.ref l26), some (.ref l27), some (.int l28), some (.ref l29), some (.int l30), some (.long l31), none, some (.ref l33), some (.long l34), none, some (.long l36), none, some (.long l38), none, some (.long l40), none, some (.int l42), some (.long l43), none, some (.long l45), none, some (.long y630), none, some (.long x665), none, some (.int l51), some (.long y656), none, none, none, none, none, none, none, none, none, none, none, none, none, none, none, none, none, none, none, none] [] h663 n _ _
            cases hr
            exact rr_keep [false, true, true, true, true, true, true, true, true, true, true, true, true, true, true, true, true, true, false, false, false, true, true, true, true, true, true, true, true, true, true, true, false, true, true, false, true, false, true, false, true, false, true, true, false, true, false, true, false, true, false, true, false, false, false, false, false, false, false, false, false, false, false, false, false, false, false, false, false, false, false, false, false] hj642
          · replace hr := (if_neg c1205_).symm.trans hr
            refine rr_goto (tgt := 1272) C dL_law_1208 (by decide) ?_
            cases hr
            exact rr_keep [false, true, true, true, true, true, true, true, true, true, true, true, true, true, true, true, true, true, false, false, false, true, true, true, true, true, true, true, true, true, true, true, false, true, true, false, true, false, true, false, true, false, true, true, false, true, false, true, false, true, false, true, false, false, false, false, false, false, false, false, false, false, false, false, false, false, false, false, false, false, false, false, false] hj642
      refine rr_iinc (v := l51 + 1) C dL_law_1272 rfl rfl ?_
      show WW W0 G 73 _ _ _ 1275 [none, some (.ref l1), some (.int l2), some (.int l3), some (.int l4), some (.int l5), some (.int l6), some (.int l7), some (.int l8), some (.int l9), some (.int l10), some (.int l11), some (.int l12), some (.int l13), some (.int l14), some (.int l15), some (.int l16), some (.int l17), none, none, none, some (.ref l21), some (.ref l22), some (.ref l23), some (.ref l24), some (.ref l25), some (.ref l26), some (.ref l27), some (.int l28), some (.ref l29), some (.int l30), some (.long l31), none, some (.ref l33), some (.long l34), none, some (.long l36), none, some (.long l38), none, some (.long l40), none, some (.int l42), some (.long l43), none, some (.long l45), none, some (.long y630), none, some (.long y640), none, some (.int (l51 + 1)), none, none, none, none, none, none, none, none, none, none, none, none, none, none, none, none, none, none, none, none, none] [] h641 n _ _
      refine rr_goto (tgt := 1157) C dL_law_1275 (by decide) ?_
      exact rr_keep [false, true, true, true, true, true, true, true, true, true, true, true, true, true, true, true, true, true, false, false, false, true, true, true, true, true, true, true, true, true, true, true, false, true, true, false, true, false, true, false, true, false, true, true, false, true, false, true, false, true, false, true, false, false, false, false, false, false, false, false, false, false, false, false, false, false, false, false, false, false, false, false, false] (ih_ _ _ _ _ hr hx0)
set_option maxRecDepth 100000 in
set_option maxHeartbeats 4000000 in
theorem w_L_law_1418 {K : Nat} {nm_ : String} {W0 : mm_X} {G : mm_G} {mc ms kc ks : Nat} {Q_ : State → Prop} {n : Nat} (C : mm_C W0 G cL_law yL_law.cls 73 mc ms (some .boolean) 300 nm_) (hn : 48 ≤ n) (l1 : Nat) (l2 : Int32) (l3 : Int32) (l4 : Int32) (l5 : Int32) (l6 : Int32) (l7 : Int32) (l8 : Int32) (l9 : Int32) (l10 : Int32) (l11 : Int32) (l12 : Int32) (l13 : Int32) (l14 : Int32) (l15 : Int32) (l16 : Int32) (l17 : Int32) (l21 : Nat) (l22 : Nat) (l23 : Nat) (l24 : Nat) (l25 : Nat) (l26 : Nat) (l27 : Nat) (l28 : Int32) (l29 : Nat) (l30 : Int32) (l31 : Int64) (l33 : Nat) (l38 : Int64) (l40 : Int64) (l42 : Int32) (l43 : Int64) (l45 : Int64) (l53 : Int64) (l55 : Nat) : ∀ (k_ : Nat) (l56 : Int32) (h : mm_H) {r_ : mm_H} (hr : lp_L_law_1418 K n l1 l2 l3 l4 l5 l6 l7 l8 l9 l10 l11 l12 l13 l14 l15 l16 l17 l21 l22 l23 l24 l25 l26 l27 l28 l29 l30 l31 l33 l38 l40 l42 l43 l45 l53 l55 k_ l56 h = some r_) (hx0 : WW W0 G 73 mc ms Q_ 1453 [none, some (.ref l1), some (.int l2), some (.int l3), some (.int l4), some (.int l5), some (.int l6), some (.int l7), some (.int l8), some (.int l9), some (.int l10), some (.int l11), some (.int l12), some (.int l13), some (.int l14), some (.int l15), some (.int l16), some (.int l17), none, none, none, some (.ref l21), some (.ref l22), some (.ref l23), some (.ref l24), some (.ref l25), some (.ref l26), some (.ref l27), some (.int l28), some (.ref l29), some (.int l30), some (.long l31), none, some (.ref l33), none, none, none, none, some (.long l38), none, some (.long l40), none, some (.int l42), some (.long l43), none, some (.long l45), none, none, none, none, none, none, none, some (.long l53), none, none, none, none, none, none, none, none, none, none, none, none, none, none, none, none, none, none, none] [] r_ n kc ks), WW W0 G 73 mc ms Q_ 1418 [none, some (.ref l1), some (.int l2), some (.int l3), some (.int l4), some (.int l5), some (.int l6), some (.int l7), some (.int l8), some (.int l9), some (.int l10), some (.int l11), some (.int l12), some (.int l13), some (.int l14), some (.int l15), some (.int l16), some (.int l17), none, none, none, some (.ref l21), some (.ref l22), some (.ref l23), some (.ref l24), some (.ref l25), some (.ref l26), some (.ref l27), some (.int l28), some (.ref l29), some (.int l30), some (.long l31), none, some (.ref l33), none, none, none, none, some (.long l38), none, some (.long l40), none, some (.int l42), some (.long l43), none, some (.long l45), none, none, none, none, none, none, none, some (.long l53), none, some (.ref l55), some (.int l56), none, none, none, none, none, none, none, none, none, none, none, none, none, none, none, none] [] h n kc ks := by
  intro k_
  induction k_ with
  | zero =>
    intro l56 h r_ hr
    cases hr
  | succ k_ ih_ =>
    intro l56 h r_ hr hx0
    unfold lp_L_law_1418 at hr
    refine rr_iload C dL_law_1418 rfl ?_
    refine rr_bipush (v := 15) C dL_law_1420 (by decide) ?_
    refine rr_icmp_ge (tgt := 1453) C dL_law_1422 (by decide) (fun c1422_ => ?_) (fun c1422_ => ?_)
    · replace hr := (if_pos c1422_).symm.trans hr
      obtain rfl := Option.some.inj hr
      exact rr_keep [false, true, true, true, true, true, true, true, true, true, true, true, true, true, true, true, true, true, false, false, false, true, true, true, true, true, true, true, true, true, true, true, false, true, false, false, false, false, true, false, true, false, true, true, false, true, false, false, false, false, false, false, false, true, false, false, false, false, false, false, false, false, false, false, false, false, false, false, false, false, false, false, false] (hx0)
    · replace hr := (if_neg c1422_).symm.trans hr
      refine rr_aload_n (i := 1) C dL_law_1425 rfl rfl ?_
      refine rr_iconst (v := 0) C dL_law_1426 (by decide) ?_
      refine rr_iload C dL_law_1427 rfl ?_
      refine rr_iload C dL_law_1429 rfl ?_
      refine rr_iload C dL_law_1431 rfl ?_
      replace hr := Option.bind_eq_some_iff.mp hr
      obtain ⟨u712, e713, hr⟩ := hr
      replace hr := Option.bind_eq_some_iff.mp hr
      obtain ⟨v714, e715, hr⟩ := hr
      refine rr_callVq (as := [.int 0, .int l42, .int l30, .int l56]) (st := []) (mc' := 0) (ms' := 0) C dL_law_1433 iv_L_120 (by decide) e713 rfl (Nat.le_of_ble_eq_true rfl) (c_X10_line l1 0 l42 l30 l56 (by omega) e715) (fun v_ h_ n_ q_ => ?_)
      obtain ⟨q1_, q2_, q3_⟩ := q_
      subst v_; subst h_; subst n_
      show WW W0 G 73 _ _ _ 1436 [none, some (.ref l1), some (.int l2), some (.int l3), some (.int l4), some (.int l5), some (.int l6), some (.int l7), some (.int l8), some (.int l9), some (.int l10), some (.int l11), some (.int l12), some (.int l13), some (.int l14), some (.int l15), some (.int l16), some (.int l17), none, none, none, some (.ref l21), some (.ref l22), some (.ref l23), some (.ref l24), some (.ref l25), some (.ref l26), some (.ref l27), some (.int l28), some (.ref l29), some (.int l30), some (.long l31), none, some (.ref l33), none, none, none, none, some (.long l38), none, some (.long l40), none, some (.int l42), some (.long l43), none, some (.long l45), none, none, none, none, none, none, none, some (.long l53), none, some (.ref l55), some (.int l56), none, none, none, none, none, none, none, none, none, none, none, none, none, none, none, none] [.long v714.1] v714.2 n _ _
      refine rr_aload C dL_law_1436 rfl ?_
      refine rr_iload C dL_law_1438 rfl ?_
      replace hr := Option.bind_eq_some_iff.mp hr
      obtain ⟨v716, e717, hr⟩ := hr
      refine rr_ldJ C dL_law_1440 e717 ?_
      refine rr_lcmp C dL_law_1441 ?_
      obtain ⟨c718, hr⟩ := ite_nn hr
      refine rr_if_eq (tgt := 1447) C dL_law_1442 (by decide) (fun _ => ?_) (fun q_ => absurd c718 q_)
      refine rr_iinc (v := l56 + 1) C dL_law_1447 rfl rfl ?_
      show WW W0 G 73 _ _ _ 1450 [none, some (.ref l1), some (.int l2), some (.int l3), some (.int l4), some (.int l5), some (.int l6), some (.int l7), some (.int l8), some (.int l9), some (.int l10), some (.int l11), some (.int l12), some (.int l13), some (.int l14), some (.int l15), some (.int l16), some (.int l17), none, none, none, some (.ref l21), some (.ref l22), some (.ref l23), some (.ref l24), some (.ref l25), some (.ref l26), some (.ref l27), some (.int l28), some (.ref l29), some (.int l30), some (.long l31), none, some (.ref l33), none, none, none, none, some (.long l38), none, some (.long l40), none, some (.int l42), some (.long l43), none, some (.long l45), none, none, none, none, none, none, none, some (.long l53), none, some (.ref l55), some (.int (l56 + 1)), none, none, none, none, none, none, none, none, none, none, none, none, none, none, none, none] [] v714.2 n _ _
      refine rr_goto (tgt := 1418) C dL_law_1450 (by decide) ?_
      exact rr_keep [false, true, true, true, true, true, true, true, true, true, true, true, true, true, true, true, true, true, false, false, false, true, true, true, true, true, true, true, true, true, true, true, false, true, false, false, false, false, true, false, true, false, true, true, false, true, false, false, false, false, false, false, false, true, false, true, true, false, false, false, false, false, false, false, false, false, false, false, false, false, false, false, false] (ih_ _ _ hr hx0)
set_option maxRecDepth 100000 in
set_option maxHeartbeats 4000000 in
theorem w_L_law_1730 {K : Nat} {nm_ : String} {W0 : mm_X} {G : mm_G} {mc ms kc ks : Nat} {Q_ : State → Prop} {n : Nat} (C : mm_C W0 G cL_law yL_law.cls 73 mc ms (some .boolean) 300 nm_) (hn : 48 ≤ n) (l1 : Nat) (l2 : Int32) (l3 : Int32) (l4 : Int32) (l5 : Int32) (l6 : Int32) (l7 : Int32) (l8 : Int32) (l9 : Int32) (l10 : Int32) (l11 : Int32) (l12 : Int32) (l13 : Int32) (l14 : Int32) (l15 : Int32) (l16 : Int32) (l17 : Int32) (l21 : Nat) (l22 : Nat) (l23 : Nat) (l24 : Nat) (l25 : Nat) (l26 : Nat) (l27 : Nat) (l28 : Int32) (l29 : Nat) (l30 : Int32) (l31 : Int64) (l33 : Nat) (l38 : Int64) (l40 : Int64) (l42 : Int32) (l43 : Int64) (l45 : Int64) (l60 : Int64) (l62 : Nat) : ∀ (k_ : Nat) (l63 : Int64) (l65 : Int32) (h : mm_H) {r_ : Int64 × mm_H} (hr : lp_L_law_1730 K n l1 l2 l3 l4 l5 l6 l7 l8 l9 l10 l11 l12 l13 l14 l15 l16 l17 l21 l22 l23 l24 l25 l26 l27 l28 l29 l30 l31 l33 l38 l40 l42 l43 l45 l60 l62 k_ l63 l65 h = some r_) (hx0 : WW W0 G 73 mc ms Q_ 1787 [none, some (.ref l1), some (.int l2), some (.int l3), some (.int l4), some (.int l5), some (.int l6), some (.int l7), some (.int l8), some (.int l9), some (.int l10), some (.int l11), some (.int l12), some (.int l13), some (.int l14), some (.int l15), some (.int l16), some (.int l17), none, none, none, some (.ref l21), some (.ref l22), some (.ref l23), some (.ref l24), some (.ref l25), some (.ref l26), some (.ref l27), some (.int l28), some (.ref l29), some (.int l30), some (.long l31), none, some (.ref l33), none, none, none, none, some (.long l38), none, some (.long l40), none, some (.int l42), some (.long l43), none, some (.long l45), none, none, none, none, none, none, none, none, none, none, none, none, none, none, some (.long l60), none, none, some (.long r_.1), none, none, none, none, none, none, none, none, none] [] r_.2 n kc ks), WW W0 G 73 mc ms Q_ 1730 [none, some (.ref l1), some (.int l2), some (.int l3), some (.int l4), some (.int l5), some (.int l6), some (.int l7), some (.int l8), some (.int l9), some (.int l10), some (.int l11), some (.int l12), some (.int l13), some (.int l14), some (.int l15), some (.int l16), some (.int l17), none, none, none, some (.ref l21), some (.ref l22), some (.ref l23), some (.ref l24), some (.ref l25), some (.ref l26), some (.ref l27), some (.int l28), some (.ref l29), some (.int l30), some (.long l31), none, some (.ref l33), none, none, none, none, some (.long l38), none, some (.long l40), none, some (.int l42), some (.long l43), none, some (.long l45), none, none, none, none, none, none, none, none, none, none, none, none, none, none, some (.long l60), none, some (.ref l62), some (.long l63), none, some (.int l65), none, none, none, none, none, none, none] [] h n kc ks := by
  intro k_
  induction k_ with
  | zero =>
    intro l63 l65 h r_ hr
    cases hr
  | succ k_ ih_ =>
    intro l63 l65 h r_ hr hx0
    unfold lp_L_law_1730 at hr
    refine rr_iload C dL_law_1730 rfl ?_
    refine rr_iconst (v := 3) C dL_law_1732 (by decide) ?_
    refine rr_icmp_ge (tgt := 1787) C dL_law_1733 (by decide) (fun c1733_ => ?_) (fun c1733_ => ?_)
    · replace hr := (if_pos c1733_).symm.trans hr
      obtain rfl := Option.some.inj hr
      exact rr_keep [false, true, true, true, true, true, true, true, true, true, true, true, true, true, true, true, true, true, false, false, false, true, true, true, true, true, true, true, true, true, true, true, false, true, false, false, false, false, true, false, true, false, true, true, false, true, false, false, false, false, false, false, false, false, false, false, false, false, false, false, true, false, false, true, false, false, false, false, false, false, false, false, false] (hx0)
    · replace hr := (if_neg c1733_).symm.trans hr
      refine rr_aload_n (i := 1) C dL_law_1736 rfl rfl ?_
      refine rr_iconst (v := 0) C dL_law_1737 (by decide) ?_
      refine rr_iload C dL_law_1738 rfl ?_
      refine rr_iload C dL_law_1740 rfl ?_
      refine rr_iload C dL_law_1742 rfl ?_
      replace hr := Option.bind_eq_some_iff.mp hr
      obtain ⟨u792, e793, hr⟩ := hr
      replace hr := Option.bind_eq_some_iff.mp hr
      obtain ⟨v794, e795, hr⟩ := hr
      refine rr_callVq (as := [.int 0, .int l42, .int l30, .int l65]) (st := []) (mc' := 0) (ms' := 0) C dL_law_1744 iv_L_141 (by decide) e793 rfl (Nat.le_of_ble_eq_true rfl) (c_X10_home l1 0 l42 l30 l65 (by omega) e795) (fun v_ h_ n_ q_ => ?_)
      obtain ⟨q1_, q2_, q3_⟩ := q_
      subst v_; subst h_; subst n_
      show WW W0 G 73 _ _ _ 1747 [none, some (.ref l1), some (.int l2), some (.int l3), some (.int l4), some (.int l5), some (.int l6), some (.int l7), some (.int l8), some (.int l9), some (.int l10), some (.int l11), some (.int l12), some (.int l13), some (.int l14), some (.int l15), some (.int l16), some (.int l17), none, none, none, some (.ref l21), some (.ref l22), some (.ref l23), some (.ref l24), some (.ref l25), some (.ref l26), some (.ref l27), some (.int l28), some (.ref l29), some (.int l30), some (.long l31), none, some (.ref l33), none, none, none, none, some (.long l38), none, some (.long l40), none, some (.int l42), some (.long l43), none, some (.long l45), none, none, none, none, none, none, none, none, none, none, none, none, none, none, some (.long l60), none, some (.ref l62), some (.long l63), none, some (.int l65), none, none, none, none, none, none, none] [.long v794.1] v794.2 n _ _
      refine rr_aload C dL_law_1747 rfl ?_
      refine rr_iload C dL_law_1749 rfl ?_
      replace hr := Option.bind_eq_some_iff.mp hr
      obtain ⟨v796, e797, hr⟩ := hr
      refine rr_ldJ C dL_law_1751 e797 ?_
      refine rr_lcmp C dL_law_1752 ?_
      obtain ⟨c798, hr⟩ := ite_nn hr
      refine rr_if_eq (tgt := 1758) C dL_law_1753 (by decide) (fun _ => ?_) (fun q_ => absurd c798 q_)
      refine rr_lload C dL_law_1758 rfl ?_
      refine rr_aload C dL_law_1760 rfl ?_
      refine rr_iload C dL_law_1762 rfl ?_
      replace hr := Option.bind_eq_some_iff.mp hr
      obtain ⟨v799, e800, hr⟩ := hr
      refine rr_ldJ C dL_law_1764 e800 ?_
      refine rr_aload C dL_law_1765 rfl ?_
      refine rr_bipush (v := 8) C dL_law_1767 (by decide) ?_
      refine rr_iload C dL_law_1769 rfl ?_
      refine rr_imul C dL_law_1771 ?_
      refine rr_iload C dL_law_1772 rfl ?_
      refine rr_iadd C dL_law_1774 ?_
      replace hr := Option.bind_eq_some_iff.mp hr
      obtain ⟨v801, e802, hr⟩ := hr
      refine rr_ldI C dL_law_1775 e802 ?_
      refine rr_i2l C dL_law_1776 ?_
      refine rr_lmul C dL_law_1777 ?_
      refine rr_lsub C dL_law_1778 ?_
      replace hr := Option.bind_eq_some_iff.mp hr
      obtain ⟨x803, e804, hr⟩ := hr
      refine rr_asJ C e804 ?_
      refine rr_lstore C dL_law_1779 (by decide) ?_
      show WW W0 G 73 _ _ _ 1781 [none, some (.ref l1), some (.int l2), some (.int l3), some (.int l4), some (.int l5), some (.int l6), some (.int l7), some (.int l8), some (.int l9), some (.int l10), some (.int l11), some (.int l12), some (.int l13), some (.int l14), some (.int l15), some (.int l16), some (.int l17), none, none, none, some (.ref l21), some (.ref l22), some (.ref l23), some (.ref l24), some (.ref l25), some (.ref l26), some (.ref l27), some (.int l28), some (.ref l29), some (.int l30), some (.long l31), none, some (.ref l33), none, none, none, none, some (.long l38), none, some (.long l40), none, some (.int l42), some (.long l43), none, some (.long l45), none, none, none, none, none, none, none, none, none, none, none, none, none, none, some (.long l60), none, some (.ref l62), some (.long x803), none, some (.int l65), none, none, none, none, none, none, none] [] v794.2 n _ _
      refine rr_iinc (v := l65 + 1) C dL_law_1781 rfl rfl ?_
      show WW W0 G 73 _ _ _ 1784 [none, some (.ref l1), some (.int l2), some (.int l3), some (.int l4), some (.int l5), some (.int l6), some (.int l7), some (.int l8), some (.int l9), some (.int l10), some (.int l11), some (.int l12), some (.int l13), some (.int l14), some (.int l15), some (.int l16), some (.int l17), none, none, none, some (.ref l21), some (.ref l22), some (.ref l23), some (.ref l24), some (.ref l25), some (.ref l26), some (.ref l27), some (.int l28), some (.ref l29), some (.int l30), some (.long l31), none, some (.ref l33), none, none, none, none, some (.long l38), none, some (.long l40), none, some (.int l42), some (.long l43), none, some (.long l45), none, none, none, none, none, none, none, none, none, none, none, none, none, none, some (.long l60), none, some (.ref l62), some (.long x803), none, some (.int (l65 + 1)), none, none, none, none, none, none, none] [] v794.2 n _ _
      refine rr_goto (tgt := 1730) C dL_law_1784 (by decide) ?_
      exact rr_keep [false, true, true, true, true, true, true, true, true, true, true, true, true, true, true, true, true, true, false, false, false, true, true, true, true, true, true, true, true, true, true, true, false, true, false, false, false, false, true, false, true, false, true, true, false, true, false, false, false, false, false, false, false, false, false, false, false, false, false, false, true, false, true, true, false, true, false, false, false, false, false, false, false] (ih_ _ _ _ hr hx0)
set_option maxRecDepth 100000 in
set_option maxHeartbeats 4000000 in
theorem w_L_law_2036 {K : Nat} {nm_ : String} {W0 : mm_X} {G : mm_G} {mc ms kc ks : Nat} {Q_ : State → Prop} {h : mm_H} {n : Nat} (C : mm_C W0 G cL_law yL_law.cls 73 mc ms (some .boolean) 300 nm_) (hn : 48 ≤ n) (l1 : Nat) (l2 : Int32) (l3 : Int32) (l4 : Int32) (l5 : Int32) (l6 : Int32) (l7 : Int32) (l8 : Int32) (l9 : Int32) (l10 : Int32) (l11 : Int32) (l12 : Int32) (l13 : Int32) (l14 : Int32) (l15 : Int32) (l16 : Int32) (l17 : Int32) (l21 : Nat) (l22 : Nat) (l23 : Nat) (l24 : Nat) (l25 : Nat) (l26 : Nat) (l27 : Nat) (l28 : Int32) (l29 : Nat) (l30 : Int32) (l33 : Nat) (l34 : Int64) (l36 : Int64) (l38 : Int64) (l40 : Int64) (l42 : Int32) : ∀ (k_ : Nat) (l67 : Int64) (l69 : Int32) {r_ : Int64} (hr : lp_L_law_2036 K h n l1 l2 l3 l4 l5 l6 l7 l8 l9 l10 l11 l12 l13 l14 l15 l16 l17 l21 l22 l23 l24 l25 l26 l27 l28 l29 l30 l33 l34 l36 l38 l40 l42 k_ l67 l69 = some r_) (hx0 : WW W0 G 73 mc ms Q_ 2073 [none, some (.ref l1), some (.int l2), some (.int l3), some (.int l4), some (.int l5), some (.int l6), some (.int l7), some (.int l8), some (.int l9), some (.int l10), some (.int l11), some (.int l12), some (.int l13), some (.int l14), some (.int l15), some (.int l16), some (.int l17), none, none, none, some (.ref l21), some (.ref l22), some (.ref l23), some (.ref l24), some (.ref l25), some (.ref l26), some (.ref l27), some (.int l28), some (.ref l29), some (.int l30), none, none, some (.ref l33), some (.long l34), none, some (.long l36), none, some (.long l38), none, some (.long l40), none, some (.int l42), none, none, none, none, none, none, none, none, none, none, none, none, none, none, none, none, none, none, none, none, none, none, none, none, some (.long r_), none, none, none, none, none] [] h n kc ks), WW W0 G 73 mc ms Q_ 2036 [none, some (.ref l1), some (.int l2), some (.int l3), some (.int l4), some (.int l5), some (.int l6), some (.int l7), some (.int l8), some (.int l9), some (.int l10), some (.int l11), some (.int l12), some (.int l13), some (.int l14), some (.int l15), some (.int l16), some (.int l17), none, none, none, some (.ref l21), some (.ref l22), some (.ref l23), some (.ref l24), some (.ref l25), some (.ref l26), some (.ref l27), some (.int l28), some (.ref l29), some (.int l30), none, none, some (.ref l33), some (.long l34), none, some (.long l36), none, some (.long l38), none, some (.long l40), none, some (.int l42), none, none, none, none, none, none, none, none, none, none, none, none, none, none, none, none, none, none, none, none, none, none, none, none, some (.long l67), none, some (.int l69), none, none, none] [] h n kc ks := by
  intro k_
  induction k_ with
  | zero =>
    intro l67 l69 r_ hr
    cases hr
  | succ k_ ih_ =>
    intro l67 l69 r_ hr hx0
    unfold lp_L_law_2036 at hr
    refine rr_iload C dL_law_2036 rfl ?_
    refine rr_iload C dL_law_2038 rfl ?_
    refine rr_icmp_ge (tgt := 2073) C dL_law_2040 (by decide) (fun c2040_ => ?_) (fun c2040_ => ?_)
    · replace hr := (if_pos c2040_).symm.trans hr
      obtain rfl := Option.some.inj hr
      exact rr_keep [false, true, true, true, true, true, true, true, true, true, true, true, true, true, true, true, true, true, false, false, false, true, true, true, true, true, true, true, true, true, true, false, false, true, true, false, true, false, true, false, true, false, true, false, false, false, false, false, false, false, false, false, false, false, false, false, false, false, false, false, false, false, false, false, false, false, false, true, false, false, false, false, false] (hx0)
    · replace hr := (if_neg c2040_).symm.trans hr
      refine rr_aload C dL_law_2043 rfl ?_
      refine rr_iload C dL_law_2045 rfl ?_
      replace hr := Option.bind_eq_some_iff.mp hr
      obtain ⟨v876, e877, hr⟩ := hr
      refine rr_ldI C dL_law_2047 e877 ?_
      refine rr_bipush (v := 100) C dL_law_2048 (by decide) ?_
      refine rr_idiv C dL_law_2050 (by decide) ?_
      refine rr_iload C dL_law_2051 rfl ?_
      replace hr := Option.bind_eq_some_iff.mp hr
      obtain ⟨y879, er881, hr⟩ := hr
      refine rr_join0 (pc' := 2067) (L' := [none, some (.ref l1), some (.int l2), some (.int l3), some (.int l4), some (.int l5), some (.int l6), some (.int l7), some (.int l8), some (.int l9), some (.int l10), some (.int l11), some (.int l12), some (.int l13), some (.int l14), some (.int l15), some (.int l16), some (.int l17), none, none, none, some (.ref l21), some (.ref l22), some (.ref l23), some (.ref l24), some (.ref l25), some (.ref l26), some (.ref l27), some (.int l28), some (.ref l29), some (.int l30), none, none, some (.ref l33), some (.long l34), none, some (.long l36), none, some (.long l38), none, some (.long l40), none, some (.int l42), none, none, none, none, none, none, none, none, none, none, none, none, none, none, none, none, none, none, none, none, none, none, none, none, some (.long y879), none, some (.int l69), none, none, none]) (st' := []) (h' := h) (n' := n) C (fun hj880 => ?_) ?_
      · have hr := er881
        refine rr_icmp_ne (tgt := 2067) C dL_law_2053 (by decide) (fun c878 => ?_) (fun c878 => ?_)
        · replace hr := (if_neg c878).symm.trans hr
          cases hr
          exact rr_keep [false, true, true, true, true, true, true, true, true, true, true, true, true, true, true, true, true, true, false, false, false, true, true, true, true, true, true, true, true, true, true, false, false, true, true, false, true, false, true, false, true, false, true, false, false, false, false, false, false, false, false, false, false, false, false, false, false, false, false, false, false, false, false, false, false, false, false, true, false, true, false, false, false] hj880
        · replace hr := (if_pos c878).symm.trans hr
          refine rr_lload C dL_law_2056 rfl ?_
          refine rr_aload C dL_law_2058 rfl ?_
          refine rr_iload C dL_law_2060 rfl ?_
          replace hr := Option.bind_eq_some_iff.mp hr
          obtain ⟨v882, e883, hr⟩ := hr
          refine rr_ldI C dL_law_2062 e883 ?_
          refine rr_i2l C dL_law_2063 ?_
          refine rr_ladd C dL_law_2064 ?_
          replace hr := Option.bind_eq_some_iff.mp hr
          obtain ⟨x884, e885, hr⟩ := hr
          refine rr_asJ C e885 ?_
          refine rr_lstore C dL_law_2065 (by decide) ?_
          show WW W0 G 73 _ _ _ 2067 [none, some (.ref l1), some (.int l2), some (.int l3), some (.int l4), some (.int l5), some (.int l6), some (.int l7), some (.int l8), some (.int l9), some (.int l10), some (.int l11), some (.int l12), some (.int l13), some (.int l14), some (.int l15), some (.int l16), some (.int l17), none, none, none, some (.ref l21), some (.ref l22), some (.ref l23), some (.ref l24), some (.ref l25), some (.ref l26), some (.ref l27), some (.int l28), some (.ref l29), some (.int l30), none, none, some (.ref l33), some (.long l34), none, some (.long l36), none, some (.long l38), none, some (.long l40), none, some (.int l42), none, none, none, none, none, none, none, none, none, none, none, none, none, none, none, none, none, none, none, none, none, none, none, none, some (.long x884), none, some (.int l69), none, none, none] [] h n _ _
          cases hr
          exact rr_keep [false, true, true, true, true, true, true, true, true, true, true, true, true, true, true, true, true, true, false, false, false, true, true, true, true, true, true, true, true, true, true, false, false, true, true, false, true, false, true, false, true, false, true, false, false, false, false, false, false, false, false, false, false, false, false, false, false, false, false, false, false, false, false, false, false, false, false, true, false, true, false, false, false] hj880
      refine rr_iinc (v := l69 + 1) C dL_law_2067 rfl rfl ?_
      show WW W0 G 73 _ _ _ 2070 [none, some (.ref l1), some (.int l2), some (.int l3), some (.int l4), some (.int l5), some (.int l6), some (.int l7), some (.int l8), some (.int l9), some (.int l10), some (.int l11), some (.int l12), some (.int l13), some (.int l14), some (.int l15), some (.int l16), some (.int l17), none, none, none, some (.ref l21), some (.ref l22), some (.ref l23), some (.ref l24), some (.ref l25), some (.ref l26), some (.ref l27), some (.int l28), some (.ref l29), some (.int l30), none, none, some (.ref l33), some (.long l34), none, some (.long l36), none, some (.long l38), none, some (.long l40), none, some (.int l42), none, none, none, none, none, none, none, none, none, none, none, none, none, none, none, none, none, none, none, none, none, none, none, none, some (.long y879), none, some (.int (l69 + 1)), none, none, none] [] h n _ _
      refine rr_goto (tgt := 2036) C dL_law_2070 (by decide) ?_
      exact rr_keep [false, true, true, true, true, true, true, true, true, true, true, true, true, true, true, true, true, true, false, false, false, true, true, true, true, true, true, true, true, true, true, false, false, true, true, false, true, false, true, false, true, false, true, false, false, false, false, false, false, false, false, false, false, false, false, false, false, false, false, false, false, false, false, false, false, false, false, true, false, true, false, false, false] (ih_ _ _ hr hx0)
set_option maxRecDepth 100000 in
set_option maxHeartbeats 4000000 in
theorem w_L_law_1115 {K : Nat} {nm_ : String} {W0 : mm_X} {G : mm_G} {mc ms kc ks : Nat} {Q_ : State → Prop} (C : mm_C W0 G cL_law yL_law.cls 73 mc ms (some .boolean) 300 nm_) (l1 : Nat) (l2 : Int32) (l3 : Int32) (l4 : Int32) (l5 : Int32) (l6 : Int32) (l7 : Int32) (l8 : Int32) (l9 : Int32) (l10 : Int32) (l11 : Int32) (l12 : Int32) (l13 : Int32) (l14 : Int32) (l15 : Int32) (l16 : Int32) (l17 : Int32) (l21 : Nat) (l22 : Nat) (l23 : Nat) (l24 : Nat) (l25 : Nat) (l26 : Nat) (l27 : Nat) (l28 : Int32) (l29 : Nat) (l30 : Int32) (l33 : Nat) : ∀ (k_ : Nat) (l31 : Int64) (l34 : Int64) (l36 : Int64) (l38 : Int64) (l40 : Int64) (l42 : Int32) (h : mm_H) (n : Nat) (hn : 48 ≤ n) {r_ : Int64 × mm_H × Nat} (hr : lp_L_law_1115 K l1 l2 l3 l4 l5 l6 l7 l8 l9 l10 l11 l12 l13 l14 l15 l16 l17 l21 l22 l23 l24 l25 l26 l27 l28 l29 l30 l33 k_ l31 l34 l36 l38 l40 l42 h n = some r_) (hx0 : n ≤ r_.2.2 → WW W0 G 73 mc ms Q_ 2083 [none, some (.ref l1), some (.int l2), none, none, none, none, none, none, none, none, none, none, none, none, none, none, none, none, none, none, none, none, none, none, none, none, none, none, none, some (.int l30), some (.long r_.1), none, none, none, none, none, none, none, none, none, none, none, none, none, none, none, none, none, none, none, none, none, none, none, none, none, none, none, none, none, none, none, none, none, none, none, none, none, none, none, none, none] [] r_.2.1 r_.2.2 kc ks), WW W0 G 73 mc ms Q_ 1115 [none, some (.ref l1), some (.int l2), some (.int l3), some (.int l4), some (.int l5), some (.int l6), some (.int l7), some (.int l8), some (.int l9), some (.int l10), some (.int l11), some (.int l12), some (.int l13), some (.int l14), some (.int l15), some (.int l16), some (.int l17), none, none, none, some (.ref l21), some (.ref l22), some (.ref l23), some (.ref l24), some (.ref l25), some (.ref l26), some (.ref l27), some (.int l28), some (.ref l29), some (.int l30), some (.long l31), none, some (.ref l33), some (.long l34), none, some (.long l36), none, some (.long l38), none, some (.long l40), none, some (.int l42), none, none, none, none, none, none, none, none, none, none, none, none, none, none, none, none, none, none, none, none, none, none, none, none, none, none, none, none, none, none] [] h n (kc + 5 * k_) (ks + 993 * k_) := by
  intro k_
  induction k_ with
  | zero =>
    intro l31 l34 l36 l38 l40 l42 h n hn r_ hr
    cases hr
  | succ k_ ih_ =>
    intro l31 l34 l36 l38 l40 l42 h n hn r_ hr hx0
    unfold lp_L_law_1115 at hr
    refine rr_cut C (kc' := kc + 5 * k_ + 5) (ks' := ks + 993 * k_ + 993) (by omega) (by omega) ?_
    refine rr_iload C dL_law_1115 rfl ?_
    refine rr_iconst (v := 5) C dL_law_1117 (by decide) ?_
    refine rr_icmp_ge (tgt := 2083) C dL_law_1118 (by decide) (fun c1118_ => ?_) (fun c1118_ => ?_)
    · replace hr := (if_pos c1118_).symm.trans hr
      obtain rfl := Option.some.inj hr
      refine rr_cut C (kc' := kc) (ks' := ks) (by omega) (by omega) ?_
      exact rr_keep [false, true, true, false, false, false, false, false, false, false, false, false, false, false, false, false, false, false, false, false, false, false, false, false, false, false, false, false, false, false, true, true, false, false, false, false, false, false, false, false, false, false, false, false, false, false, false, false, false, false, false, false, false, false, false, false, false, false, false, false, false, false, false, false, false, false, false, false, false, false, false, false, false] (hx0 (show n ≤ n from by omega))
    · replace hr := (if_neg c1118_).symm.trans hr
      refine rr_aload C dL_law_1121 rfl ?_
      refine rr_iload C dL_law_1123 rfl ?_
      replace hr := Option.bind_eq_some_iff.mp hr
      obtain ⟨v620, e621, hr⟩ := hr
      refine rr_ldI C dL_law_1125 e621 ?_
      refine rr_i2l C dL_law_1126 ?_
      refine rr_iload C dL_law_1127 rfl ?_
      refine rr_i2l C dL_law_1129 ?_
      refine rr_lmul C dL_law_1130 ?_
      refine rr_ldc2 C dL_law_1131 ct_L_116 ?_
      refine rr_ldiv C dL_law_1134 (by decide) ?_
      replace hr := Option.bind_eq_some_iff.mp hr
      obtain ⟨x622, e623, hr⟩ := hr
      refine rr_asJ C e623 ?_
      refine rr_lstore C dL_law_1135 (by decide) ?_
      show WW W0 G 73 _ _ _ 1137 [none, some (.ref l1), some (.int l2), some (.int l3), some (.int l4), some (.int l5), some (.int l6), some (.int l7), some (.int l8), some (.int l9), some (.int l10), some (.int l11), some (.int l12), some (.int l13), some (.int l14), some (.int l15), some (.int l16), some (.int l17), none, none, none, some (.ref l21), some (.ref l22), some (.ref l23), some (.ref l24), some (.ref l25), some (.ref l26), some (.ref l27), some (.int l28), some (.ref l29), some (.int l30), some (.long l31), none, some (.ref l33), some (.long l34), none, some (.long l36), none, some (.long l38), none, some (.long l40), none, some (.int l42), some (.long x622), none, none, none, none, none, none, none, none, none, none, none, none, none, none, none, none, none, none, none, none, none, none, none, none, none, none, none, none, none] [] h n _ _
      refine rr_lload C dL_law_1137 rfl ?_
      refine rr_iload_n (i := 2) C dL_law_1139 rfl rfl ?_
      refine rr_i2l C dL_law_1140 ?_
      refine rr_lmul C dL_law_1141 ?_
      refine rr_ldc2 C dL_law_1142 ct_L_118 ?_
      refine rr_ldiv C dL_law_1145 (by decide) ?_
      replace hr := Option.bind_eq_some_iff.mp hr
      obtain ⟨x624, e625, hr⟩ := hr
      refine rr_asJ C e625 ?_
      refine rr_lstore C dL_law_1146 (by decide) ?_
      show WW W0 G 73 _ _ _ 1148 [none, some (.ref l1), some (.int l2), some (.int l3), some (.int l4), some (.int l5), some (.int l6), some (.int l7), some (.int l8), some (.int l9), some (.int l10), some (.int l11), some (.int l12), some (.int l13), some (.int l14), some (.int l15), some (.int l16), some (.int l17), none, none, none, some (.ref l21), some (.ref l22), some (.ref l23), some (.ref l24), some (.ref l25), some (.ref l26), some (.ref l27), some (.int l28), some (.ref l29), some (.int l30), some (.long l31), none, some (.ref l33), some (.long l34), none, some (.long l36), none, some (.long l38), none, some (.long l40), none, some (.int l42), some (.long x622), none, some (.long x624), none, none, none, none, none, none, none, none, none, none, none, none, none, none, none, none, none, none, none, none, none, none, none, none, none, none, none] [] h n _ _
      refine rr_lconst (v := 0) C dL_law_1148 (by decide) ?_
      refine rr_lstore C dL_law_1149 (by decide) ?_
      show WW W0 G 73 _ _ _ 1151 [none, some (.ref l1), some (.int l2), some (.int l3), some (.int l4), some (.int l5), some (.int l6), some (.int l7), some (.int l8), some (.int l9), some (.int l10), some (.int l11), some (.int l12), some (.int l13), some (.int l14), some (.int l15), some (.int l16), some (.int l17), none, none, none, some (.ref l21), some (.ref l22), some (.ref l23), some (.ref l24), some (.ref l25), some (.ref l26), some (.ref l27), some (.int l28), some (.ref l29), some (.int l30), some (.long l31), none, some (.ref l33), some (.long l34), none, some (.long l36), none, some (.long l38), none, some (.long l40), none, some (.int l42), some (.long x622), none, some (.long x624), none, some (.long 0), none, none, none, none, none, none, none, none, none, none, none, none, none, none, none, none, none, none, none, none, none, none, none, none, none] [] h n _ _
      refine rr_lconst (v := 0) C dL_law_1151 (by decide) ?_
      refine rr_lstore C dL_law_1152 (by decide) ?_
      show WW W0 G 73 _ _ _ 1154 [none, some (.ref l1), some (.int l2), some (.int l3), some (.int l4), some (.int l5), some (.int l6), some (.int l7), some (.int l8), some (.int l9), some (.int l10), some (.int l11), some (.int l12), some (.int l13), some (.int l14), some (.int l15), some (.int l16), some (.int l17), none, none, none, some (.ref l21), some (.ref l22), some (.ref l23), some (.ref l24), some (.ref l25), some (.ref l26), some (.ref l27), some (.int l28), some (.ref l29), some (.int l30), some (.long l31), none, some (.ref l33), some (.long l34), none, some (.long l36), none, some (.long l38), none, some (.long l40), none, some (.int l42), some (.long x622), none, some (.long x624), none, some (.long 0), none, some (.long 0), none, none, none, none, none, none, none, none, none, none, none, none, none, none, none, none, none, none, none, none, none, none, none] [] h n _ _
      refine rr_iconst (v := 0) C dL_law_1154 (by decide) ?_
      refine rr_istore C dL_law_1155 (by decide) ?_
      show WW W0 G 73 _ _ _ 1157 [none, some (.ref l1), some (.int l2), some (.int l3), some (.int l4), some (.int l5), some (.int l6), some (.int l7), some (.int l8), some (.int l9), some (.int l10), some (.int l11), some (.int l12), some (.int l13), some (.int l14), some (.int l15), some (.int l16), some (.int l17), none, none, none, some (.ref l21), some (.ref l22), some (.ref l23), some (.ref l24), some (.ref l25), some (.ref l26), some (.ref l27), some (.int l28), some (.ref l29), some (.int l30), some (.long l31), none, some (.ref l33), some (.long l34), none, some (.long l36), none, some (.long l38), none, some (.long l40), none, some (.int l42), some (.long x622), none, some (.long x624), none, some (.long 0), none, some (.long 0), none, some (.int 0), none, none, none, none, none, none, none, none, none, none, none, none, none, none, none, none, none, none, none, none, none] [] h n _ _
      replace hr := Option.bind_eq_some_iff.mp hr
      obtain ⟨v667, e668, hr⟩ := hr
      refine rr_keep [false, true, true, true, true, true, true, true, true, true, true, true, true, true, true, true, true, true, false, false, false, true, true, true, true, true, true, true, true, true, true, true, false, true, true, false, true, false, true, false, true, false, true, true, false, true, false, true, false, true, false, true, false, false, false, false, false, false, false, false, false, false, false, false, false, false, false, false, false, false, false, false, false] (w_L_law_1157 C (by omega) l1 l2 l3 l4 l5 l6 l7 l8 l9 l10 l11 l12 l13 l14 l15 l16 l17 l21 l22 l23 l24 l25 l26 l27 l28 l29 l30 l31 l33 l34 l36 l38 l40 l42 x622 x624 K 0 0 0 h e668 ?_)
      show WW W0 G 73 _ _ _ 1278 [none, some (.ref l1), some (.int l2), some (.int l3), some (.int l4), some (.int l5), some (.int l6), some (.int l7), some (.int l8), some (.int l9), some (.int l10), some (.int l11), some (.int l12), some (.int l13), some (.int l14), some (.int l15), some (.int l16), some (.int l17), none, none, none, some (.ref l21), some (.ref l22), some (.ref l23), some (.ref l24), some (.ref l25), some (.ref l26), some (.ref l27), some (.int l28), some (.ref l29), some (.int l30), some (.long l31), none, some (.ref l33), some (.long l34), none, some (.long l36), none, some (.long l38), none, some (.long l40), none, some (.int l42), some (.long x622), none, some (.long x624), none, some (.long v667.1), none, some (.long v667.2.1), none, none, none, none, none, none, none, none, none, none, none, none, none, none, none, none, none, none, none, none, none, none, none] [] v667.2.2 n _ _
      refine rr_aload C dL_law_1278 rfl ?_
      refine rr_iload C dL_law_1280 rfl ?_
      replace hr := Option.bind_eq_some_iff.mp hr
      obtain ⟨v669, e670, hr⟩ := hr
      refine rr_ldI C dL_law_1282 e670 ?_
      refine rr_i2l C dL_law_1283 ?_
      refine rr_lload C dL_law_1284 rfl ?_
      refine rr_iload C dL_law_1286 rfl ?_
      refine rr_i2l C dL_law_1288 ?_
      refine rr_lmul C dL_law_1289 ?_
      refine rr_ldc2 C dL_law_1290 ct_L_116 ?_
      refine rr_ldiv C dL_law_1293 (by decide) ?_
      refine rr_lcmp C dL_law_1294 ?_
      replace hr := Option.bind_eq_some_iff.mp hr
      obtain ⟨y672, er674, hr⟩ := hr
      refine rr_join0 (pc' := 1308) (L' := [none, some (.ref l1), some (.int l2), some (.int l3), some (.int l4), some (.int l5), some (.int l6), some (.int l7), some (.int l8), some (.int l9), some (.int l10), some (.int l11), some (.int l12), some (.int l13), some (.int l14), some (.int l15), some (.int l16), some (.int l17), none, none, none, some (.ref l21), some (.ref l22), some (.ref l23), some (.ref l24), some (.ref l25), some (.ref l26), some (.ref l27), some (.int l28), some (.ref l29), some (.int l30), some (.long l31), none, some (.ref l33), some (.long l34), none, some (.long l36), none, some (.long l38), none, some (.long l40), none, some (.int l42), some (.long x622), none, some (.long x624), none, some (.long v667.1), none, some (.long v667.2.1), none, none, none, none, none, none, none, none, none, none, none, none, none, none, none, none, none, none, none, none, none, none, none]) (st' := [.long y672]) (h' := v667.2.2) (n' := n) C (fun hj673 => ?_) ?_
      · have hr := er674
        refine rr_if_lt (tgt := 1307) C dL_law_1295 (by decide) (fun c671 => ?_) (fun c671 => ?_)
        · replace hr := (if_pos c671).symm.trans hr
          refine rr_lconst (v := 0) C dL_law_1307 (by decide) ?_
          cases hr
          exact rr_keep [false, true, true, true, true, true, true, true, true, true, true, true, true, true, true, true, true, true, false, false, false, true, true, true, true, true, true, true, true, true, true, true, false, true, true, false, true, false, true, false, true, false, true, true, false, true, false, true, false, true, false, false, false, false, false, false, false, false, false, false, false, false, false, false, false, false, false, false, false, false, false, false, false] hj673
        · replace hr := (if_neg c671).symm.trans hr
          refine rr_aload C dL_law_1298 rfl ?_
          refine rr_iload C dL_law_1300 rfl ?_
          replace hr := Option.bind_eq_some_iff.mp hr
          obtain ⟨v675, e676, hr⟩ := hr
          refine rr_ldI C dL_law_1302 e676 ?_
          refine rr_i2l C dL_law_1303 ?_
          refine rr_goto (tgt := 1308) C dL_law_1304 (by decide) ?_
          cases hr
          exact rr_keep [false, true, true, true, true, true, true, true, true, true, true, true, true, true, true, true, true, true, false, false, false, true, true, true, true, true, true, true, true, true, true, true, false, true, true, false, true, false, true, false, true, false, true, true, false, true, false, true, false, true, false, false, false, false, false, false, false, false, false, false, false, false, false, false, false, false, false, false, false, false, false, false, false] hj673
      refine rr_lstore C dL_law_1308 (by decide) ?_
      show WW W0 G 73 _ _ _ 1310 [none, some (.ref l1), some (.int l2), some (.int l3), some (.int l4), some (.int l5), some (.int l6), some (.int l7), some (.int l8), some (.int l9), some (.int l10), some (.int l11), some (.int l12), some (.int l13), some (.int l14), some (.int l15), some (.int l16), some (.int l17), none, none, none, some (.ref l21), some (.ref l22), some (.ref l23), some (.ref l24), some (.ref l25), some (.ref l26), some (.ref l27), some (.int l28), some (.ref l29), some (.int l30), some (.long l31), none, some (.ref l33), some (.long l34), none, some (.long l36), none, some (.long l38), none, some (.long l40), none, some (.int l42), some (.long x622), none, some (.long x624), none, some (.long v667.1), none, some (.long v667.2.1), none, some (.long y672), none, none, none, none, none, none, none, none, none, none, none, none, none, none, none, none, none, none, none, none, none] [] v667.2.2 n _ _
      refine rr_lload C dL_law_1310 rfl ?_
      refine rr_lload C dL_law_1312 rfl ?_
      refine rr_ladd C dL_law_1314 ?_
      refine rr_lload C dL_law_1315 rfl ?_
      refine rr_ladd C dL_law_1317 ?_
      refine rr_lload C dL_law_1318 rfl ?_
      refine rr_lsub C dL_law_1320 ?_
      refine rr_lload C dL_law_1321 rfl ?_
      refine rr_ladd C dL_law_1323 ?_
      refine rr_lload C dL_law_1324 rfl ?_
      refine rr_ladd C dL_law_1326 ?_
      refine rr_lload C dL_law_1327 rfl ?_
      refine rr_ladd C dL_law_1329 ?_
      replace hr := Option.bind_eq_some_iff.mp hr
      obtain ⟨x677, e678, hr⟩ := hr
      refine rr_asJ C e678 ?_
      refine rr_lstore C dL_law_1330 (by decide) ?_
      show WW W0 G 73 _ _ _ 1332 [none, some (.ref l1), some (.int l2), some (.int l3), some (.int l4), some (.int l5), some (.int l6), some (.int l7), some (.int l8), some (.int l9), some (.int l10), some (.int l11), some (.int l12), some (.int l13), some (.int l14), some (.int l15), some (.int l16), some (.int l17), none, none, none, some (.ref l21), some (.ref l22), some (.ref l23), some (.ref l24), some (.ref l25), some (.ref l26), some (.ref l27), some (.int l28), some (.ref l29), some (.int l30), some (.long l31), none, some (.ref l33), some (.long l34), none, some (.long l36), none, some (.long l38), none, some (.long l40), none, some (.int l42), some (.long x622), none, some (.long x624), none, some (.long v667.1), none, some (.long v667.2.1), none, some (.long y672), none, some (.long x677), none, none, none, none, none, none, none, none, none, none, none, none, none, none, none, none, none, none, none] [] v667.2.2 n _ _
      refine rr_bipush (v := 15) C dL_law_1332 (by decide) ?_
      refine rr_cut C (kc' := kc + 5 * k_ + 4 + 1) (ks' := ks + 993 * k_ + 978 + 15) (by omega) (by omega) ?_
      replace hr := Option.bind_eq_some_iff.mp hr
      obtain ⟨h679, e680, hr⟩ := hr
      refine rr_newJq C dL_law_1334 ac_long (N := 15) (by decide) e680 ?_
      show WW W0 G 73 _ _ _ 1336 [none, some (.ref l1), some (.int l2), some (.int l3), some (.int l4), some (.int l5), some (.int l6), some (.int l7), some (.int l8), some (.int l9), some (.int l10), some (.int l11), some (.int l12), some (.int l13), some (.int l14), some (.int l15), some (.int l16), some (.int l17), none, none, none, some (.ref l21), some (.ref l22), some (.ref l23), some (.ref l24), some (.ref l25), some (.ref l26), some (.ref l27), some (.int l28), some (.ref l29), some (.int l30), some (.long l31), none, some (.ref l33), some (.long l34), none, some (.long l36), none, some (.long l38), none, some (.long l40), none, some (.int l42), some (.long x622), none, some (.long x624), none, some (.long v667.1), none, some (.long v667.2.1), none, some (.long y672), none, some (.long x677), none, none, none, none, none, none, none, none, none, none, none, none, none, none, none, none, none, none, none] [.ref n] h679 (n + 1) _ _
      refine rr_dup C dL_law_1336 rfl ?_
      refine rr_iconst (v := 0) C dL_law_1337 (by decide) ?_
      refine rr_lload C dL_law_1338 rfl ?_
      replace hr := Option.bind_eq_some_iff.mp hr
      obtain ⟨h681, e682, hr⟩ := hr
      refine rr_stJ C dL_law_1340 e682 ?_
      refine rr_dup C dL_law_1341 rfl ?_
      refine rr_iconst (v := 1) C dL_law_1342 (by decide) ?_
      refine rr_lconst (v := 0) C dL_law_1343 (by decide) ?_
      replace hr := Option.bind_eq_some_iff.mp hr
      obtain ⟨h683, e684, hr⟩ := hr
      refine rr_stJ C dL_law_1344 e684 ?_
      refine rr_dup C dL_law_1345 rfl ?_
      refine rr_iconst (v := 2) C dL_law_1346 (by decide) ?_
      refine rr_lconst (v := 0) C dL_law_1347 (by decide) ?_
      replace hr := Option.bind_eq_some_iff.mp hr
      obtain ⟨h685, e686, hr⟩ := hr
      refine rr_stJ C dL_law_1348 e686 ?_
      refine rr_dup C dL_law_1349 rfl ?_
      refine rr_iconst (v := 3) C dL_law_1350 (by decide) ?_
      refine rr_lconst (v := 0) C dL_law_1351 (by decide) ?_
      replace hr := Option.bind_eq_some_iff.mp hr
      obtain ⟨h687, e688, hr⟩ := hr
      refine rr_stJ C dL_law_1352 e688 ?_
      refine rr_dup C dL_law_1353 rfl ?_
      refine rr_iconst (v := 4) C dL_law_1354 (by decide) ?_
      refine rr_lload C dL_law_1355 rfl ?_
      replace hr := Option.bind_eq_some_iff.mp hr
      obtain ⟨h689, e690, hr⟩ := hr
      refine rr_stJ C dL_law_1357 e690 ?_
      refine rr_dup C dL_law_1358 rfl ?_
      refine rr_iconst (v := 5) C dL_law_1359 (by decide) ?_
      refine rr_lload C dL_law_1360 rfl ?_
      replace hr := Option.bind_eq_some_iff.mp hr
      obtain ⟨h691, e692, hr⟩ := hr
      refine rr_stJ C dL_law_1362 e692 ?_
      refine rr_dup C dL_law_1363 rfl ?_
      refine rr_bipush (v := 6) C dL_law_1364 (by decide) ?_
      refine rr_lload C dL_law_1366 rfl ?_
      refine rr_lneg C dL_law_1368 ?_
      replace hr := Option.bind_eq_some_iff.mp hr
      obtain ⟨h693, e694, hr⟩ := hr
      refine rr_stJ C dL_law_1369 e694 ?_
      refine rr_dup C dL_law_1370 rfl ?_
      refine rr_bipush (v := 7) C dL_law_1371 (by decide) ?_
      refine rr_lconst (v := 0) C dL_law_1373 (by decide) ?_
      replace hr := Option.bind_eq_some_iff.mp hr
      obtain ⟨h695, e696, hr⟩ := hr
      refine rr_stJ C dL_law_1374 e696 ?_
      refine rr_dup C dL_law_1375 rfl ?_
      refine rr_bipush (v := 8) C dL_law_1376 (by decide) ?_
      refine rr_lload C dL_law_1378 rfl ?_
      replace hr := Option.bind_eq_some_iff.mp hr
      obtain ⟨h697, e698, hr⟩ := hr
      refine rr_stJ C dL_law_1380 e698 ?_
      refine rr_dup C dL_law_1381 rfl ?_
      refine rr_bipush (v := 9) C dL_law_1382 (by decide) ?_
      refine rr_lconst (v := 0) C dL_law_1384 (by decide) ?_
      replace hr := Option.bind_eq_some_iff.mp hr
      obtain ⟨h699, e700, hr⟩ := hr
      refine rr_stJ C dL_law_1385 e700 ?_
      refine rr_dup C dL_law_1386 rfl ?_
      refine rr_bipush (v := 10) C dL_law_1387 (by decide) ?_
      refine rr_lload C dL_law_1389 rfl ?_
      replace hr := Option.bind_eq_some_iff.mp hr
      obtain ⟨h701, e702, hr⟩ := hr
      refine rr_stJ C dL_law_1391 e702 ?_
      refine rr_dup C dL_law_1392 rfl ?_
      refine rr_bipush (v := 11) C dL_law_1393 (by decide) ?_
      refine rr_lconst (v := 0) C dL_law_1395 (by decide) ?_
      replace hr := Option.bind_eq_some_iff.mp hr
      obtain ⟨h703, e704, hr⟩ := hr
      refine rr_stJ C dL_law_1396 e704 ?_
      refine rr_dup C dL_law_1397 rfl ?_
      refine rr_bipush (v := 12) C dL_law_1398 (by decide) ?_
      refine rr_lconst (v := 0) C dL_law_1400 (by decide) ?_
      replace hr := Option.bind_eq_some_iff.mp hr
      obtain ⟨h705, e706, hr⟩ := hr
      refine rr_stJ C dL_law_1401 e706 ?_
      refine rr_dup C dL_law_1402 rfl ?_
      refine rr_bipush (v := 13) C dL_law_1403 (by decide) ?_
      refine rr_lconst (v := 0) C dL_law_1405 (by decide) ?_
      replace hr := Option.bind_eq_some_iff.mp hr
      obtain ⟨h707, e708, hr⟩ := hr
      refine rr_stJ C dL_law_1406 e708 ?_
      refine rr_dup C dL_law_1407 rfl ?_
      refine rr_bipush (v := 14) C dL_law_1408 (by decide) ?_
      refine rr_lload C dL_law_1410 rfl ?_
      replace hr := Option.bind_eq_some_iff.mp hr
      obtain ⟨h709, e710, hr⟩ := hr
      refine rr_stJ C dL_law_1412 e710 ?_
      refine rr_astore C dL_law_1413 (by decide) ?_
      show WW W0 G 73 _ _ _ 1415 [none, some (.ref l1), some (.int l2), some (.int l3), some (.int l4), some (.int l5), some (.int l6), some (.int l7), some (.int l8), some (.int l9), some (.int l10), some (.int l11), some (.int l12), some (.int l13), some (.int l14), some (.int l15), some (.int l16), some (.int l17), none, none, none, some (.ref l21), some (.ref l22), some (.ref l23), some (.ref l24), some (.ref l25), some (.ref l26), some (.ref l27), some (.int l28), some (.ref l29), some (.int l30), some (.long l31), none, some (.ref l33), some (.long l34), none, some (.long l36), none, some (.long l38), none, some (.long l40), none, some (.int l42), some (.long x622), none, some (.long x624), none, some (.long v667.1), none, some (.long v667.2.1), none, some (.long y672), none, some (.long x677), none, some (.ref n), none, none, none, none, none, none, none, none, none, none, none, none, none, none, none, none, none] [] h709 (n + 1) _ _
      refine rr_iconst (v := 0) C dL_law_1415 (by decide) ?_
      refine rr_istore C dL_law_1416 (by decide) ?_
      show WW W0 G 73 _ _ _ 1418 [none, some (.ref l1), some (.int l2), some (.int l3), some (.int l4), some (.int l5), some (.int l6), some (.int l7), some (.int l8), some (.int l9), some (.int l10), some (.int l11), some (.int l12), some (.int l13), some (.int l14), some (.int l15), some (.int l16), some (.int l17), none, none, none, some (.ref l21), some (.ref l22), some (.ref l23), some (.ref l24), some (.ref l25), some (.ref l26), some (.ref l27), some (.int l28), some (.ref l29), some (.int l30), some (.long l31), none, some (.ref l33), some (.long l34), none, some (.long l36), none, some (.long l38), none, some (.long l40), none, some (.int l42), some (.long x622), none, some (.long x624), none, some (.long v667.1), none, some (.long v667.2.1), none, some (.long y672), none, some (.long x677), none, some (.ref n), some (.int 0), none, none, none, none, none, none, none, none, none, none, none, none, none, none, none, none] [] h709 (n + 1) _ _
      replace hr := Option.bind_eq_some_iff.mp hr
      obtain ⟨v719, e720, hr⟩ := hr
      refine rr_keep [false, true, true, true, true, true, true, true, true, true, true, true, true, true, true, true, true, true, false, false, false, true, true, true, true, true, true, true, true, true, true, true, false, true, false, false, false, false, true, false, true, false, true, true, false, true, false, false, false, false, false, false, false, true, false, true, true, false, false, false, false, false, false, false, false, false, false, false, false, false, false, false, false] (w_L_law_1418 C (by omega) l1 l2 l3 l4 l5 l6 l7 l8 l9 l10 l11 l12 l13 l14 l15 l16 l17 l21 l22 l23 l24 l25 l26 l27 l28 l29 l30 l31 l33 l38 l40 l42 x622 x624 x677 n K 0 h709 e720 ?_)
      show WW W0 G 73 _ _ _ 1453 [none, some (.ref l1), some (.int l2), some (.int l3), some (.int l4), some (.int l5), some (.int l6), some (.int l7), some (.int l8), some (.int l9), some (.int l10), some (.int l11), some (.int l12), some (.int l13), some (.int l14), some (.int l15), some (.int l16), some (.int l17), none, none, none, some (.ref l21), some (.ref l22), some (.ref l23), some (.ref l24), some (.ref l25), some (.ref l26), some (.ref l27), some (.int l28), some (.ref l29), some (.int l30), some (.long l31), none, some (.ref l33), none, none, none, none, some (.long l38), none, some (.long l40), none, some (.int l42), some (.long x622), none, some (.long x624), none, none, none, none, none, none, none, some (.long x677), none, none, none, none, none, none, none, none, none, none, none, none, none, none, none, none, none, none, none] [] v719 (n + 1) _ _
      refine rr_aload_n (i := 1) C dL_law_1453 rfl rfl ?_
      refine rr_iconst (v := 0) C dL_law_1454 (by decide) ?_
      refine rr_iload C dL_law_1455 rfl ?_
      replace hr := Option.bind_eq_some_iff.mp hr
      obtain ⟨u721, e722, hr⟩ := hr
      replace hr := Option.bind_eq_some_iff.mp hr
      obtain ⟨v723, e724, hr⟩ := hr
      refine rr_callVq (as := [.int 0, .int l42]) (st := []) (mc' := 0) (ms' := 0) (kc := kc + 5 * k_ + 4) (ks := ks + 993 * k_ + 978) C dL_law_1457 iv_L_124 (by decide) e722 rfl (Nat.le_of_ble_eq_true rfl) (c_X10_worth l1 0 l42 (by omega) e724) (fun v_ h_ n_ q_ => ?_)
      obtain ⟨q1_, q2_, q3_⟩ := q_
      subst v_; subst h_; subst n_
      show WW W0 G 73 _ _ _ 1460 [none, some (.ref l1), some (.int l2), some (.int l3), some (.int l4), some (.int l5), some (.int l6), some (.int l7), some (.int l8), some (.int l9), some (.int l10), some (.int l11), some (.int l12), some (.int l13), some (.int l14), some (.int l15), some (.int l16), some (.int l17), none, none, none, some (.ref l21), some (.ref l22), some (.ref l23), some (.ref l24), some (.ref l25), some (.ref l26), some (.ref l27), some (.int l28), some (.ref l29), some (.int l30), some (.long l31), none, some (.ref l33), none, none, none, none, some (.long l38), none, some (.long l40), none, some (.int l42), some (.long x622), none, some (.long x624), none, none, none, none, none, none, none, some (.long x677), none, none, none, none, none, none, none, none, none, none, none, none, none, none, none, none, none, none, none] [.long v723.1] v723.2 (n + 1) _ _
      refine rr_lload C dL_law_1460 rfl ?_
      refine rr_lcmp C dL_law_1462 ?_
      obtain ⟨c725, hr⟩ := ite_nn hr
      refine rr_if_ne (tgt := 1481) C dL_law_1463 (by decide) (fun q_ => absurd c725 q_) (fun _ => ?_)
      refine rr_aload_n (i := 1) C dL_law_1466 rfl rfl ?_
      refine rr_iconst (v := 0) C dL_law_1467 (by decide) ?_
      refine rr_iload C dL_law_1468 rfl ?_
      refine rr_iload C dL_law_1470 rfl ?_
      replace hr := Option.bind_eq_some_iff.mp hr
      obtain ⟨u726, e727, hr⟩ := hr
      replace hr := Option.bind_eq_some_iff.mp hr
      obtain ⟨v728, e729, hr⟩ := hr
      refine rr_callVq (as := [.int 0, .int l42, .int l30]) (st := []) (mc' := 0) (ms' := 0) (kc := kc + 5 * k_ + 4) (ks := ks + 993 * k_ + 978) C dL_law_1472 iv_L_128 (by decide) e727 rfl (Nat.le_of_ble_eq_true rfl) (c_X10_revenue l1 0 l42 l30 (by omega) e729) (fun v_ h_ n_ q_ => ?_)
      obtain ⟨q1_, q2_, q3_⟩ := q_
      subst v_; subst h_; subst n_
      show WW W0 G 73 _ _ _ 1475 [none, some (.ref l1), some (.int l2), some (.int l3), some (.int l4), some (.int l5), some (.int l6), some (.int l7), some (.int l8), some (.int l9), some (.int l10), some (.int l11), some (.int l12), some (.int l13), some (.int l14), some (.int l15), some (.int l16), some (.int l17), none, none, none, some (.ref l21), some (.ref l22), some (.ref l23), some (.ref l24), some (.ref l25), some (.ref l26), some (.ref l27), some (.int l28), some (.ref l29), some (.int l30), some (.long l31), none, some (.ref l33), none, none, none, none, some (.long l38), none, some (.long l40), none, some (.int l42), some (.long x622), none, some (.long x624), none, none, none, none, none, none, none, some (.long x677), none, none, none, none, none, none, none, none, none, none, none, none, none, none, none, none, none, none, none] [.long v728.1] v728.2 (n + 1) _ _
      refine rr_lload C dL_law_1475 rfl ?_
      refine rr_lcmp C dL_law_1477 ?_
      obtain ⟨c730, hr⟩ := ite_nn hr
      refine rr_if_eq (tgt := 1483) C dL_law_1478 (by decide) (fun _ => ?_) (fun q_ => absurd c730 q_)
      refine rr_lload C dL_law_1483 rfl ?_
      refine rr_lload C dL_law_1485 rfl ?_
      refine rr_ladd C dL_law_1487 ?_
      replace hr := Option.bind_eq_some_iff.mp hr
      obtain ⟨x731, e732, hr⟩ := hr
      refine rr_asJ C e732 ?_
      refine rr_lstore C dL_law_1488 (by decide) ?_
      show WW W0 G 73 _ _ _ 1490 [none, some (.ref l1), some (.int l2), some (.int l3), some (.int l4), some (.int l5), some (.int l6), some (.int l7), some (.int l8), some (.int l9), some (.int l10), some (.int l11), some (.int l12), some (.int l13), some (.int l14), some (.int l15), some (.int l16), some (.int l17), none, none, none, some (.ref l21), some (.ref l22), some (.ref l23), some (.ref l24), some (.ref l25), some (.ref l26), some (.ref l27), some (.int l28), some (.ref l29), some (.int l30), some (.long l31), none, some (.ref l33), none, none, none, none, some (.long l38), none, some (.long l40), none, some (.int l42), some (.long x622), none, some (.long x624), none, none, none, none, none, none, none, some (.long x677), none, none, some (.long x731), none, none, none, none, none, none, none, none, none, none, none, none, none, none, none, none] [] v728.2 (n + 1) _ _
      refine rr_lload C dL_law_1490 rfl ?_
      refine rr_lstore C dL_law_1492 (by decide) ?_
      show WW W0 G 73 _ _ _ 1494 [none, some (.ref l1), some (.int l2), some (.int l3), some (.int l4), some (.int l5), some (.int l6), some (.int l7), some (.int l8), some (.int l9), some (.int l10), some (.int l11), some (.int l12), some (.int l13), some (.int l14), some (.int l15), some (.int l16), some (.int l17), none, none, none, some (.ref l21), some (.ref l22), some (.ref l23), some (.ref l24), some (.ref l25), some (.ref l26), some (.ref l27), some (.int l28), some (.ref l29), some (.int l30), some (.long l31), none, some (.ref l33), none, none, none, none, some (.long l38), none, some (.long l40), none, some (.int l42), some (.long x622), none, some (.long x624), none, none, none, none, none, none, none, some (.long x677), none, none, some (.long x731), none, some (.long x731), none, none, none, none, none, none, none, none, none, none, none, none, none, none] [] v728.2 (n + 1) _ _
      refine rr_iload C dL_law_1494 rfl ?_
      replace hr := Option.bind_eq_some_iff.mp hr
      obtain ⟨y734, er736, hr⟩ := hr
      refine rr_join0 (pc' := 1564) (L' := [none, some (.ref l1), some (.int l2), some (.int l3), some (.int l4), some (.int l5), some (.int l6), some (.int l7), some (.int l8), some (.int l9), some (.int l10), some (.int l11), some (.int l12), some (.int l13), some (.int l14), some (.int l15), some (.int l16), some (.int l17), none, none, none, some (.ref l21), some (.ref l22), some (.ref l23), some (.ref l24), some (.ref l25), some (.ref l26), some (.ref l27), some (.int l28), some (.ref l29), some (.int l30), some (.long l31), none, some (.ref l33), none, none, none, none, none, none, none, none, some (.int l42), some (.long x622), none, some (.long x624), none, none, none, none, none, none, none, none, none, none, some (.long x731), none, some (.long y734), none, none, none, none, none, none, none, none, none, none, none, none, none, none]) (st' := []) (h' := v728.2) (n' := (n + 1)) C (fun hj735 => ?_) ?_
      · have hr := er736
        refine rr_if_le (tgt := 1564) C dL_law_1496 (by decide) (fun c733 => ?_) (fun c733 => ?_)
        · replace hr := (if_pos c733).symm.trans hr
          cases hr
          exact rr_keep [false, true, true, true, true, true, true, true, true, true, true, true, true, true, true, true, true, true, false, false, false, true, true, true, true, true, true, true, true, true, true, true, false, true, false, false, false, false, false, false, false, false, true, true, false, true, false, false, false, false, false, false, false, false, false, false, true, false, true, false, false, false, false, false, false, false, false, false, false, false, false, false, false] hj735
        · replace hr := (if_neg c733).symm.trans hr
          refine rr_iload C dL_law_1499 rfl ?_
          refine rr_iconst (v := 4) C dL_law_1501 (by decide) ?_
          refine rr_icmp_ge (tgt := 1564) C dL_law_1502 (by decide) (fun c1502_ => ?_) (fun c1502_ => ?_)
          · replace hr := (if_pos c1502_).symm.trans hr
            cases hr
            exact rr_keep [false, true, true, true, true, true, true, true, true, true, true, true, true, true, true, true, true, true, false, false, false, true, true, true, true, true, true, true, true, true, true, true, false, true, false, false, false, false, false, false, false, false, true, true, false, true, false, false, false, false, false, false, false, false, false, false, true, false, true, false, false, false, false, false, false, false, false, false, false, false, false, false, false] hj735
          · replace hr := (if_neg c1502_).symm.trans hr
            refine rr_iload C dL_law_1505 rfl ?_
            refine rr_if_eq (tgt := 1564) C dL_law_1507 (by decide) (fun c1507_ => ?_) (fun c1507_ => ?_)
            · replace hr := (if_pos c1507_).symm.trans hr
              cases hr
              exact rr_keep [false, true, true, true, true, true, true, true, true, true, true, true, true, true, true, true, true, true, false, false, false, true, true, true, true, true, true, true, true, true, true, true, false, true, false, false, false, false, false, false, false, false, true, true, false, true, false, false, false, false, false, false, false, false, false, false, true, false, true, false, false, false, false, false, false, false, false, false, false, false, false, false, false] hj735
            · replace hr := (if_neg c1507_).symm.trans hr
              refine rr_lload C dL_law_1510 rfl ?_
              refine rr_bipush (v := 100) C dL_law_1512 (by decide) ?_
              refine rr_iload C dL_law_1514 rfl ?_
              refine rr_iadd C dL_law_1516 ?_
              refine rr_i2l C dL_law_1517 ?_
              refine rr_lmul C dL_law_1518 ?_
              refine rr_ldc2 C dL_law_1519 ct_L_116 ?_
              refine rr_ldiv C dL_law_1522 (by decide) ?_
              replace hr := Option.bind_eq_some_iff.mp hr
              obtain ⟨x739, e740, hr⟩ := hr
              refine rr_asJ C e740 ?_
              refine rr_lstore C dL_law_1523 (by decide) ?_
              show WW W0 G 73 _ _ _ 1525 [none, some (.ref l1), some (.int l2), some (.int l3), some (.int l4), some (.int l5), some (.int l6), some (.int l7), some (.int l8), some (.int l9), some (.int l10), some (.int l11), some (.int l12), some (.int l13), some (.int l14), some (.int l15), some (.int l16), some (.int l17), none, none, none, some (.ref l21), some (.ref l22), some (.ref l23), some (.ref l24), some (.ref l25), some (.ref l26), some (.ref l27), some (.int l28), some (.ref l29), some (.int l30), some (.long l31), none, some (.ref l33), none, none, none, none, some (.long l38), none, some (.long l40), none, some (.int l42), some (.long x622), none, some (.long x624), none, none, none, none, none, none, none, some (.long x677), none, none, some (.long x731), none, some (.long x731), none, some (.long x739), none, none, none, none, none, none, none, none, none, none, none, none] [] v728.2 (n + 1) _ _
              refine rr_lload C dL_law_1525 rfl ?_
              refine rr_bipush (v := 100) C dL_law_1527 (by decide) ?_
              refine rr_iload C dL_law_1529 rfl ?_
              refine rr_isub C dL_law_1531 ?_
              refine rr_i2l C dL_law_1532 ?_
              refine rr_lmul C dL_law_1533 ?_
              refine rr_ldc2 C dL_law_1534 ct_L_116 ?_
              refine rr_ldiv C dL_law_1537 (by decide) ?_
              replace hr := Option.bind_eq_some_iff.mp hr
              obtain ⟨x741, e742, hr⟩ := hr
              refine rr_asJ C e742 ?_
              refine rr_lstore C dL_law_1538 (by decide) ?_
              show WW W0 G 73 _ _ _ 1540 [none, some (.ref l1), some (.int l2), some (.int l3), some (.int l4), some (.int l5), some (.int l6), some (.int l7), some (.int l8), some (.int l9), some (.int l10), some (.int l11), some (.int l12), some (.int l13), some (.int l14), some (.int l15), some (.int l16), some (.int l17), none, none, none, some (.ref l21), some (.ref l22), some (.ref l23), some (.ref l24), some (.ref l25), some (.ref l26), some (.ref l27), some (.int l28), some (.ref l29), some (.int l30), some (.long l31), none, some (.ref l33), none, none, none, none, some (.long l38), none, some (.long l40), none, some (.int l42), some (.long x622), none, some (.long x624), none, none, none, none, none, none, none, some (.long x677), none, none, some (.long x731), none, some (.long x731), none, some (.long x739), none, some (.long x741), none, none, none, none, none, none, none, none, none, none] [] v728.2 (n + 1) _ _
              refine rr_lload C dL_law_1540 rfl ?_
              refine rr_lload C dL_law_1542 rfl ?_
              refine rr_lcmp C dL_law_1544 ?_
              replace hr := Option.bind_eq_some_iff.mp hr
              obtain ⟨y744, er746, hr⟩ := hr
              refine rr_join0 (pc' := 1552) (L' := [none, some (.ref l1), some (.int l2), some (.int l3), some (.int l4), some (.int l5), some (.int l6), some (.int l7), some (.int l8), some (.int l9), some (.int l10), some (.int l11), some (.int l12), some (.int l13), some (.int l14), some (.int l15), some (.int l16), some (.int l17), none, none, none, some (.ref l21), some (.ref l22), some (.ref l23), some (.ref l24), some (.ref l25), some (.ref l26), some (.ref l27), some (.int l28), some (.ref l29), some (.int l30), some (.long l31), none, some (.ref l33), none, none, none, none, none, none, none, none, some (.int l42), some (.long x622), none, some (.long x624), none, none, none, none, none, none, none, none, none, none, some (.long x731), none, some (.long y744), none, none, none, some (.long x741), none, none, none, none, none, none, none, none, none, none]) (st' := []) (h' := v728.2) (n' := (n + 1)) C (fun hj745 => ?_) ?_
              · have hr := er746
                refine rr_if_le (tgt := 1552) C dL_law_1545 (by decide) (fun c743 => ?_) (fun c743 => ?_)
                · replace hr := (if_pos c743).symm.trans hr
                  cases hr
                  exact rr_keep [false, true, true, true, true, true, true, true, true, true, true, true, true, true, true, true, true, true, false, false, false, true, true, true, true, true, true, true, true, true, true, true, false, true, false, false, false, false, false, false, false, false, true, true, false, true, false, false, false, false, false, false, false, false, false, false, true, false, true, false, false, false, true, false, false, false, false, false, false, false, false, false, false] hj745
                · replace hr := (if_neg c743).symm.trans hr
                  refine rr_lload C dL_law_1548 rfl ?_
                  refine rr_lstore C dL_law_1550 (by decide) ?_
                  show WW W0 G 73 _ _ _ 1552 [none, some (.ref l1), some (.int l2), some (.int l3), some (.int l4), some (.int l5), some (.int l6), some (.int l7), some (.int l8), some (.int l9), some (.int l10), some (.int l11), some (.int l12), some (.int l13), some (.int l14), some (.int l15), some (.int l16), some (.int l17), none, none, none, some (.ref l21), some (.ref l22), some (.ref l23), some (.ref l24), some (.ref l25), some (.ref l26), some (.ref l27), some (.int l28), some (.ref l29), some (.int l30), some (.long l31), none, some (.ref l33), none, none, none, none, some (.long l38), none, some (.long l40), none, some (.int l42), some (.long x622), none, some (.long x624), none, none, none, none, none, none, none, some (.long x677), none, none, some (.long x731), none, some (.long x739), none, some (.long x739), none, some (.long x741), none, none, none, none, none, none, none, none, none, none] [] v728.2 (n + 1) _ _
                  cases hr
                  exact rr_keep [false, true, true, true, true, true, true, true, true, true, true, true, true, true, true, true, true, true, false, false, false, true, true, true, true, true, true, true, true, true, true, true, false, true, false, false, false, false, false, false, false, false, true, true, false, true, false, false, false, false, false, false, false, false, false, false, true, false, true, false, false, false, true, false, false, false, false, false, false, false, false, false, false] hj745
              refine rr_lload C dL_law_1552 rfl ?_
              refine rr_lload C dL_law_1554 rfl ?_
              refine rr_lcmp C dL_law_1556 ?_
              refine rr_if_ge (tgt := 1564) C dL_law_1557 (by decide) (fun c1557_ => ?_) (fun c1557_ => ?_)
              · replace hr := (if_pos c1557_).symm.trans hr
                cases hr
                exact rr_keep [false, true, true, true, true, true, true, true, true, true, true, true, true, true, true, true, true, true, false, false, false, true, true, true, true, true, true, true, true, true, true, true, false, true, false, false, false, false, false, false, false, false, true, true, false, true, false, false, false, false, false, false, false, false, false, false, true, false, true, false, false, false, false, false, false, false, false, false, false, false, false, false, false] hj735
              · replace hr := (if_neg c1557_).symm.trans hr
                refine rr_lload C dL_law_1560 rfl ?_
                refine rr_lstore C dL_law_1562 (by decide) ?_
                show WW W0 G 73 _ _ _ 1564 [none, some (.ref l1), some (.int l2), some (.int l3), some (.int l4), some (.int l5), some (.int l6), some (.int l7), some (.int l8), some (.int l9), some (.int l10), some (.int l11), some (.int l12), some (.int l13), some (.int l14), some (.int l15), some (.int l16), some (.int l17), none, none, none, some (.ref l21), some (.ref l22), some (.ref l23), some (.ref l24), some (.ref l25), some (.ref l26), some (.ref l27), some (.int l28), some (.ref l29), some (.int l30), some (.long l31), none, some (.ref l33), none, none, none, none, none, none, none, none, some (.int l42), some (.long x622), none, some (.long x624), none, none, none, none, none, none, none, none, none, none, some (.long x731), none, some (.long x741), none, none, none, some (.long x741), none, none, none, none, none, none, none, none, none, none] [] v728.2 (n + 1) _ _
                cases hr
                exact rr_keep [false, true, true, true, true, true, true, true, true, true, true, true, true, true, true, true, true, true, false, false, false, true, true, true, true, true, true, true, true, true, true, true, false, true, false, false, false, false, false, false, false, false, true, true, false, true, false, false, false, false, false, false, false, false, false, false, true, false, true, false, false, false, false, false, false, false, false, false, false, false, false, false, false] hj735
      refine rr_lload C dL_law_1564 rfl ?_
      refine rr_lstore C dL_law_1566 (by decide) ?_
      show WW W0 G 73 _ _ _ 1568 [none, some (.ref l1), some (.int l2), some (.int l3), some (.int l4), some (.int l5), some (.int l6), some (.int l7), some (.int l8), some (.int l9), some (.int l10), some (.int l11), some (.int l12), some (.int l13), some (.int l14), some (.int l15), some (.int l16), some (.int l17), none, none, none, some (.ref l21), some (.ref l22), some (.ref l23), some (.ref l24), some (.ref l25), some (.ref l26), some (.ref l27), some (.int l28), some (.ref l29), some (.int l30), some (.long l31), none, some (.ref l33), none, none, none, none, some (.long y734), none, none, none, some (.int l42), some (.long x622), none, some (.long x624), none, none, none, none, none, none, none, none, none, none, some (.long x731), none, some (.long y734), none, none, none, none, none, none, none, none, none, none, none, none, none, none] [] v728.2 (n + 1) _ _
      refine rr_lload C dL_law_1568 rfl ?_
      refine rr_lload C dL_law_1570 rfl ?_
      refine rr_lsub C dL_law_1572 ?_
      replace hr := Option.bind_eq_some_iff.mp hr
      obtain ⟨x748, e749, hr⟩ := hr
      refine rr_asJ C e749 ?_
      refine rr_lstore C dL_law_1573 (by decide) ?_
      show WW W0 G 73 _ _ _ 1575 [none, some (.ref l1), some (.int l2), some (.int l3), some (.int l4), some (.int l5), some (.int l6), some (.int l7), some (.int l8), some (.int l9), some (.int l10), some (.int l11), some (.int l12), some (.int l13), some (.int l14), some (.int l15), some (.int l16), some (.int l17), none, none, none, some (.ref l21), some (.ref l22), some (.ref l23), some (.ref l24), some (.ref l25), some (.ref l26), some (.ref l27), some (.int l28), some (.ref l29), some (.int l30), some (.long l31), none, some (.ref l33), none, none, none, none, some (.long y734), none, some (.long x748), none, some (.int l42), some (.long x622), none, some (.long x624), none, none, none, none, none, none, none, none, none, none, some (.long x731), none, some (.long y734), none, none, none, none, none, none, none, none, none, none, none, none, none, none] [] v728.2 (n + 1) _ _
      refine rr_aload_n (i := 1) C dL_law_1575 rfl rfl ?_
      refine rr_iconst (v := 0) C dL_law_1576 (by decide) ?_
      refine rr_iload C dL_law_1577 rfl ?_
      refine rr_iload C dL_law_1579 rfl ?_
      refine rr_iconst (v := 0) C dL_law_1581 (by decide) ?_
      replace hr := Option.bind_eq_some_iff.mp hr
      obtain ⟨u750, e751, hr⟩ := hr
      replace hr := Option.bind_eq_some_iff.mp hr
      obtain ⟨v752, e753, hr⟩ := hr
      refine rr_callVq (as := [.int 0, .int l42, .int l30, .int 0]) (st := []) (mc' := 0) (ms' := 0) (kc := kc + 5 * k_ + 4) (ks := ks + 993 * k_ + 978) C dL_law_1582 iv_L_132 (by decide) e751 rfl (Nat.le_of_ble_eq_true rfl) (c_X10_bills l1 0 l42 l30 0 (by omega) e753) (fun v_ h_ n_ q_ => ?_)
      obtain ⟨q1_, q2_, q3_⟩ := q_
      subst v_; subst h_; subst n_
      show WW W0 G 73 _ _ _ 1585 [none, some (.ref l1), some (.int l2), some (.int l3), some (.int l4), some (.int l5), some (.int l6), some (.int l7), some (.int l8), some (.int l9), some (.int l10), some (.int l11), some (.int l12), some (.int l13), some (.int l14), some (.int l15), some (.int l16), some (.int l17), none, none, none, some (.ref l21), some (.ref l22), some (.ref l23), some (.ref l24), some (.ref l25), some (.ref l26), some (.ref l27), some (.int l28), some (.ref l29), some (.int l30), some (.long l31), none, some (.ref l33), none, none, none, none, some (.long y734), none, some (.long x748), none, some (.int l42), some (.long x622), none, some (.long x624), none, none, none, none, none, none, none, none, none, none, some (.long x731), none, some (.long y734), none, none, none, none, none, none, none, none, none, none, none, none, none, none] [.long v752.1] v752.2 (n + 1) _ _
      refine rr_lload C dL_law_1585 rfl ?_
      refine rr_lcmp C dL_law_1587 ?_
      obtain ⟨c754, hr⟩ := ite_nn hr
      refine rr_if_ne (tgt := 1607) C dL_law_1588 (by decide) (fun q_ => absurd c754 q_) (fun _ => ?_)
      refine rr_aload_n (i := 1) C dL_law_1591 rfl rfl ?_
      refine rr_iconst (v := 0) C dL_law_1592 (by decide) ?_
      refine rr_iload C dL_law_1593 rfl ?_
      refine rr_iload C dL_law_1595 rfl ?_
      refine rr_iconst (v := 1) C dL_law_1597 (by decide) ?_
      replace hr := Option.bind_eq_some_iff.mp hr
      obtain ⟨u755, e756, hr⟩ := hr
      replace hr := Option.bind_eq_some_iff.mp hr
      obtain ⟨v757, e758, hr⟩ := hr
      refine rr_callVq (as := [.int 0, .int l42, .int l30, .int 1]) (st := []) (mc' := 0) (ms' := 0) (kc := kc + 5 * k_ + 4) (ks := ks + 993 * k_ + 978) C dL_law_1598 iv_L_132 (by decide) e756 rfl (Nat.le_of_ble_eq_true rfl) (c_X10_bills l1 0 l42 l30 1 (by omega) e758) (fun v_ h_ n_ q_ => ?_)
      obtain ⟨q1_, q2_, q3_⟩ := q_
      subst v_; subst h_; subst n_
      show WW W0 G 73 _ _ _ 1601 [none, some (.ref l1), some (.int l2), some (.int l3), some (.int l4), some (.int l5), some (.int l6), some (.int l7), some (.int l8), some (.int l9), some (.int l10), some (.int l11), some (.int l12), some (.int l13), some (.int l14), some (.int l15), some (.int l16), some (.int l17), none, none, none, some (.ref l21), some (.ref l22), some (.ref l23), some (.ref l24), some (.ref l25), some (.ref l26), some (.ref l27), some (.int l28), some (.ref l29), some (.int l30), some (.long l31), none, some (.ref l33), none, none, none, none, some (.long y734), none, some (.long x748), none, some (.int l42), some (.long x622), none, some (.long x624), none, none, none, none, none, none, none, none, none, none, some (.long x731), none, some (.long y734), none, none, none, none, none, none, none, none, none, none, none, none, none, none] [.long v757.1] v757.2 (n + 1) _ _
      refine rr_lload C dL_law_1601 rfl ?_
      refine rr_lcmp C dL_law_1603 ?_
      obtain ⟨c759, hr⟩ := ite_nn hr
      refine rr_if_eq (tgt := 1609) C dL_law_1604 (by decide) (fun _ => ?_) (fun q_ => absurd c759 q_)
      refine rr_aload C dL_law_1609 rfl ?_
      refine rr_iload C dL_law_1611 rfl ?_
      replace hr := Option.bind_eq_some_iff.mp hr
      obtain ⟨v760, e761, hr⟩ := hr
      refine rr_ldI C dL_law_1613 e761 ?_
      refine rr_i2l C dL_law_1614 ?_
      refine rr_ldc2 C dL_law_1615 ct_L_135 ?_
      refine rr_lmul C dL_law_1618 ?_
      refine rr_aload C dL_law_1619 rfl ?_
      refine rr_bipush (v := 8) C dL_law_1621 (by decide) ?_
      refine rr_iload C dL_law_1623 rfl ?_
      refine rr_iadd C dL_law_1625 ?_
      replace hr := Option.bind_eq_some_iff.mp hr
      obtain ⟨v762, e763, hr⟩ := hr
      refine rr_ldI C dL_law_1626 e763 ?_
      refine rr_i2l C dL_law_1627 ?_
      refine rr_ldc2 C dL_law_1628 ct_L_137 ?_
      refine rr_lmul C dL_law_1631 ?_
      refine rr_ladd C dL_law_1632 ?_
      refine rr_aload C dL_law_1633 rfl ?_
      refine rr_bipush (v := 16) C dL_law_1635 (by decide) ?_
      refine rr_iload C dL_law_1637 rfl ?_
      refine rr_iadd C dL_law_1639 ?_
      replace hr := Option.bind_eq_some_iff.mp hr
      obtain ⟨v764, e765, hr⟩ := hr
      refine rr_ldI C dL_law_1640 e765 ?_
      refine rr_i2l C dL_law_1641 ?_
      refine rr_ldc2 C dL_law_1642 ct_L_139 ?_
      refine rr_lmul C dL_law_1645 ?_
      refine rr_ladd C dL_law_1646 ?_
      replace hr := Option.bind_eq_some_iff.mp hr
      obtain ⟨x766, e767, hr⟩ := hr
      refine rr_asJ C e767 ?_
      refine rr_lstore C dL_law_1647 (by decide) ?_
      show WW W0 G 73 _ _ _ 1649 [none, some (.ref l1), some (.int l2), some (.int l3), some (.int l4), some (.int l5), some (.int l6), some (.int l7), some (.int l8), some (.int l9), some (.int l10), some (.int l11), some (.int l12), some (.int l13), some (.int l14), some (.int l15), some (.int l16), some (.int l17), none, none, none, some (.ref l21), some (.ref l22), some (.ref l23), some (.ref l24), some (.ref l25), some (.ref l26), some (.ref l27), some (.int l28), some (.ref l29), some (.int l30), some (.long l31), none, some (.ref l33), none, none, none, none, some (.long y734), none, some (.long x748), none, some (.int l42), some (.long x622), none, some (.long x624), none, none, none, none, none, none, none, none, none, none, some (.long x731), none, some (.long y734), none, some (.long x766), none, none, none, none, none, none, none, none, none, none, none, none] [] v757.2 (n + 1) _ _
      refine rr_iconst (v := 3) C dL_law_1649 (by decide) ?_
      refine rr_cut C (kc' := kc + 5 * k_ + 3 + 1) (ks' := ks + 993 * k_ + 975 + 3) (by omega) (by omega) ?_
      replace hr := Option.bind_eq_some_iff.mp hr
      obtain ⟨h768, e769, hr⟩ := hr
      refine rr_newJq C dL_law_1650 ac_long (N := 3) (by decide) e769 ?_
      show WW W0 G 73 _ _ _ 1652 [none, some (.ref l1), some (.int l2), some (.int l3), some (.int l4), some (.int l5), some (.int l6), some (.int l7), some (.int l8), some (.int l9), some (.int l10), some (.int l11), some (.int l12), some (.int l13), some (.int l14), some (.int l15), some (.int l16), some (.int l17), none, none, none, some (.ref l21), some (.ref l22), some (.ref l23), some (.ref l24), some (.ref l25), some (.ref l26), some (.ref l27), some (.int l28), some (.ref l29), some (.int l30), some (.long l31), none, some (.ref l33), none, none, none, none, some (.long y734), none, some (.long x748), none, some (.int l42), some (.long x622), none, some (.long x624), none, none, none, none, none, none, none, none, none, none, some (.long x731), none, some (.long y734), none, some (.long x766), none, none, none, none, none, none, none, none, none, none, none, none] [.ref (n + 1)] h768 (n + 2) _ _
      refine rr_dup C dL_law_1652 rfl ?_
      refine rr_iconst (v := 0) C dL_law_1653 (by decide) ?_
      refine rr_lload C dL_law_1654 rfl ?_
      refine rr_lconst (v := 0) C dL_law_1656 (by decide) ?_
      refine rr_lcmp C dL_law_1657 ?_
      replace hr := Option.bind_eq_some_iff.mp hr
      obtain ⟨y771, er773, hr⟩ := hr
      refine rr_join0 (pc' := 1674) (L' := [none, some (.ref l1), some (.int l2), some (.int l3), some (.int l4), some (.int l5), some (.int l6), some (.int l7), some (.int l8), some (.int l9), some (.int l10), some (.int l11), some (.int l12), some (.int l13), some (.int l14), some (.int l15), some (.int l16), some (.int l17), none, none, none, some (.ref l21), some (.ref l22), some (.ref l23), some (.ref l24), some (.ref l25), some (.ref l26), some (.ref l27), some (.int l28), some (.ref l29), some (.int l30), some (.long l31), none, some (.ref l33), none, none, none, none, some (.long y734), none, some (.long x748), none, some (.int l42), some (.long x622), none, some (.long x624), none, none, none, none, none, none, none, none, none, none, none, none, none, none, some (.long x766), none, none, none, none, none, none, none, none, none, none, none, none]) (st' := [.long y771, .int 0, .ref (n + 1), .ref (n + 1)]) (h' := h768) (n' := (n + 2)) C (fun hj772 => ?_) ?_
      · have hr := er773
        refine rr_if_ne (tgt := 1665) C dL_law_1658 (by decide) (fun c770 => ?_) (fun c770 => ?_)
        · replace hr := (if_neg c770).symm.trans hr
          refine rr_lload C dL_law_1665 rfl ?_
          refine rr_ldc2 C dL_law_1667 ct_L_135 ?_
          refine rr_lmul C dL_law_1670 ?_
          refine rr_lload C dL_law_1671 rfl ?_
          by_cases z774 : x766 = 0
          · replace hr := (if_pos z774).symm.trans hr
            cases hr
          replace hr := (if_neg z774).symm.trans hr
          refine rr_ldiv C dL_law_1673 z774 ?_
          cases hr
          exact rr_keep [false, true, true, true, true, true, true, true, true, true, true, true, true, true, true, true, true, true, false, false, false, true, true, true, true, true, true, true, true, true, true, true, false, true, false, false, false, false, true, false, true, false, true, true, false, true, false, false, false, false, false, false, false, false, false, false, false, false, false, false, true, false, false, false, false, false, false, false, false, false, false, false, false] hj772
        · replace hr := (if_pos c770).symm.trans hr
          refine rr_lconst (v := 0) C dL_law_1661 (by decide) ?_
          refine rr_goto (tgt := 1674) C dL_law_1662 (by decide) ?_
          cases hr
          exact rr_keep [false, true, true, true, true, true, true, true, true, true, true, true, true, true, true, true, true, true, false, false, false, true, true, true, true, true, true, true, true, true, true, true, false, true, false, false, false, false, true, false, true, false, true, true, false, true, false, false, false, false, false, false, false, false, false, false, false, false, false, false, true, false, false, false, false, false, false, false, false, false, false, false, false] hj772
      replace hr := Option.bind_eq_some_iff.mp hr
      obtain ⟨h775, e776, hr⟩ := hr
      refine rr_stJ C dL_law_1674 e776 ?_
      refine rr_dup C dL_law_1675 rfl ?_
      refine rr_iconst (v := 1) C dL_law_1676 (by decide) ?_
      refine rr_lload C dL_law_1677 rfl ?_
      refine rr_lconst (v := 0) C dL_law_1679 (by decide) ?_
      refine rr_lcmp C dL_law_1680 ?_
      replace hr := Option.bind_eq_some_iff.mp hr
      obtain ⟨y778, er780, hr⟩ := hr
      refine rr_join0 (pc' := 1697) (L' := [none, some (.ref l1), some (.int l2), some (.int l3), some (.int l4), some (.int l5), some (.int l6), some (.int l7), some (.int l8), some (.int l9), some (.int l10), some (.int l11), some (.int l12), some (.int l13), some (.int l14), some (.int l15), some (.int l16), some (.int l17), none, none, none, some (.ref l21), some (.ref l22), some (.ref l23), some (.ref l24), some (.ref l25), some (.ref l26), some (.ref l27), some (.int l28), some (.ref l29), some (.int l30), some (.long l31), none, some (.ref l33), none, none, none, none, some (.long y734), none, some (.long x748), none, some (.int l42), some (.long x622), none, some (.long x624), none, none, none, none, none, none, none, none, none, none, none, none, none, none, some (.long x766), none, none, none, none, none, none, none, none, none, none, none, none]) (st' := [.long y778, .int 1, .ref (n + 1), .ref (n + 1)]) (h' := h775) (n' := (n + 2)) C (fun hj779 => ?_) ?_
      · have hr := er780
        refine rr_if_ne (tgt := 1688) C dL_law_1681 (by decide) (fun c777 => ?_) (fun c777 => ?_)
        · replace hr := (if_neg c777).symm.trans hr
          refine rr_lload C dL_law_1688 rfl ?_
          refine rr_ldc2 C dL_law_1690 ct_L_137 ?_
          refine rr_lmul C dL_law_1693 ?_
          refine rr_lload C dL_law_1694 rfl ?_
          by_cases z781 : x766 = 0
          · replace hr := (if_pos z781).symm.trans hr
            cases hr
          replace hr := (if_neg z781).symm.trans hr
          refine rr_ldiv C dL_law_1696 z781 ?_
          cases hr
          exact rr_keep [false, true, true, true, true, true, true, true, true, true, true, true, true, true, true, true, true, true, false, false, false, true, true, true, true, true, true, true, true, true, true, true, false, true, false, false, false, false, true, false, true, false, true, true, false, true, false, false, false, false, false, false, false, false, false, false, false, false, false, false, true, false, false, false, false, false, false, false, false, false, false, false, false] hj779
        · replace hr := (if_pos c777).symm.trans hr
          refine rr_lconst (v := 0) C dL_law_1684 (by decide) ?_
          refine rr_goto (tgt := 1697) C dL_law_1685 (by decide) ?_
          cases hr
          exact rr_keep [false, true, true, true, true, true, true, true, true, true, true, true, true, true, true, true, true, true, false, false, false, true, true, true, true, true, true, true, true, true, true, true, false, true, false, false, false, false, true, false, true, false, true, true, false, true, false, false, false, false, false, false, false, false, false, false, false, false, false, false, true, false, false, false, false, false, false, false, false, false, false, false, false] hj779
      replace hr := Option.bind_eq_some_iff.mp hr
      obtain ⟨h782, e783, hr⟩ := hr
      refine rr_stJ C dL_law_1697 e783 ?_
      refine rr_dup C dL_law_1698 rfl ?_
      refine rr_iconst (v := 2) C dL_law_1699 (by decide) ?_
      refine rr_lload C dL_law_1700 rfl ?_
      refine rr_lconst (v := 0) C dL_law_1702 (by decide) ?_
      refine rr_lcmp C dL_law_1703 ?_
      replace hr := Option.bind_eq_some_iff.mp hr
      obtain ⟨y785, er787, hr⟩ := hr
      refine rr_join0 (pc' := 1720) (L' := [none, some (.ref l1), some (.int l2), some (.int l3), some (.int l4), some (.int l5), some (.int l6), some (.int l7), some (.int l8), some (.int l9), some (.int l10), some (.int l11), some (.int l12), some (.int l13), some (.int l14), some (.int l15), some (.int l16), some (.int l17), none, none, none, some (.ref l21), some (.ref l22), some (.ref l23), some (.ref l24), some (.ref l25), some (.ref l26), some (.ref l27), some (.int l28), some (.ref l29), some (.int l30), some (.long l31), none, some (.ref l33), none, none, none, none, some (.long y734), none, some (.long x748), none, some (.int l42), some (.long x622), none, some (.long x624), none, none, none, none, none, none, none, none, none, none, none, none, none, none, some (.long x766), none, none, none, none, none, none, none, none, none, none, none, none]) (st' := [.long y785, .int 2, .ref (n + 1), .ref (n + 1)]) (h' := h782) (n' := (n + 2)) C (fun hj786 => ?_) ?_
      · have hr := er787
        refine rr_if_ne (tgt := 1711) C dL_law_1704 (by decide) (fun c784 => ?_) (fun c784 => ?_)
        · replace hr := (if_neg c784).symm.trans hr
          refine rr_lload C dL_law_1711 rfl ?_
          refine rr_ldc2 C dL_law_1713 ct_L_139 ?_
          refine rr_lmul C dL_law_1716 ?_
          refine rr_lload C dL_law_1717 rfl ?_
          by_cases z788 : x766 = 0
          · replace hr := (if_pos z788).symm.trans hr
            cases hr
          replace hr := (if_neg z788).symm.trans hr
          refine rr_ldiv C dL_law_1719 z788 ?_
          cases hr
          exact rr_keep [false, true, true, true, true, true, true, true, true, true, true, true, true, true, true, true, true, true, false, false, false, true, true, true, true, true, true, true, true, true, true, true, false, true, false, false, false, false, true, false, true, false, true, true, false, true, false, false, false, false, false, false, false, false, false, false, false, false, false, false, true, false, false, false, false, false, false, false, false, false, false, false, false] hj786
        · replace hr := (if_pos c784).symm.trans hr
          refine rr_lconst (v := 0) C dL_law_1707 (by decide) ?_
          refine rr_goto (tgt := 1720) C dL_law_1708 (by decide) ?_
          cases hr
          exact rr_keep [false, true, true, true, true, true, true, true, true, true, true, true, true, true, true, true, true, true, false, false, false, true, true, true, true, true, true, true, true, true, true, true, false, true, false, false, false, false, true, false, true, false, true, true, false, true, false, false, false, false, false, false, false, false, false, false, false, false, false, false, true, false, false, false, false, false, false, false, false, false, false, false, false] hj786
      replace hr := Option.bind_eq_some_iff.mp hr
      obtain ⟨h789, e790, hr⟩ := hr
      refine rr_stJ C dL_law_1720 e790 ?_
      refine rr_astore C dL_law_1721 (by decide) ?_
      show WW W0 G 73 _ _ _ 1723 [none, some (.ref l1), some (.int l2), some (.int l3), some (.int l4), some (.int l5), some (.int l6), some (.int l7), some (.int l8), some (.int l9), some (.int l10), some (.int l11), some (.int l12), some (.int l13), some (.int l14), some (.int l15), some (.int l16), some (.int l17), none, none, none, some (.ref l21), some (.ref l22), some (.ref l23), some (.ref l24), some (.ref l25), some (.ref l26), some (.ref l27), some (.int l28), some (.ref l29), some (.int l30), some (.long l31), none, some (.ref l33), none, none, none, none, some (.long y734), none, some (.long x748), none, some (.int l42), some (.long x622), none, some (.long x624), none, none, none, none, none, none, none, none, none, none, none, none, none, none, some (.long x766), none, some (.ref (n + 1)), none, none, none, none, none, none, none, none, none, none] [] h789 (n + 2) _ _
      refine rr_lload C dL_law_1723 rfl ?_
      refine rr_lstore C dL_law_1725 (by decide) ?_
      show WW W0 G 73 _ _ _ 1727 [none, some (.ref l1), some (.int l2), some (.int l3), some (.int l4), some (.int l5), some (.int l6), some (.int l7), some (.int l8), some (.int l9), some (.int l10), some (.int l11), some (.int l12), some (.int l13), some (.int l14), some (.int l15), some (.int l16), some (.int l17), none, none, none, some (.ref l21), some (.ref l22), some (.ref l23), some (.ref l24), some (.ref l25), some (.ref l26), some (.ref l27), some (.int l28), some (.ref l29), some (.int l30), some (.long l31), none, some (.ref l33), none, none, none, none, some (.long y734), none, some (.long x748), none, some (.int l42), some (.long x622), none, some (.long x624), none, none, none, none, none, none, none, none, none, none, none, none, none, none, some (.long x766), none, some (.ref (n + 1)), some (.long y734), none, none, none, none, none, none, none, none, none] [] h789 (n + 2) _ _
      refine rr_iconst (v := 0) C dL_law_1727 (by decide) ?_
      refine rr_istore C dL_law_1728 (by decide) ?_
      show WW W0 G 73 _ _ _ 1730 [none, some (.ref l1), some (.int l2), some (.int l3), some (.int l4), some (.int l5), some (.int l6), some (.int l7), some (.int l8), some (.int l9), some (.int l10), some (.int l11), some (.int l12), some (.int l13), some (.int l14), some (.int l15), some (.int l16), some (.int l17), none, none, none, some (.ref l21), some (.ref l22), some (.ref l23), some (.ref l24), some (.ref l25), some (.ref l26), some (.ref l27), some (.int l28), some (.ref l29), some (.int l30), some (.long l31), none, some (.ref l33), none, none, none, none, some (.long y734), none, some (.long x748), none, some (.int l42), some (.long x622), none, some (.long x624), none, none, none, none, none, none, none, none, none, none, none, none, none, none, some (.long x766), none, some (.ref (n + 1)), some (.long y734), none, some (.int 0), none, none, none, none, none, none, none] [] h789 (n + 2) _ _
      replace hr := Option.bind_eq_some_iff.mp hr
      obtain ⟨v805, e806, hr⟩ := hr
      refine rr_keep [false, true, true, true, true, true, true, true, true, true, true, true, true, true, true, true, true, true, false, false, false, true, true, true, true, true, true, true, true, true, true, true, false, true, false, false, false, false, true, false, true, false, true, true, false, true, false, false, false, false, false, false, false, false, false, false, false, false, false, false, true, false, true, true, false, true, false, false, false, false, false, false, false] (w_L_law_1730 C (by omega) l1 l2 l3 l4 l5 l6 l7 l8 l9 l10 l11 l12 l13 l14 l15 l16 l17 l21 l22 l23 l24 l25 l26 l27 l28 l29 l30 l31 l33 y734 x748 l42 x622 x624 x766 (n + 1) K y734 0 h789 e806 ?_)
      show WW W0 G 73 _ _ _ 1787 [none, some (.ref l1), some (.int l2), some (.int l3), some (.int l4), some (.int l5), some (.int l6), some (.int l7), some (.int l8), some (.int l9), some (.int l10), some (.int l11), some (.int l12), some (.int l13), some (.int l14), some (.int l15), some (.int l16), some (.int l17), none, none, none, some (.ref l21), some (.ref l22), some (.ref l23), some (.ref l24), some (.ref l25), some (.ref l26), some (.ref l27), some (.int l28), some (.ref l29), some (.int l30), some (.long l31), none, some (.ref l33), none, none, none, none, some (.long y734), none, some (.long x748), none, some (.int l42), some (.long x622), none, some (.long x624), none, none, none, none, none, none, none, none, none, none, none, none, none, none, some (.long x766), none, none, some (.long v805.1), none, none, none, none, none, none, none, none, none] [] v805.2 (n + 2) _ _
      refine rr_aload_n (i := 1) C dL_law_1787 rfl rfl ?_
      refine rr_iconst (v := 0) C dL_law_1788 (by decide) ?_
      refine rr_iload C dL_law_1789 rfl ?_
      refine rr_iload C dL_law_1791 rfl ?_
      refine rr_iconst (v := 3) C dL_law_1793 (by decide) ?_
      replace hr := Option.bind_eq_some_iff.mp hr
      obtain ⟨u807, e808, hr⟩ := hr
      replace hr := Option.bind_eq_some_iff.mp hr
      obtain ⟨v809, e810, hr⟩ := hr
      refine rr_callVq (as := [.int 0, .int l42, .int l30, .int 3]) (st := []) (mc' := 0) (ms' := 0) (kc := kc + 5 * k_ + 3) (ks := ks + 993 * k_ + 975) C dL_law_1794 iv_L_141 (by decide) e808 rfl (Nat.le_of_ble_eq_true rfl) (c_X10_home l1 0 l42 l30 3 (by omega) e810) (fun v_ h_ n_ q_ => ?_)
      obtain ⟨q1_, q2_, q3_⟩ := q_
      subst v_; subst h_; subst n_
      show WW W0 G 73 _ _ _ 1797 [none, some (.ref l1), some (.int l2), some (.int l3), some (.int l4), some (.int l5), some (.int l6), some (.int l7), some (.int l8), some (.int l9), some (.int l10), some (.int l11), some (.int l12), some (.int l13), some (.int l14), some (.int l15), some (.int l16), some (.int l17), none, none, none, some (.ref l21), some (.ref l22), some (.ref l23), some (.ref l24), some (.ref l25), some (.ref l26), some (.ref l27), some (.int l28), some (.ref l29), some (.int l30), some (.long l31), none, some (.ref l33), none, none, none, none, some (.long y734), none, some (.long x748), none, some (.int l42), some (.long x622), none, some (.long x624), none, none, none, none, none, none, none, none, none, none, none, none, none, none, some (.long x766), none, none, some (.long v805.1), none, none, none, none, none, none, none, none, none] [.long v809.1] v809.2 (n + 2) _ _
      refine rr_lload C dL_law_1797 rfl ?_
      refine rr_lcmp C dL_law_1799 ?_
      obtain ⟨c811, hr⟩ := ite_nn hr
      refine rr_if_ne (tgt := 1838) C dL_law_1800 (by decide) (fun q_ => absurd c811 q_) (fun _ => ?_)
      refine rr_aload_n (i := 1) C dL_law_1803 rfl rfl ?_
      refine rr_iconst (v := 0) C dL_law_1804 (by decide) ?_
      refine rr_iload C dL_law_1805 rfl ?_
      refine rr_iload C dL_law_1807 rfl ?_
      refine rr_iconst (v := 1) C dL_law_1809 (by decide) ?_
      refine rr_iconst (v := 4) C dL_law_1810 (by decide) ?_
      replace hr := Option.bind_eq_some_iff.mp hr
      obtain ⟨u812, e813, hr⟩ := hr
      replace hr := Option.bind_eq_some_iff.mp hr
      obtain ⟨v814, e815, hr⟩ := hr
      refine rr_callVq (as := [.int 0, .int l42, .int l30, .int 1, .int 4]) (st := []) (mc' := 0) (ms' := 0) (kc := kc + 5 * k_ + 3) (ks := ks + 993 * k_ + 975) C dL_law_1811 iv_L_144 (by decide) e813 rfl (Nat.le_of_ble_eq_true rfl) (c_X10_who l1 0 l42 l30 1 4 (by omega) e815) (fun v_ h_ n_ q_ => ?_)
      obtain ⟨q1_, q2_, q3_⟩ := q_
      subst v_; subst h_; subst n_
      show WW W0 G 73 _ _ _ 1814 [none, some (.ref l1), some (.int l2), some (.int l3), some (.int l4), some (.int l5), some (.int l6), some (.int l7), some (.int l8), some (.int l9), some (.int l10), some (.int l11), some (.int l12), some (.int l13), some (.int l14), some (.int l15), some (.int l16), some (.int l17), none, none, none, some (.ref l21), some (.ref l22), some (.ref l23), some (.ref l24), some (.ref l25), some (.ref l26), some (.ref l27), some (.int l28), some (.ref l29), some (.int l30), some (.long l31), none, some (.ref l33), none, none, none, none, some (.long y734), none, some (.long x748), none, some (.int l42), some (.long x622), none, some (.long x624), none, none, none, none, none, none, none, none, none, none, none, none, none, none, some (.long x766), none, none, some (.long v805.1), none, none, none, none, none, none, none, none, none] [.long v814.1] v814.2 (n + 2) _ _
      refine rr_lload C dL_law_1814 rfl ?_
      refine rr_lconst (v := 0) C dL_law_1816 (by decide) ?_
      refine rr_lcmp C dL_law_1817 ?_
      replace hr := Option.bind_eq_some_iff.mp hr
      obtain ⟨y817, er819, hr⟩ := hr
      refine rr_join0 (pc' := 1834) (L' := [none, some (.ref l1), some (.int l2), some (.int l3), some (.int l4), some (.int l5), some (.int l6), some (.int l7), some (.int l8), some (.int l9), some (.int l10), some (.int l11), some (.int l12), some (.int l13), some (.int l14), some (.int l15), some (.int l16), some (.int l17), none, none, none, some (.ref l21), some (.ref l22), some (.ref l23), some (.ref l24), some (.ref l25), some (.ref l26), some (.ref l27), some (.int l28), some (.ref l29), some (.int l30), some (.long l31), none, some (.ref l33), none, none, none, none, some (.long y734), none, some (.long x748), none, some (.int l42), some (.long x622), none, none, none, none, none, none, none, none, none, none, none, none, none, none, none, none, none, none, none, none, none, none, none, none, none, none, none, none, none]) (st' := [.long y817, .long v814.1]) (h' := v814.2) (n' := (n + 2)) C (fun hj818 => ?_) ?_
      · have hr := er819
        refine rr_if_ne (tgt := 1825) C dL_law_1818 (by decide) (fun c816 => ?_) (fun c816 => ?_)
        · replace hr := (if_neg c816).symm.trans hr
          refine rr_lload C dL_law_1825 rfl ?_
          refine rr_ldc2 C dL_law_1827 ct_L_137 ?_
          refine rr_lmul C dL_law_1830 ?_
          refine rr_lload C dL_law_1831 rfl ?_
          by_cases z820 : x766 = 0
          · replace hr := (if_pos z820).symm.trans hr
            cases hr
          replace hr := (if_neg z820).symm.trans hr
          refine rr_ldiv C dL_law_1833 z820 ?_
          cases hr
          exact rr_keep [false, true, true, true, true, true, true, true, true, true, true, true, true, true, true, true, true, true, false, false, false, true, true, true, true, true, true, true, true, true, true, true, false, true, false, false, false, false, true, false, true, false, true, true, false, false, false, false, false, false, false, false, false, false, false, false, false, false, false, false, false, false, false, false, false, false, false, false, false, false, false, false, false] hj818
        · replace hr := (if_pos c816).symm.trans hr
          refine rr_lconst (v := 0) C dL_law_1821 (by decide) ?_
          refine rr_goto (tgt := 1834) C dL_law_1822 (by decide) ?_
          cases hr
          exact rr_keep [false, true, true, true, true, true, true, true, true, true, true, true, true, true, true, true, true, true, false, false, false, true, true, true, true, true, true, true, true, true, true, true, false, true, false, false, false, false, true, false, true, false, true, true, false, false, false, false, false, false, false, false, false, false, false, false, false, false, false, false, false, false, false, false, false, false, false, false, false, false, false, false, false] hj818
      refine rr_lcmp C dL_law_1834 ?_
      obtain ⟨c821, hr⟩ := ite_nn hr
      refine rr_if_eq (tgt := 1840) C dL_law_1835 (by decide) (fun _ => ?_) (fun q_ => absurd c821 q_)
      refine rr_aload C dL_law_1840 rfl ?_
      refine rr_iload C dL_law_1842 rfl ?_
      replace hr := Option.bind_eq_some_iff.mp hr
      obtain ⟨v822, e823, hr⟩ := hr
      refine rr_ldI C dL_law_1844 e823 ?_
      replace hr := Option.bind_eq_some_iff.mp hr
      obtain ⟨y825, er827, hr⟩ := hr
      refine rr_join0 (pc' := 1861) (L' := [none, some (.ref l1), some (.int l2), some (.int l3), some (.int l4), some (.int l5), some (.int l6), some (.int l7), some (.int l8), some (.int l9), some (.int l10), some (.int l11), some (.int l12), some (.int l13), some (.int l14), some (.int l15), some (.int l16), some (.int l17), none, none, none, some (.ref l21), some (.ref l22), some (.ref l23), some (.ref l24), some (.ref l25), some (.ref l26), some (.ref l27), some (.int l28), some (.ref l29), some (.int l30), some (.long l31), none, some (.ref l33), none, none, none, none, some (.long y734), none, some (.long x748), none, some (.int l42), none, none, none, none, none, none, none, none, none, none, none, none, none, none, none, none, none, none, none, none, none, none, none, none, none, none, none, none, none, none]) (st' := [.long y825]) (h' := v814.2) (n' := (n + 2)) C (fun hj826 => ?_) ?_
      · have hr := er827
        refine rr_if_ge (tgt := 1852) C dL_law_1845 (by decide) (fun c824 => ?_) (fun c824 => ?_)
        · replace hr := (if_pos c824).symm.trans hr
          refine rr_aload C dL_law_1852 rfl ?_
          refine rr_iload C dL_law_1854 rfl ?_
          replace hr := Option.bind_eq_some_iff.mp hr
          obtain ⟨v828, e829, hr⟩ := hr
          refine rr_ldI C dL_law_1856 e829 ?_
          refine rr_i2l C dL_law_1857 ?_
          refine rr_lload C dL_law_1858 rfl ?_
          refine rr_lsub C dL_law_1860 ?_
          cases hr
          exact rr_keep [false, true, true, true, true, true, true, true, true, true, true, true, true, true, true, true, true, true, false, false, false, true, true, true, true, true, true, true, true, true, true, true, false, true, false, false, false, false, true, false, true, false, true, false, false, false, false, false, false, false, false, false, false, false, false, false, false, false, false, false, false, false, false, false, false, false, false, false, false, false, false, false, false] hj826
        · replace hr := (if_neg c824).symm.trans hr
          refine rr_lconst (v := 0) C dL_law_1848 (by decide) ?_
          refine rr_goto (tgt := 1861) C dL_law_1849 (by decide) ?_
          cases hr
          exact rr_keep [false, true, true, true, true, true, true, true, true, true, true, true, true, true, true, true, true, true, false, false, false, true, true, true, true, true, true, true, true, true, true, true, false, true, false, false, false, false, true, false, true, false, true, false, false, false, false, false, false, false, false, false, false, false, false, false, false, false, false, false, false, false, false, false, false, false, false, false, false, false, false, false, false] hj826
      refine rr_lstore C dL_law_1861 (by decide) ?_
      show WW W0 G 73 _ _ _ 1863 [none, some (.ref l1), some (.int l2), some (.int l3), some (.int l4), some (.int l5), some (.int l6), some (.int l7), some (.int l8), some (.int l9), some (.int l10), some (.int l11), some (.int l12), some (.int l13), some (.int l14), some (.int l15), some (.int l16), some (.int l17), none, none, none, some (.ref l21), some (.ref l22), some (.ref l23), some (.ref l24), some (.ref l25), some (.ref l26), some (.ref l27), some (.int l28), some (.ref l29), some (.int l30), some (.long l31), none, some (.ref l33), none, none, none, none, some (.long y734), none, some (.long x748), none, some (.int l42), none, none, none, none, none, none, none, none, none, none, none, none, none, none, none, none, none, none, none, none, none, none, some (.long y825), none, none, none, none, none, none, none] [] v814.2 (n + 2) _ _
      refine rr_lload C dL_law_1863 rfl ?_
      refine rr_lload C dL_law_1865 rfl ?_
      refine rr_lconst (v := 0) C dL_law_1867 (by decide) ?_
      refine rr_lcmp C dL_law_1868 ?_
      replace hr := Option.bind_eq_some_iff.mp hr
      obtain ⟨y831, er833, hr⟩ := hr
      refine rr_join0 (pc' := 1895) (L' := [none, some (.ref l1), some (.int l2), some (.int l3), some (.int l4), some (.int l5), some (.int l6), some (.int l7), some (.int l8), some (.int l9), some (.int l10), some (.int l11), some (.int l12), some (.int l13), some (.int l14), some (.int l15), some (.int l16), some (.int l17), none, none, none, some (.ref l21), some (.ref l22), some (.ref l23), some (.ref l24), some (.ref l25), some (.ref l26), some (.ref l27), some (.int l28), some (.ref l29), some (.int l30), some (.long l31), none, some (.ref l33), none, none, none, none, some (.long y734), none, some (.long x748), none, some (.int l42), none, none, none, none, none, none, none, none, none, none, none, none, none, none, none, none, none, none, none, none, none, none, none, none, none, none, none, none, none, none]) (st' := [.long y831, .long y825]) (h' := v814.2) (n' := (n + 2)) C (fun hj832 => ?_) ?_
      · have hr := er833
        refine rr_if_le (tgt := 1885) C dL_law_1869 (by decide) (fun c830 => ?_) (fun c830 => ?_)
        · replace hr := (if_pos c830).symm.trans hr
          refine rr_lload C dL_law_1885 rfl ?_
          refine rr_iload C dL_law_1887 rfl ?_
          refine rr_i2l C dL_law_1889 ?_
          refine rr_lmul C dL_law_1890 ?_
          refine rr_ldc2 C dL_law_1891 ct_L_116 ?_
          refine rr_ldiv C dL_law_1894 (by decide) ?_
          cases hr
          exact rr_keep [false, true, true, true, true, true, true, true, true, true, true, true, true, true, true, true, true, true, false, false, false, true, true, true, true, true, true, true, true, true, true, true, false, true, false, false, false, false, true, false, true, false, true, false, false, false, false, false, false, false, false, false, false, false, false, false, false, false, false, false, false, false, false, false, false, false, false, false, false, false, false, false, false] hj832
        · replace hr := (if_neg c830).symm.trans hr
          refine rr_lload C dL_law_1872 rfl ?_
          refine rr_iload C dL_law_1874 rfl ?_
          refine rr_i2l C dL_law_1876 ?_
          refine rr_lmul C dL_law_1877 ?_
          refine rr_ldc2 C dL_law_1878 ct_L_116 ?_
          refine rr_ldiv C dL_law_1881 (by decide) ?_
          refine rr_goto (tgt := 1895) C dL_law_1882 (by decide) ?_
          cases hr
          exact rr_keep [false, true, true, true, true, true, true, true, true, true, true, true, true, true, true, true, true, true, false, false, false, true, true, true, true, true, true, true, true, true, true, true, false, true, false, false, false, false, true, false, true, false, true, false, false, false, false, false, false, false, false, false, false, false, false, false, false, false, false, false, false, false, false, false, false, false, false, false, false, false, false, false, false] hj832
      refine rr_lsub C dL_law_1895 ?_
      replace hr := Option.bind_eq_some_iff.mp hr
      obtain ⟨x834, e835, hr⟩ := hr
      refine rr_asJ C e835 ?_
      refine rr_lstore C dL_law_1896 (by decide) ?_
      show WW W0 G 73 _ _ _ 1898 [none, some (.ref l1), some (.int l2), some (.int l3), some (.int l4), some (.int l5), some (.int l6), some (.int l7), some (.int l8), some (.int l9), some (.int l10), some (.int l11), some (.int l12), some (.int l13), some (.int l14), some (.int l15), some (.int l16), some (.int l17), none, none, none, some (.ref l21), some (.ref l22), some (.ref l23), some (.ref l24), some (.ref l25), some (.ref l26), some (.ref l27), some (.int l28), some (.ref l29), some (.int l30), some (.long l31), none, some (.ref l33), some (.long x834), none, none, none, some (.long y734), none, some (.long x748), none, some (.int l42), none, none, none, none, none, none, none, none, none, none, none, none, none, none, none, none, none, none, none, none, none, none, none, none, none, none, none, none, none, none] [] v814.2 (n + 2) _ _
      refine rr_lconst (v := 0) C dL_law_1898 (by decide) ?_
      refine rr_lstore C dL_law_1899 (by decide) ?_
      show WW W0 G 73 _ _ _ 1901 [none, some (.ref l1), some (.int l2), some (.int l3), some (.int l4), some (.int l5), some (.int l6), some (.int l7), some (.int l8), some (.int l9), some (.int l10), some (.int l11), some (.int l12), some (.int l13), some (.int l14), some (.int l15), some (.int l16), some (.int l17), none, none, none, some (.ref l21), some (.ref l22), some (.ref l23), some (.ref l24), some (.ref l25), some (.ref l26), some (.ref l27), some (.int l28), some (.ref l29), some (.int l30), some (.long l31), none, some (.ref l33), some (.long x834), none, some (.long 0), none, some (.long y734), none, some (.long x748), none, some (.int l42), none, none, none, none, none, none, none, none, none, none, none, none, none, none, none, none, none, none, none, none, none, none, none, none, none, none, none, none, none, none] [] v814.2 (n + 2) _ _
      refine rr_aload C dL_law_1901 rfl ?_
      refine rr_iload C dL_law_1903 rfl ?_
      replace hr := Option.bind_eq_some_iff.mp hr
      obtain ⟨v836, e837, hr⟩ := hr
      refine rr_ldI C dL_law_1905 e837 ?_
      replace hr := Option.bind_eq_some_iff.mp hr
      obtain ⟨y839, er841, hr⟩ := hr
      refine rr_join0 (pc' := 2011) (L' := [none, some (.ref l1), some (.int l2), some (.int l3), some (.int l4), some (.int l5), some (.int l6), some (.int l7), some (.int l8), some (.int l9), some (.int l10), some (.int l11), some (.int l12), some (.int l13), some (.int l14), some (.int l15), some (.int l16), some (.int l17), none, none, none, some (.ref l21), some (.ref l22), some (.ref l23), some (.ref l24), some (.ref l25), some (.ref l26), some (.ref l27), some (.int l28), some (.ref l29), some (.int l30), some (.long l31), none, some (.ref l33), some (.long x834), none, some (.long y839), none, some (.long y734), none, some (.long x748), none, some (.int l42), none, none, none, none, none, none, none, none, none, none, none, none, none, none, none, none, none, none, none, none, none, none, none, none, none, none, none, none, none, none]) (st' := []) (h' := v814.2) (n' := (n + 2)) C (fun hj840 => ?_) ?_
      · have hr := er841
        refine rr_if_lt (tgt := 2011) C dL_law_1906 (by decide) (fun c838 => ?_) (fun c838 => ?_)
        · replace hr := (if_pos c838).symm.trans hr
          cases hr
          exact rr_keep [false, true, true, true, true, true, true, true, true, true, true, true, true, true, true, true, true, true, false, false, false, true, true, true, true, true, true, true, true, true, true, true, false, true, true, false, true, false, true, false, true, false, true, false, false, false, false, false, false, false, false, false, false, false, false, false, false, false, false, false, false, false, false, false, false, false, false, false, false, false, false, false, false] hj840
        · replace hr := (if_neg c838).symm.trans hr
          refine rr_iload C dL_law_1909 rfl ?_
          replace hr := Option.bind_eq_some_iff.mp hr
          obtain ⟨y843, er845, hr⟩ := hr
          refine rr_join0 (pc' := 1935) (L' := [none, some (.ref l1), some (.int l2), some (.int l3), some (.int l4), some (.int l5), some (.int l6), some (.int l7), some (.int l8), some (.int l9), some (.int l10), some (.int l11), some (.int l12), some (.int l13), some (.int l14), some (.int l15), some (.int l16), some (.int l17), none, none, none, some (.ref l21), some (.ref l22), some (.ref l23), some (.ref l24), some (.ref l25), some (.ref l26), some (.ref l27), some (.int l28), some (.ref l29), some (.int l30), some (.long l31), none, some (.ref l33), some (.long x834), none, none, none, some (.long y734), none, some (.long x748), none, some (.int l42), none, none, none, none, none, none, none, none, none, none, none, none, none, none, none, none, none, none, none, none, none, none, none, none, none, none, none, none, none, none]) (st' := [.long y843]) (h' := v814.2) (n' := (n + 2)) C (fun hj844 => ?_) ?_
          · have hr := er845
            refine rr_if_eq (tgt := 1926) C dL_law_1911 (by decide) (fun c842 => ?_) (fun c842 => ?_)
            · replace hr := (if_pos c842).symm.trans hr
              refine rr_aload C dL_law_1926 rfl ?_
              refine rr_iload C dL_law_1928 rfl ?_
              replace hr := Option.bind_eq_some_iff.mp hr
              obtain ⟨v846, e847, hr⟩ := hr
              refine rr_ldI C dL_law_1930 e847 ?_
              refine rr_iload C dL_law_1931 rfl ?_
              refine rr_isub C dL_law_1933 ?_
              refine rr_i2l C dL_law_1934 ?_
              cases hr
              exact rr_keep [false, true, true, true, true, true, true, true, true, true, true, true, true, true, true, true, true, true, false, false, false, true, true, true, true, true, true, true, true, true, true, true, false, true, true, false, false, false, true, false, true, false, true, false, false, false, false, false, false, false, false, false, false, false, false, false, false, false, false, false, false, false, false, false, false, false, false, false, false, false, false, false, false] hj844
            · replace hr := (if_neg c842).symm.trans hr
              refine rr_iload C dL_law_1914 rfl ?_
              refine rr_aload C dL_law_1916 rfl ?_
              refine rr_iload C dL_law_1918 rfl ?_
              replace hr := Option.bind_eq_some_iff.mp hr
              obtain ⟨v848, e849, hr⟩ := hr
              refine rr_ldI C dL_law_1920 e849 ?_
              refine rr_isub C dL_law_1921 ?_
              refine rr_i2l C dL_law_1922 ?_
              refine rr_goto (tgt := 1935) C dL_law_1923 (by decide) ?_
              cases hr
              exact rr_keep [false, true, true, true, true, true, true, true, true, true, true, true, true, true, true, true, true, true, false, false, false, true, true, true, true, true, true, true, true, true, true, true, false, true, true, false, false, false, true, false, true, false, true, false, false, false, false, false, false, false, false, false, false, false, false, false, false, false, false, false, false, false, false, false, false, false, false, false, false, false, false, false, false] hj844
          refine rr_lstore C dL_law_1935 (by decide) ?_
          show WW W0 G 73 _ _ _ 1937 [none, some (.ref l1), some (.int l2), some (.int l3), some (.int l4), some (.int l5), some (.int l6), some (.int l7), some (.int l8), some (.int l9), some (.int l10), some (.int l11), some (.int l12), some (.int l13), some (.int l14), some (.int l15), some (.int l16), some (.int l17), none, none, none, some (.ref l21), some (.ref l22), some (.ref l23), some (.ref l24), some (.ref l25), some (.ref l26), some (.ref l27), some (.int l28), some (.ref l29), some (.int l30), some (.long l31), none, some (.ref l33), some (.long x834), none, none, none, some (.long y734), none, some (.long x748), none, some (.int l42), none, none, none, none, none, none, none, none, none, none, none, none, none, none, none, none, none, none, none, none, none, none, none, none, some (.long y843), none, none, none, none, none] [] v814.2 (n + 2) _ _
          refine rr_lload C dL_law_1937 rfl ?_
          refine rr_lconst (v := 0) C dL_law_1939 (by decide) ?_
          refine rr_lcmp C dL_law_1940 ?_
          replace hr := Option.bind_eq_some_iff.mp hr
          obtain ⟨y851, er853, hr⟩ := hr
          refine rr_join0 (pc' := 1952) (L' := [none, some (.ref l1), some (.int l2), some (.int l3), some (.int l4), some (.int l5), some (.int l6), some (.int l7), some (.int l8), some (.int l9), some (.int l10), some (.int l11), some (.int l12), some (.int l13), some (.int l14), some (.int l15), some (.int l16), some (.int l17), none, none, none, some (.ref l21), some (.ref l22), some (.ref l23), some (.ref l24), some (.ref l25), some (.ref l26), some (.ref l27), some (.int l28), some (.ref l29), some (.int l30), some (.long l31), none, some (.ref l33), some (.long x834), none, none, none, some (.long y734), none, some (.long x748), none, some (.int l42), none, none, none, none, none, none, none, none, none, none, none, none, none, none, none, none, none, none, none, none, none, none, none, none, some (.long y843), none, none, none, none, none]) (st' := [.long y851]) (h' := v814.2) (n' := (n + 2)) C (fun hj852 => ?_) ?_
          · have hr := er853
            refine rr_if_ge (tgt := 1950) C dL_law_1941 (by decide) (fun c850 => ?_) (fun c850 => ?_)
            · replace hr := (if_pos c850).symm.trans hr
              refine rr_lload C dL_law_1950 rfl ?_
              cases hr
              exact rr_keep [false, true, true, true, true, true, true, true, true, true, true, true, true, true, true, true, true, true, false, false, false, true, true, true, true, true, true, true, true, true, true, true, false, true, true, false, false, false, true, false, true, false, true, false, false, false, false, false, false, false, false, false, false, false, false, false, false, false, false, false, false, false, false, false, false, false, false, true, false, false, false, false, false] hj852
            · replace hr := (if_neg c850).symm.trans hr
              refine rr_lload C dL_law_1944 rfl ?_
              refine rr_lneg C dL_law_1946 ?_
              refine rr_goto (tgt := 1952) C dL_law_1947 (by decide) ?_
              cases hr
              exact rr_keep [false, true, true, true, true, true, true, true, true, true, true, true, true, true, true, true, true, true, false, false, false, true, true, true, true, true, true, true, true, true, true, true, false, true, true, false, false, false, true, false, true, false, true, false, false, false, false, false, false, false, false, false, false, false, false, false, false, false, false, false, false, false, false, false, false, false, false, true, false, false, false, false, false] hj852
          refine rr_iload C dL_law_1952 rfl ?_
          refine rr_i2l C dL_law_1954 ?_
          refine rr_lsub C dL_law_1955 ?_
          replace hr := Option.bind_eq_some_iff.mp hr
          obtain ⟨x854, e855, hr⟩ := hr
          refine rr_asJ C e855 ?_
          refine rr_lstore C dL_law_1956 (by decide) ?_
          show WW W0 G 73 _ _ _ 1958 [none, some (.ref l1), some (.int l2), some (.int l3), some (.int l4), some (.int l5), some (.int l6), some (.int l7), some (.int l8), some (.int l9), some (.int l10), some (.int l11), some (.int l12), some (.int l13), some (.int l14), some (.int l15), some (.int l16), some (.int l17), none, none, none, some (.ref l21), some (.ref l22), some (.ref l23), some (.ref l24), some (.ref l25), some (.ref l26), some (.ref l27), some (.int l28), some (.ref l29), some (.int l30), some (.long l31), none, some (.ref l33), some (.long x834), none, none, none, some (.long y734), none, some (.long x748), none, some (.int l42), none, none, none, none, none, none, none, none, none, none, none, none, none, none, none, none, none, none, none, none, none, none, none, none, some (.long y843), none, some (.long x854), none, none, none] [] v814.2 (n + 2) _ _
          refine rr_lload C dL_law_1958 rfl ?_
          refine rr_lconst (v := 0) C dL_law_1960 (by decide) ?_
          refine rr_lcmp C dL_law_1961 ?_
          replace hr := Option.bind_eq_some_iff.mp hr
          obtain ⟨y857, er859, hr⟩ := hr
          refine rr_join0 (pc' := 1968) (L' := [none, some (.ref l1), some (.int l2), some (.int l3), some (.int l4), some (.int l5), some (.int l6), some (.int l7), some (.int l8), some (.int l9), some (.int l10), some (.int l11), some (.int l12), some (.int l13), some (.int l14), some (.int l15), some (.int l16), some (.int l17), none, none, none, some (.ref l21), some (.ref l22), some (.ref l23), some (.ref l24), some (.ref l25), some (.ref l26), some (.ref l27), some (.int l28), some (.ref l29), some (.int l30), some (.long l31), none, some (.ref l33), some (.long x834), none, none, none, some (.long y734), none, some (.long x748), none, some (.int l42), none, none, none, none, none, none, none, none, none, none, none, none, none, none, none, none, none, none, none, none, none, none, none, none, some (.long y843), none, some (.long y857), none, none, none]) (st' := []) (h' := v814.2) (n' := (n + 2)) C (fun hj858 => ?_) ?_
          · have hr := er859
            refine rr_if_ge (tgt := 1968) C dL_law_1962 (by decide) (fun c856 => ?_) (fun c856 => ?_)
            · replace hr := (if_pos c856).symm.trans hr
              cases hr
              exact rr_keep [false, true, true, true, true, true, true, true, true, true, true, true, true, true, true, true, true, true, false, false, false, true, true, true, true, true, true, true, true, true, true, true, false, true, true, false, false, false, true, false, true, false, true, false, false, false, false, false, false, false, false, false, false, false, false, false, false, false, false, false, false, false, false, false, false, false, false, true, false, true, false, false, false] hj858
            · replace hr := (if_neg c856).symm.trans hr
              refine rr_lconst (v := 0) C dL_law_1965 (by decide) ?_
              refine rr_lstore C dL_law_1966 (by decide) ?_
              show WW W0 G 73 _ _ _ 1968 [none, some (.ref l1), some (.int l2), some (.int l3), some (.int l4), some (.int l5), some (.int l6), some (.int l7), some (.int l8), some (.int l9), some (.int l10), some (.int l11), some (.int l12), some (.int l13), some (.int l14), some (.int l15), some (.int l16), some (.int l17), none, none, none, some (.ref l21), some (.ref l22), some (.ref l23), some (.ref l24), some (.ref l25), some (.ref l26), some (.ref l27), some (.int l28), some (.ref l29), some (.int l30), some (.long l31), none, some (.ref l33), some (.long x834), none, none, none, some (.long y734), none, some (.long x748), none, some (.int l42), none, none, none, none, none, none, none, none, none, none, none, none, none, none, none, none, none, none, none, none, none, none, none, none, some (.long y843), none, some (.long 0), none, none, none] [] v814.2 (n + 2) _ _
              cases hr
              exact rr_keep [false, true, true, true, true, true, true, true, true, true, true, true, true, true, true, true, true, true, false, false, false, true, true, true, true, true, true, true, true, true, true, true, false, true, true, false, false, false, true, false, true, false, true, false, false, false, false, false, false, false, false, false, false, false, false, false, false, false, false, false, false, false, false, false, false, false, false, true, false, true, false, false, false] hj858
          refine rr_lload C dL_law_1968 rfl ?_
          refine rr_iload C dL_law_1970 rfl ?_
          refine rr_i2l C dL_law_1972 ?_
          by_cases z860 : (Int32.toInt64 l12) = 0
          · replace hr := (if_pos z860).symm.trans hr
            cases hr
          replace hr := (if_neg z860).symm.trans hr
          refine rr_ldiv C dL_law_1973 z860 ?_
          refine rr_iload C dL_law_1974 rfl ?_
          refine rr_i2l C dL_law_1976 ?_
          refine rr_lmul C dL_law_1977 ?_
          replace hr := Option.bind_eq_some_iff.mp hr
          obtain ⟨x861, e862, hr⟩ := hr
          refine rr_asJ C e862 ?_
          refine rr_lstore C dL_law_1978 (by decide) ?_
          show WW W0 G 73 _ _ _ 1980 [none, some (.ref l1), some (.int l2), some (.int l3), some (.int l4), some (.int l5), some (.int l6), some (.int l7), some (.int l8), some (.int l9), some (.int l10), some (.int l11), some (.int l12), some (.int l13), some (.int l14), some (.int l15), some (.int l16), some (.int l17), none, none, none, some (.ref l21), some (.ref l22), some (.ref l23), some (.ref l24), some (.ref l25), some (.ref l26), some (.ref l27), some (.int l28), some (.ref l29), some (.int l30), some (.long l31), none, some (.ref l33), some (.long x834), none, none, none, some (.long y734), none, some (.long x748), none, some (.int l42), none, none, none, none, none, none, none, none, none, none, none, none, none, none, none, none, none, none, none, none, none, none, none, none, some (.long y843), none, some (.long y857), none, some (.long x861), none] [] v814.2 (n + 2) _ _
          refine rr_lload C dL_law_1980 rfl ?_
          refine rr_iload C dL_law_1982 rfl ?_
          refine rr_i2l C dL_law_1984 ?_
          refine rr_lcmp C dL_law_1985 ?_
          replace hr := Option.bind_eq_some_iff.mp hr
          obtain ⟨y864, er866, hr⟩ := hr
          refine rr_join0 (pc' := 1994) (L' := [none, some (.ref l1), some (.int l2), some (.int l3), some (.int l4), some (.int l5), some (.int l6), some (.int l7), some (.int l8), some (.int l9), some (.int l10), some (.int l11), some (.int l12), some (.int l13), some (.int l14), some (.int l15), some (.int l16), some (.int l17), none, none, none, some (.ref l21), some (.ref l22), some (.ref l23), some (.ref l24), some (.ref l25), some (.ref l26), some (.ref l27), some (.int l28), some (.ref l29), some (.int l30), some (.long l31), none, some (.ref l33), some (.long x834), none, none, none, some (.long y734), none, some (.long x748), none, some (.int l42), none, none, none, none, none, none, none, none, none, none, none, none, none, none, none, none, none, none, none, none, none, none, none, none, some (.long y843), none, none, none, some (.long y864), none]) (st' := []) (h' := v814.2) (n' := (n + 2)) C (fun hj865 => ?_) ?_
          · have hr := er866
            refine rr_if_le (tgt := 1994) C dL_law_1986 (by decide) (fun c863 => ?_) (fun c863 => ?_)
            · replace hr := (if_pos c863).symm.trans hr
              cases hr
              exact rr_keep [false, true, true, true, true, true, true, true, true, true, true, true, true, true, true, true, true, true, false, false, false, true, true, true, true, true, true, true, true, true, true, true, false, true, true, false, false, false, true, false, true, false, true, false, false, false, false, false, false, false, false, false, false, false, false, false, false, false, false, false, false, false, false, false, false, false, false, true, false, false, false, true, false] hj865
            · replace hr := (if_neg c863).symm.trans hr
              refine rr_iload C dL_law_1989 rfl ?_
              refine rr_i2l C dL_law_1991 ?_
              replace hr := Option.bind_eq_some_iff.mp hr
              obtain ⟨x867, e868, hr⟩ := hr
              refine rr_asJ C e868 ?_
              refine rr_lstore C dL_law_1992 (by decide) ?_
              show WW W0 G 73 _ _ _ 1994 [none, some (.ref l1), some (.int l2), some (.int l3), some (.int l4), some (.int l5), some (.int l6), some (.int l7), some (.int l8), some (.int l9), some (.int l10), some (.int l11), some (.int l12), some (.int l13), some (.int l14), some (.int l15), some (.int l16), some (.int l17), none, none, none, some (.ref l21), some (.ref l22), some (.ref l23), some (.ref l24), some (.ref l25), some (.ref l26), some (.ref l27), some (.int l28), some (.ref l29), some (.int l30), some (.long l31), none, some (.ref l33), some (.long x834), none, none, none, some (.long y734), none, some (.long x748), none, some (.int l42), none, none, none, none, none, none, none, none, none, none, none, none, none, none, none, none, none, none, none, none, none, none, none, none, some (.long y843), none, some (.long y857), none, some (.long x867), none] [] v814.2 (n + 2) _ _
              cases hr
              exact rr_keep [false, true, true, true, true, true, true, true, true, true, true, true, true, true, true, true, true, true, false, false, false, true, true, true, true, true, true, true, true, true, true, true, false, true, true, false, false, false, true, false, true, false, true, false, false, false, false, false, false, false, false, false, false, false, false, false, false, false, false, false, false, false, false, false, false, false, false, true, false, false, false, true, false] hj865
          refine rr_lload C dL_law_1994 rfl ?_
          refine rr_lconst (v := 0) C dL_law_1996 (by decide) ?_
          refine rr_lcmp C dL_law_1997 ?_
          replace hr := Option.bind_eq_some_iff.mp hr
          obtain ⟨y870, er872, hr⟩ := hr
          refine rr_join0 (pc' := 2009) (L' := [none, some (.ref l1), some (.int l2), some (.int l3), some (.int l4), some (.int l5), some (.int l6), some (.int l7), some (.int l8), some (.int l9), some (.int l10), some (.int l11), some (.int l12), some (.int l13), some (.int l14), some (.int l15), some (.int l16), some (.int l17), none, none, none, some (.ref l21), some (.ref l22), some (.ref l23), some (.ref l24), some (.ref l25), some (.ref l26), some (.ref l27), some (.int l28), some (.ref l29), some (.int l30), some (.long l31), none, some (.ref l33), some (.long x834), none, none, none, some (.long y734), none, some (.long x748), none, some (.int l42), none, none, none, none, none, none, none, none, none, none, none, none, none, none, none, none, none, none, none, none, none, none, none, none, none, none, none, none, none, none]) (st' := [.long y870]) (h' := v814.2) (n' := (n + 2)) C (fun hj871 => ?_) ?_
          · have hr := er872
            refine rr_if_ge (tgt := 2007) C dL_law_1998 (by decide) (fun c869 => ?_) (fun c869 => ?_)
            · replace hr := (if_pos c869).symm.trans hr
              refine rr_lload C dL_law_2007 rfl ?_
              cases hr
              exact rr_keep [false, true, true, true, true, true, true, true, true, true, true, true, true, true, true, true, true, true, false, false, false, true, true, true, true, true, true, true, true, true, true, true, false, true, true, false, false, false, true, false, true, false, true, false, false, false, false, false, false, false, false, false, false, false, false, false, false, false, false, false, false, false, false, false, false, false, false, false, false, false, false, false, false] hj871
            · replace hr := (if_neg c869).symm.trans hr
              refine rr_lload C dL_law_2001 rfl ?_
              refine rr_lneg C dL_law_2003 ?_
              refine rr_goto (tgt := 2009) C dL_law_2004 (by decide) ?_
              cases hr
              exact rr_keep [false, true, true, true, true, true, true, true, true, true, true, true, true, true, true, true, true, true, false, false, false, true, true, true, true, true, true, true, true, true, true, true, false, true, true, false, false, false, true, false, true, false, true, false, false, false, false, false, false, false, false, false, false, false, false, false, false, false, false, false, false, false, false, false, false, false, false, false, false, false, false, false, false] hj871
          refine rr_lstore C dL_law_2009 (by decide) ?_
          show WW W0 G 73 _ _ _ 2011 [none, some (.ref l1), some (.int l2), some (.int l3), some (.int l4), some (.int l5), some (.int l6), some (.int l7), some (.int l8), some (.int l9), some (.int l10), some (.int l11), some (.int l12), some (.int l13), some (.int l14), some (.int l15), some (.int l16), some (.int l17), none, none, none, some (.ref l21), some (.ref l22), some (.ref l23), some (.ref l24), some (.ref l25), some (.ref l26), some (.ref l27), some (.int l28), some (.ref l29), some (.int l30), some (.long l31), none, some (.ref l33), some (.long x834), none, some (.long y870), none, some (.long y734), none, some (.long x748), none, some (.int l42), none, none, none, none, none, none, none, none, none, none, none, none, none, none, none, none, none, none, none, none, none, none, none, none, none, none, none, none, none, none] [] v814.2 (n + 2) _ _
          cases hr
          exact rr_keep [false, true, true, true, true, true, true, true, true, true, true, true, true, true, true, true, true, true, false, false, false, true, true, true, true, true, true, true, true, true, true, true, false, true, true, false, true, false, true, false, true, false, true, false, false, false, false, false, false, false, false, false, false, false, false, false, false, false, false, false, false, false, false, false, false, false, false, false, false, false, false, false, false] hj840
      refine rr_lload C dL_law_2011 rfl ?_
      refine rr_iload_n (i := 3) C dL_law_2013 rfl rfl ?_
      refine rr_i2l C dL_law_2014 ?_
      refine rr_lmul C dL_law_2015 ?_
      refine rr_ldc2 C dL_law_2016 ct_L_116 ?_
      refine rr_ldiv C dL_law_2019 (by decide) ?_
      refine rr_lload C dL_law_2020 rfl ?_
      refine rr_iload C dL_law_2022 rfl ?_
      refine rr_i2l C dL_law_2024 ?_
      refine rr_lmul C dL_law_2025 ?_
      refine rr_ldc2 C dL_law_2026 ct_L_116 ?_
      refine rr_ldiv C dL_law_2029 (by decide) ?_
      refine rr_lsub C dL_law_2030 ?_
      replace hr := Option.bind_eq_some_iff.mp hr
      obtain ⟨x873, e874, hr⟩ := hr
      refine rr_asJ C e874 ?_
      refine rr_lstore C dL_law_2031 (by decide) ?_
      show WW W0 G 73 _ _ _ 2033 [none, some (.ref l1), some (.int l2), some (.int l3), some (.int l4), some (.int l5), some (.int l6), some (.int l7), some (.int l8), some (.int l9), some (.int l10), some (.int l11), some (.int l12), some (.int l13), some (.int l14), some (.int l15), some (.int l16), some (.int l17), none, none, none, some (.ref l21), some (.ref l22), some (.ref l23), some (.ref l24), some (.ref l25), some (.ref l26), some (.ref l27), some (.int l28), some (.ref l29), some (.int l30), some (.long l31), none, some (.ref l33), some (.long x834), none, some (.long y839), none, some (.long y734), none, some (.long x748), none, some (.int l42), none, none, none, none, none, none, none, none, none, none, none, none, none, none, none, none, none, none, none, none, none, none, none, none, some (.long x873), none, none, none, none, none] [] v814.2 (n + 2) _ _
      refine rr_iconst (v := 0) C dL_law_2033 (by decide) ?_
      refine rr_istore C dL_law_2034 (by decide) ?_
      show WW W0 G 73 _ _ _ 2036 [none, some (.ref l1), some (.int l2), some (.int l3), some (.int l4), some (.int l5), some (.int l6), some (.int l7), some (.int l8), some (.int l9), some (.int l10), some (.int l11), some (.int l12), some (.int l13), some (.int l14), some (.int l15), some (.int l16), some (.int l17), none, none, none, some (.ref l21), some (.ref l22), some (.ref l23), some (.ref l24), some (.ref l25), some (.ref l26), some (.ref l27), some (.int l28), some (.ref l29), some (.int l30), some (.long l31), none, some (.ref l33), some (.long x834), none, some (.long y839), none, some (.long y734), none, some (.long x748), none, some (.int l42), none, none, none, none, none, none, none, none, none, none, none, none, none, none, none, none, none, none, none, none, none, none, none, none, some (.long x873), none, some (.int 0), none, none, none] [] v814.2 (n + 2) _ _
      replace hr := Option.bind_eq_some_iff.mp hr
      obtain ⟨v886, e887, hr⟩ := hr
      refine rr_keep [false, true, true, true, true, true, true, true, true, true, true, true, true, true, true, true, true, true, false, false, false, true, true, true, true, true, true, true, true, true, true, false, false, true, true, false, true, false, true, false, true, false, true, false, false, false, false, false, false, false, false, false, false, false, false, false, false, false, false, false, false, false, false, false, false, false, false, true, false, true, false, false, false] (w_L_law_2036 C (by omega) l1 l2 l3 l4 l5 l6 l7 l8 l9 l10 l11 l12 l13 l14 l15 l16 l17 l21 l22 l23 l24 l25 l26 l27 l28 l29 l30 l33 x834 y839 y734 x748 l42 K x873 0 e887 ?_)
      show WW W0 G 73 _ _ _ 2073 [none, some (.ref l1), some (.int l2), some (.int l3), some (.int l4), some (.int l5), some (.int l6), some (.int l7), some (.int l8), some (.int l9), some (.int l10), some (.int l11), some (.int l12), some (.int l13), some (.int l14), some (.int l15), some (.int l16), some (.int l17), none, none, none, some (.ref l21), some (.ref l22), some (.ref l23), some (.ref l24), some (.ref l25), some (.ref l26), some (.ref l27), some (.int l28), some (.ref l29), some (.int l30), none, none, some (.ref l33), some (.long x834), none, some (.long y839), none, some (.long y734), none, some (.long x748), none, some (.int l42), none, none, none, none, none, none, none, none, none, none, none, none, none, none, none, none, none, none, none, none, none, none, none, none, some (.long v886), none, none, none, none, none] [] v814.2 (n + 2) _ _
      refine rr_lload C dL_law_2073 rfl ?_
      refine rr_lstore C dL_law_2075 (by decide) ?_
      show WW W0 G 73 _ _ _ 2077 [none, some (.ref l1), some (.int l2), some (.int l3), some (.int l4), some (.int l5), some (.int l6), some (.int l7), some (.int l8), some (.int l9), some (.int l10), some (.int l11), some (.int l12), some (.int l13), some (.int l14), some (.int l15), some (.int l16), some (.int l17), none, none, none, some (.ref l21), some (.ref l22), some (.ref l23), some (.ref l24), some (.ref l25), some (.ref l26), some (.ref l27), some (.int l28), some (.ref l29), some (.int l30), some (.long v886), none, some (.ref l33), some (.long x834), none, some (.long y839), none, some (.long y734), none, some (.long x748), none, some (.int l42), none, none, none, none, none, none, none, none, none, none, none, none, none, none, none, none, none, none, none, none, none, none, none, none, some (.long v886), none, none, none, none, none] [] v814.2 (n + 2) _ _
      refine rr_iinc (v := l42 + 1) C dL_law_2077 rfl rfl ?_
      show WW W0 G 73 _ _ _ 2080 [none, some (.ref l1), some (.int l2), some (.int l3), some (.int l4), some (.int l5), some (.int l6), some (.int l7), some (.int l8), some (.int l9), some (.int l10), some (.int l11), some (.int l12), some (.int l13), some (.int l14), some (.int l15), some (.int l16), some (.int l17), none, none, none, some (.ref l21), some (.ref l22), some (.ref l23), some (.ref l24), some (.ref l25), some (.ref l26), some (.ref l27), some (.int l28), some (.ref l29), some (.int l30), some (.long v886), none, some (.ref l33), some (.long x834), none, some (.long y839), none, some (.long y734), none, some (.long x748), none, some (.int (l42 + 1)), none, none, none, none, none, none, none, none, none, none, none, none, none, none, none, none, none, none, none, none, none, none, none, none, some (.long v886), none, none, none, none, none] [] v814.2 (n + 2) _ _
      refine rr_goto (tgt := 1115) C dL_law_2080 (by decide) ?_
      refine rr_cut C (kc' := kc + 5 * k_) (ks' := ks + 993 * k_) (by omega) (by omega) ?_
      exact rr_keep [false, true, true, true, true, true, true, true, true, true, true, true, true, true, true, true, true, true, false, false, false, true, true, true, true, true, true, true, true, true, true, true, false, true, true, false, true, false, true, false, true, false, true, false, false, false, false, false, false, false, false, false, false, false, false, false, false, false, false, false, false, false, false, false, false, false, false, false, false, false, false, false, false] (ih_ _ _ _ _ _ _ _ (n + 2) (by omega) hr (fun q_ => hx0 (by omega)))
set_option maxRecDepth 100000 in
set_option maxHeartbeats 400000 in
theorem c_law_1112 {K : Nat} {nm_ : String} {W0 : mm_X} {G : mm_G} {Q_ : State → Prop} {h : mm_H} {n : Nat} (l2 : Int32) (l3 : Int32) (l4 : Int32) (l5 : Int32) (l6 : Int32) (l7 : Int32) (l8 : Int32) (l9 : Int32) (l10 : Int32) (l11 : Int32) (l12 : Int32) (l13 : Int32) (l14 : Int32) (l15 : Int32) (l16 : Int32) (l17 : Int32) (l21 : Nat) (l22 : Nat) (l23 : Nat) (l24 : Nat) (l25 : Nat) (l26 : Nat) (l27 : Nat) (l28 : Int32) (l29 : Nat) (l30 : Int32) (l31 : Int64) (l33 : Nat) (C : mm_C W0 G cL_law yL_law.cls 73 600000 7302250 (some .boolean) 300 nm_) (hn : 48 ≤ n) (hx0 : ∀ (L : List (Option Value)) (h : mm_H) (n kc ks : Nat), WW W0 G 73 600000 7302250 Q_ 2122 L [.int 1] h n kc ks) (hr : q_law_1112 K h n l2 l3 l4 l5 l6 l7 l8 l9 l10 l11 l12 l13 l14 l15 l16 l17 l21 l22 l23 l24 l25 l26 l27 l28 l29 l30 l31 l33 = some ()) : WW W0 G 73 600000 7302250 Q_ 1112 [none, some (.ref 48), some (.int l2), some (.int l3), some (.int l4), some (.int l5), some (.int l6), some (.int l7), some (.int l8), some (.int l9), some (.int l10), some (.int l11), some (.int l12), some (.int l13), some (.int l14), some (.int l15), some (.int l16), some (.int l17), none, none, none, some (.ref l21), some (.ref l22), some (.ref l23), some (.ref l24), some (.ref l25), some (.ref l26), some (.ref l27), some (.int l28), some (.ref l29), some (.int l30), some (.long l31), none, some (.ref l33), some (.long 0), none, some (.long 0), none, some (.long 0), none, some (.long 0), none, none, none, none, none, none, none, none, none, none, none, none, none, none, none, none, none, none, none, none, none, none, none, none, none, none, none, none, none, none, none, none] [] h n 599690 7243192 := by
  unfold q_law_1112 at hr
  refine rr_iconst (v := 0) C dL_law_1112 (by decide) ?_
  refine rr_istore C dL_law_1113 (by decide) ?_
  show WW W0 G 73 _ _ _ 1115 [none, some (.ref 48), some (.int l2), some (.int l3), some (.int l4), some (.int l5), some (.int l6), some (.int l7), some (.int l8), some (.int l9), some (.int l10), some (.int l11), some (.int l12), some (.int l13), some (.int l14), some (.int l15), some (.int l16), some (.int l17), none, none, none, some (.ref l21), some (.ref l22), some (.ref l23), some (.ref l24), some (.ref l25), some (.ref l26), some (.ref l27), some (.int l28), some (.ref l29), some (.int l30), some (.long l31), none, some (.ref l33), some (.long 0), none, some (.long 0), none, some (.long 0), none, some (.long 0), none, some (.int 0), none, none, none, none, none, none, none, none, none, none, none, none, none, none, none, none, none, none, none, none, none, none, none, none, none, none, none, none, none, none] [] h n _ _
  replace hr := Option.bind_eq_some_iff.mp hr
  obtain ⟨v888, e889, hr⟩ := hr
  refine rr_cut C (kc' := 599490 + 5 * 40) (ks' := 7203472 + 993 * 40) (by omega) (by omega) ?_
  refine rr_keep [false, true, true, true, true, true, true, true, true, true, true, true, true, true, true, true, true, true, false, false, false, true, true, true, true, true, true, true, true, true, true, true, false, true, true, false, true, false, true, false, true, false, true, false, false, false, false, false, false, false, false, false, false, false, false, false, false, false, false, false, false, false, false, false, false, false, false, false, false, false, false, false, false] (w_L_law_1115 (kc := 599490) (ks := 7203472) C 48 l2 l3 l4 l5 l6 l7 l8 l9 l10 l11 l12 l13 l14 l15 l16 l17 l21 l22 l23 l24 l25 l26 l27 l28 l29 l30 l33 40 l31 0 0 0 0 0 h n (by omega) e889 (fun b890 => ?_))
  show WW W0 G 73 _ _ _ 2083 [none, some (.ref 48), some (.int l2), none, none, none, none, none, none, none, none, none, none, none, none, none, none, none, none, none, none, none, none, none, none, none, none, none, none, none, some (.int l30), some (.long v888.1), none, none, none, none, none, none, none, none, none, none, none, none, none, none, none, none, none, none, none, none, none, none, none, none, none, none, none, none, none, none, none, none, none, none, none, none, none, none, none, none, none] [] v888.2.1 v888.2.2 _ _
  refine rr_aload_n (i := 1) C dL_law_2083 rfl rfl ?_
  refine rr_iconst (v := 0) C dL_law_2084 (by decide) ?_
  refine rr_iconst (v := 5) C dL_law_2085 (by decide) ?_
  replace hr := Option.bind_eq_some_iff.mp hr
  obtain ⟨u891, e892, hr⟩ := hr
  replace hr := Option.bind_eq_some_iff.mp hr
  obtain ⟨v893, e894, hr⟩ := hr
  refine rr_callVq (as := [.int 0, .int 5]) (st := []) (mc' := 0) (ms' := 0) C dL_law_2086 iv_L_124 (by decide) e892 rfl (Nat.le_of_ble_eq_true rfl) (c_X10_worth 48 0 5 (by omega) e894) (fun v_ h_ n_ q_ => ?_)
  obtain ⟨q1_, q2_, q3_⟩ := q_
  subst v_; subst h_; subst n_
  show WW W0 G 73 _ _ _ 2089 [none, some (.ref 48), some (.int l2), none, none, none, none, none, none, none, none, none, none, none, none, none, none, none, none, none, none, none, none, none, none, none, none, none, none, none, some (.int l30), some (.long v888.1), none, none, none, none, none, none, none, none, none, none, none, none, none, none, none, none, none, none, none, none, none, none, none, none, none, none, none, none, none, none, none, none, none, none, none, none, none, none, none, none, none] [.long v893.1] v893.2 v888.2.2 _ _
  refine rr_lload C dL_law_2089 rfl ?_
  refine rr_lcmp C dL_law_2091 ?_
  obtain ⟨c895, hr⟩ := ite_nn hr
  refine rr_if_ne (tgt := 2121) C dL_law_2092 (by decide) (fun q_ => absurd c895 q_) (fun _ => ?_)
  refine rr_aload_n (i := 1) C dL_law_2095 rfl rfl ?_
  refine rr_iconst (v := 1) C dL_law_2096 (by decide) ?_
  refine rr_iconst (v := 0) C dL_law_2097 (by decide) ?_
  refine rr_iload C dL_law_2098 rfl ?_
  replace hr := Option.bind_eq_some_iff.mp hr
  obtain ⟨u896, e897, hr⟩ := hr
  replace hr := Option.bind_eq_some_iff.mp hr
  obtain ⟨v898, e899, hr⟩ := hr
  refine rr_callVq (as := [.int 1, .int 0, .int l30]) (st := []) (mc' := 0) (ms' := 0) C dL_law_2100 iv_L_128 (by decide) e897 rfl (Nat.le_of_ble_eq_true rfl) (c_X10_revenue 48 1 0 l30 (by omega) e899) (fun v_ h_ n_ q_ => ?_)
  obtain ⟨q1_, q2_, q3_⟩ := q_
  subst v_; subst h_; subst n_
  show WW W0 G 73 _ _ _ 2103 [none, some (.ref 48), some (.int l2), none, none, none, none, none, none, none, none, none, none, none, none, none, none, none, none, none, none, none, none, none, none, none, none, none, none, none, some (.int l30), some (.long v888.1), none, none, none, none, none, none, none, none, none, none, none, none, none, none, none, none, none, none, none, none, none, none, none, none, none, none, none, none, none, none, none, none, none, none, none, none, none, none, none, none, none] [.long v898.1] v898.2 v888.2.2 _ _
  refine rr_ldc2 C dL_law_2103 ct_L_148 ?_
  refine rr_iload_n (i := 2) C dL_law_2106 rfl rfl ?_
  refine rr_i2l C dL_law_2107 ?_
  refine rr_lmul C dL_law_2108 ?_
  refine rr_ldc2 C dL_law_2109 ct_L_118 ?_
  refine rr_ldiv C dL_law_2112 (by decide) ?_
  refine rr_lcmp C dL_law_2113 ?_
  obtain ⟨c900, hr⟩ := ite_nn hr
  refine rr_if_ne (tgt := 2121) C dL_law_2114 (by decide) (fun q_ => absurd c900 q_) (fun _ => ?_)
  refine rr_iconst (v := 1) C dL_law_2117 (by decide) ?_
  refine rr_goto (tgt := 2122) C dL_law_2118 (by decide) ?_
  exact hx0 _ _ _ _ _
set_option maxRecDepth 100000 in
set_option maxHeartbeats 400000 in
theorem c_law_1056 {K : Nat} {nm_ : String} {W0 : mm_X} {G : mm_G} {Q_ : State → Prop} {h : mm_H} {n : Nat} (l2 : Int32) (l3 : Int32) (l4 : Int32) (l5 : Int32) (l6 : Int32) (l7 : Int32) (l8 : Int32) (l9 : Int32) (l10 : Int32) (l11 : Int32) (l12 : Int32) (l13 : Int32) (l14 : Int32) (l15 : Int32) (l16 : Int32) (l17 : Int32) (l19 : Int64) (l21 : Nat) (l22 : Nat) (l23 : Nat) (l24 : Nat) (l25 : Nat) (l26 : Nat) (l27 : Nat) (l28 : Int32) (l29 : Nat) (C : mm_C W0 G cL_law yL_law.cls 73 600000 7302250 (some .boolean) 300 nm_) (hn : 48 ≤ n) (hx0 : ∀ (L : List (Option Value)) (h : mm_H) (n kc ks : Nat), WW W0 G 73 600000 7302250 Q_ 2122 L [.int 1] h n kc ks) (hr : q_law_1056 K h n l2 l3 l4 l5 l6 l7 l8 l9 l10 l11 l12 l13 l14 l15 l16 l17 l19 l21 l22 l23 l24 l25 l26 l27 l28 l29 = some ()) : WW W0 G 73 600000 7302250 Q_ 1056 [none, some (.ref 48), some (.int l2), some (.int l3), some (.int l4), some (.int l5), some (.int l6), some (.int l7), some (.int l8), some (.int l9), some (.int l10), some (.int l11), some (.int l12), some (.int l13), some (.int l14), some (.int l15), some (.int l16), some (.int l17), none, some (.long l19), none, some (.ref l21), some (.ref l22), some (.ref l23), some (.ref l24), some (.ref l25), some (.ref l26), some (.ref l27), some (.int l28), some (.ref l29), none, none, none, none, none, none, none, none, none, none, none, none, none, none, none, none, none, none, none, none, none, none, none, none, none, none, none, none, none, none, none, none, none, none, none, none, none, none, none, none, none, none, none] [] h n 599691 7243256 := by
  unfold q_law_1056 at hr
  refine rr_aload_n (i := 1) C dL_law_1056 rfl rfl ?_
  refine rr_iconst (v := 0) C dL_law_1057 (by decide) ?_
  replace hr := Option.bind_eq_some_iff.mp hr
  obtain ⟨u606, e607, hr⟩ := hr
  replace hr := Option.bind_eq_some_iff.mp hr
  obtain ⟨v608, e609, hr⟩ := hr
  refine rr_callVq (as := [.int 0]) (st := []) (mc' := 0) (ms' := 0) C dL_law_1058 iv_L_106 (by decide) e607 rfl (Nat.le_of_ble_eq_true rfl) (c_X10_count 48 0 (by omega) e609) (fun v_ h_ n_ q_ => ?_)
  obtain ⟨q1_, q2_, q3_⟩ := q_
  subst v_; subst h_; subst n_
  show WW W0 G 73 _ _ _ 1061 [none, some (.ref 48), some (.int l2), some (.int l3), some (.int l4), some (.int l5), some (.int l6), some (.int l7), some (.int l8), some (.int l9), some (.int l10), some (.int l11), some (.int l12), some (.int l13), some (.int l14), some (.int l15), some (.int l16), some (.int l17), none, some (.long l19), none, some (.ref l21), some (.ref l22), some (.ref l23), some (.ref l24), some (.ref l25), some (.ref l26), some (.ref l27), some (.int l28), some (.ref l29), none, none, none, none, none, none, none, none, none, none, none, none, none, none, none, none, none, none, none, none, none, none, none, none, none, none, none, none, none, none, none, none, none, none, none, none, none, none, none, none, none, none, none] [.int v608] h n _ _
  refine rr_istore C dL_law_1061 (by decide) ?_
  show WW W0 G 73 _ _ _ 1063 [none, some (.ref 48), some (.int l2), some (.int l3), some (.int l4), some (.int l5), some (.int l6), some (.int l7), some (.int l8), some (.int l9), some (.int l10), some (.int l11), some (.int l12), some (.int l13), some (.int l14), some (.int l15), some (.int l16), some (.int l17), none, some (.long l19), none, some (.ref l21), some (.ref l22), some (.ref l23), some (.ref l24), some (.ref l25), some (.ref l26), some (.ref l27), some (.int l28), some (.ref l29), some (.int v608), none, none, none, none, none, none, none, none, none, none, none, none, none, none, none, none, none, none, none, none, none, none, none, none, none, none, none, none, none, none, none, none, none, none, none, none, none, none, none, none, none, none] [] h n _ _
  refine rr_lload C dL_law_1063 rfl ?_
  refine rr_lstore C dL_law_1065 (by decide) ?_
  show WW W0 G 73 _ _ _ 1067 [none, some (.ref 48), some (.int l2), some (.int l3), some (.int l4), some (.int l5), some (.int l6), some (.int l7), some (.int l8), some (.int l9), some (.int l10), some (.int l11), some (.int l12), some (.int l13), some (.int l14), some (.int l15), some (.int l16), some (.int l17), none, some (.long l19), none, some (.ref l21), some (.ref l22), some (.ref l23), some (.ref l24), some (.ref l25), some (.ref l26), some (.ref l27), some (.int l28), some (.ref l29), some (.int v608), some (.long l19), none, none, none, none, none, none, none, none, none, none, none, none, none, none, none, none, none, none, none, none, none, none, none, none, none, none, none, none, none, none, none, none, none, none, none, none, none, none, none, none, none] [] h n _ _
  refine rr_bipush (v := 64) C dL_law_1067 (by decide) ?_
  refine rr_cut C (kc' := 599690 + 1) (ks' := 7243192 + 64) (by omega) (by omega) ?_
  replace hr := Option.bind_eq_some_iff.mp hr
  obtain ⟨h610, e611, hr⟩ := hr
  refine rr_newJq C dL_law_1069 ac_long (N := 64) (by decide) e611 ?_
  show WW W0 G 73 _ _ _ 1071 [none, some (.ref 48), some (.int l2), some (.int l3), some (.int l4), some (.int l5), some (.int l6), some (.int l7), some (.int l8), some (.int l9), some (.int l10), some (.int l11), some (.int l12), some (.int l13), some (.int l14), some (.int l15), some (.int l16), some (.int l17), none, some (.long l19), none, some (.ref l21), some (.ref l22), some (.ref l23), some (.ref l24), some (.ref l25), some (.ref l26), some (.ref l27), some (.int l28), some (.ref l29), some (.int v608), some (.long l19), none, none, none, none, none, none, none, none, none, none, none, none, none, none, none, none, none, none, none, none, none, none, none, none, none, none, none, none, none, none, none, none, none, none, none, none, none, none, none, none, none] [.ref n] h610 (n + 1) _ _
  refine rr_astore C dL_law_1071 (by decide) ?_
  show WW W0 G 73 _ _ _ 1073 [none, some (.ref 48), some (.int l2), some (.int l3), some (.int l4), some (.int l5), some (.int l6), some (.int l7), some (.int l8), some (.int l9), some (.int l10), some (.int l11), some (.int l12), some (.int l13), some (.int l14), some (.int l15), some (.int l16), some (.int l17), none, some (.long l19), none, some (.ref l21), some (.ref l22), some (.ref l23), some (.ref l24), some (.ref l25), some (.ref l26), some (.ref l27), some (.int l28), some (.ref l29), some (.int v608), some (.long l19), none, some (.ref n), none, none, none, none, none, none, none, none, none, none, none, none, none, none, none, none, none, none, none, none, none, none, none, none, none, none, none, none, none, none, none, none, none, none, none, none, none, none, none] [] h610 (n + 1) _ _
  refine rr_iconst (v := 0) C dL_law_1073 (by decide) ?_
  refine rr_istore C dL_law_1074 (by decide) ?_
  show WW W0 G 73 _ _ _ 1076 [none, some (.ref 48), some (.int l2), some (.int l3), some (.int l4), some (.int l5), some (.int l6), some (.int l7), some (.int l8), some (.int l9), some (.int l10), some (.int l11), some (.int l12), some (.int l13), some (.int l14), some (.int l15), some (.int l16), some (.int l17), none, some (.long l19), none, some (.ref l21), some (.ref l22), some (.ref l23), some (.ref l24), some (.ref l25), some (.ref l26), some (.ref l27), some (.int l28), some (.ref l29), some (.int v608), some (.long l19), none, some (.ref n), some (.int 0), none, none, none, none, none, none, none, none, none, none, none, none, none, none, none, none, none, none, none, none, none, none, none, none, none, none, none, none, none, none, none, none, none, none, none, none, none, none] [] h610 (n + 1) _ _
  replace hr := Option.bind_eq_some_iff.mp hr
  obtain ⟨v617, e618, hr⟩ := hr
  refine rr_keep [false, true, true, true, true, true, true, true, true, true, true, true, true, true, true, true, true, true, false, false, false, true, true, true, true, true, true, true, true, true, true, true, false, true, true, false, false, false, false, false, false, false, false, false, false, false, false, false, false, false, false, false, false, false, false, false, false, false, false, false, false, false, false, false, false, false, false, false, false, false, false, false, false] (w_L_law_1076 C (by omega) 48 l2 l3 l4 l5 l6 l7 l8 l9 l10 l11 l12 l13 l14 l15 l16 l17 l21 l22 l23 l24 l25 l26 l27 l28 l29 v608 l19 n K 0 h610 e618 ?_)
  show WW W0 G 73 _ _ _ 1100 [none, some (.ref 48), some (.int l2), some (.int l3), some (.int l4), some (.int l5), some (.int l6), some (.int l7), some (.int l8), some (.int l9), some (.int l10), some (.int l11), some (.int l12), some (.int l13), some (.int l14), some (.int l15), some (.int l16), some (.int l17), none, none, none, some (.ref l21), some (.ref l22), some (.ref l23), some (.ref l24), some (.ref l25), some (.ref l26), some (.ref l27), some (.int l28), some (.ref l29), some (.int v608), some (.long l19), none, some (.ref n), none, none, none, none, none, none, none, none, none, none, none, none, none, none, none, none, none, none, none, none, none, none, none, none, none, none, none, none, none, none, none, none, none, none, none, none, none, none, none] [] v617 (n + 1) _ _
  refine rr_lconst (v := 0) C dL_law_1100 (by decide) ?_
  refine rr_lstore C dL_law_1101 (by decide) ?_
  show WW W0 G 73 _ _ _ 1103 [none, some (.ref 48), some (.int l2), some (.int l3), some (.int l4), some (.int l5), some (.int l6), some (.int l7), some (.int l8), some (.int l9), some (.int l10), some (.int l11), some (.int l12), some (.int l13), some (.int l14), some (.int l15), some (.int l16), some (.int l17), none, none, none, some (.ref l21), some (.ref l22), some (.ref l23), some (.ref l24), some (.ref l25), some (.ref l26), some (.ref l27), some (.int l28), some (.ref l29), some (.int v608), some (.long l19), none, some (.ref n), some (.long 0), none, none, none, none, none, none, none, none, none, none, none, none, none, none, none, none, none, none, none, none, none, none, none, none, none, none, none, none, none, none, none, none, none, none, none, none, none, none] [] v617 (n + 1) _ _
  refine rr_lconst (v := 0) C dL_law_1103 (by decide) ?_
  refine rr_lstore C dL_law_1104 (by decide) ?_
  show WW W0 G 73 _ _ _ 1106 [none, some (.ref 48), some (.int l2), some (.int l3), some (.int l4), some (.int l5), some (.int l6), some (.int l7), some (.int l8), some (.int l9), some (.int l10), some (.int l11), some (.int l12), some (.int l13), some (.int l14), some (.int l15), some (.int l16), some (.int l17), none, none, none, some (.ref l21), some (.ref l22), some (.ref l23), some (.ref l24), some (.ref l25), some (.ref l26), some (.ref l27), some (.int l28), some (.ref l29), some (.int v608), some (.long l19), none, some (.ref n), some (.long 0), none, some (.long 0), none, none, none, none, none, none, none, none, none, none, none, none, none, none, none, none, none, none, none, none, none, none, none, none, none, none, none, none, none, none, none, none, none, none, none, none] [] v617 (n + 1) _ _
  refine rr_lconst (v := 0) C dL_law_1106 (by decide) ?_
  refine rr_lstore C dL_law_1107 (by decide) ?_
  show WW W0 G 73 _ _ _ 1109 [none, some (.ref 48), some (.int l2), some (.int l3), some (.int l4), some (.int l5), some (.int l6), some (.int l7), some (.int l8), some (.int l9), some (.int l10), some (.int l11), some (.int l12), some (.int l13), some (.int l14), some (.int l15), some (.int l16), some (.int l17), none, none, none, some (.ref l21), some (.ref l22), some (.ref l23), some (.ref l24), some (.ref l25), some (.ref l26), some (.ref l27), some (.int l28), some (.ref l29), some (.int v608), some (.long l19), none, some (.ref n), some (.long 0), none, some (.long 0), none, some (.long 0), none, none, none, none, none, none, none, none, none, none, none, none, none, none, none, none, none, none, none, none, none, none, none, none, none, none, none, none, none, none, none, none, none, none] [] v617 (n + 1) _ _
  refine rr_lconst (v := 0) C dL_law_1109 (by decide) ?_
  refine rr_lstore C dL_law_1110 (by decide) ?_
  show WW W0 G 73 _ _ _ 1112 [none, some (.ref 48), some (.int l2), some (.int l3), some (.int l4), some (.int l5), some (.int l6), some (.int l7), some (.int l8), some (.int l9), some (.int l10), some (.int l11), some (.int l12), some (.int l13), some (.int l14), some (.int l15), some (.int l16), some (.int l17), none, none, none, some (.ref l21), some (.ref l22), some (.ref l23), some (.ref l24), some (.ref l25), some (.ref l26), some (.ref l27), some (.int l28), some (.ref l29), some (.int v608), some (.long l19), none, some (.ref n), some (.long 0), none, some (.long 0), none, some (.long 0), none, some (.long 0), none, none, none, none, none, none, none, none, none, none, none, none, none, none, none, none, none, none, none, none, none, none, none, none, none, none, none, none, none, none, none, none] [] v617 (n + 1) _ _
  exact rr_keep [false, true, true, true, true, true, true, true, true, true, true, true, true, true, true, true, true, true, false, false, false, true, true, true, true, true, true, true, true, true, true, true, false, true, true, false, true, false, true, false, true, false, false, false, false, false, false, false, false, false, false, false, false, false, false, false, false, false, false, false, false, false, false, false, false, false, false, false, false, false, false, false, false] (c_law_1112 l2 l3 l4 l5 l6 l7 l8 l9 l10 l11 l12 l13 l14 l15 l16 l17 l21 l22 l23 l24 l25 l26 l27 l28 l29 v608 l19 n C (by omega) hx0 hr)
set_option maxRecDepth 100000 in
set_option maxHeartbeats 400000 in
theorem c_law_956 {K : Nat} {nm_ : String} {W0 : mm_X} {G : mm_G} {Q_ : State → Prop} {h : mm_H} {n : Nat} (l2 : Int32) (l3 : Int32) (l4 : Int32) (l5 : Int32) (l6 : Int32) (l7 : Int32) (l8 : Int32) (l9 : Int32) (l10 : Int32) (l11 : Int32) (l12 : Int32) (l13 : Int32) (l14 : Int32) (l15 : Int32) (l16 : Int32) (l17 : Int32) (l19 : Int64) (l21 : Nat) (l22 : Nat) (l23 : Nat) (l24 : Nat) (l25 : Nat) (l26 : Nat) (l27 : Nat) (l28 : Int32) (l29 : Nat) (C : mm_C W0 G cL_law yL_law.cls 73 600000 7302250 (some .boolean) 300 nm_) (hn : 48 ≤ n) (hx0 : ∀ (L : List (Option Value)) (h : mm_H) (n kc ks : Nat), WW W0 G 73 600000 7302250 Q_ 2122 L [.int 1] h n kc ks) (hr : q_law_956 K h n l2 l3 l4 l5 l6 l7 l8 l9 l10 l11 l12 l13 l14 l15 l16 l17 l19 l21 l22 l23 l24 l25 l26 l27 l28 l29 = some ()) : WW W0 G 73 600000 7302250 Q_ 956 [some (.ref 0), some (.ref 48), some (.int l2), some (.int l3), some (.int l4), some (.int l5), some (.int l6), some (.int l7), some (.int l8), some (.int l9), some (.int l10), some (.int l11), some (.int l12), some (.int l13), some (.int l14), some (.int l15), some (.int l16), some (.int l17), none, some (.long l19), none, some (.ref l21), some (.ref l22), some (.ref l23), some (.ref l24), some (.ref l25), some (.ref l26), some (.ref l27), some (.int l28), some (.ref l29), none, none, none, none, none, none, none, none, none, none, none, none, none, none, none, none, none, none, none, none, none, none, none, none, none, none, none, none, none, none, none, none, none, none, none, none, none, none, none, none, none, none, none] [] h n 599691 7243256 := by
  unfold q_law_956 at hr
  refine rr_iconst (v := 0) C dL_law_956 (by decide) ?_
  refine rr_istore C dL_law_957 (by decide) ?_
  show WW W0 G 73 _ _ _ 959 [some (.ref 0), some (.ref 48), some (.int l2), some (.int l3), some (.int l4), some (.int l5), some (.int l6), some (.int l7), some (.int l8), some (.int l9), some (.int l10), some (.int l11), some (.int l12), some (.int l13), some (.int l14), some (.int l15), some (.int l16), some (.int l17), none, some (.long l19), none, some (.ref l21), some (.ref l22), some (.ref l23), some (.ref l24), some (.ref l25), some (.ref l26), some (.ref l27), some (.int l28), some (.ref l29), some (.int 0), none, none, none, none, none, none, none, none, none, none, none, none, none, none, none, none, none, none, none, none, none, none, none, none, none, none, none, none, none, none, none, none, none, none, none, none, none, none, none, none, none, none] [] h n _ _
  replace hr := Option.bind_eq_some_iff.mp hr
  obtain ⟨v604, e605, hr⟩ := hr
  refine rr_keep [true, true, true, true, true, true, true, true, true, true, true, true, true, true, true, true, true, true, false, true, false, true, true, true, true, true, true, true, true, true, true, false, false, false, false, false, false, false, false, false, false, false, false, false, false, false, false, false, false, false, false, false, false, false, false, false, false, false, false, false, false, false, false, false, false, false, false, false, false, false, false, false, false] (w_L_law_959 C (by omega) 0 48 l2 l3 l4 l5 l6 l7 l8 l9 l10 l11 l12 l13 l14 l15 l16 l17 l19 l21 l22 l23 l24 l25 l26 l27 l28 l29 K 0 h e605 ?_)
  show WW W0 G 73 _ _ _ 1056 [none, some (.ref 48), some (.int l2), some (.int l3), some (.int l4), some (.int l5), some (.int l6), some (.int l7), some (.int l8), some (.int l9), some (.int l10), some (.int l11), some (.int l12), some (.int l13), some (.int l14), some (.int l15), some (.int l16), some (.int l17), none, some (.long l19), none, some (.ref l21), some (.ref l22), some (.ref l23), some (.ref l24), some (.ref l25), some (.ref l26), some (.ref l27), some (.int l28), some (.ref l29), none, none, none, none, none, none, none, none, none, none, none, none, none, none, none, none, none, none, none, none, none, none, none, none, none, none, none, none, none, none, none, none, none, none, none, none, none, none, none, none, none, none, none] [] v604 n _ _
  exact rr_keep [false, true, true, true, true, true, true, true, true, true, true, true, true, true, true, true, true, true, false, true, false, true, true, true, true, true, true, true, true, true, false, false, false, false, false, false, false, false, false, false, false, false, false, false, false, false, false, false, false, false, false, false, false, false, false, false, false, false, false, false, false, false, false, false, false, false, false, false, false, false, false, false, false] (c_law_1056 l2 l3 l4 l5 l6 l7 l8 l9 l10 l11 l12 l13 l14 l15 l16 l17 l19 l21 l22 l23 l24 l25 l26 l27 l28 l29 C (by omega) hx0 hr)
set_option maxRecDepth 100000 in
set_option maxHeartbeats 400000 in
theorem c_law_868 {K : Nat} {nm_ : String} {W0 : mm_X} {G : mm_G} {Q_ : State → Prop} {h : mm_H} {n : Nat} (l2 : Int32) (l3 : Int32) (l4 : Int32) (l5 : Int32) (l6 : Int32) (l7 : Int32) (l8 : Int32) (l9 : Int32) (l10 : Int32) (l11 : Int32) (l12 : Int32) (l13 : Int32) (l14 : Int32) (l15 : Int32) (l16 : Int32) (l17 : Int32) (l19 : Int64) (l21 : Nat) (l22 : Nat) (l23 : Nat) (l24 : Nat) (l25 : Nat) (l26 : Nat) (l27 : Nat) (l28 : Int32) (C : mm_C W0 G cL_law yL_law.cls 73 600000 7302250 (some .boolean) 300 nm_) (hn : 48 ≤ n) (hx0 : ∀ (L : List (Option Value)) (h : mm_H) (n kc ks : Nat), WW W0 G 73 600000 7302250 Q_ 2122 L [.int 1] h n kc ks) (hr : q_law_868 K h n l2 l3 l4 l5 l6 l7 l8 l9 l10 l11 l12 l13 l14 l15 l16 l17 l19 l21 l22 l23 l24 l25 l26 l27 l28 = some ()) : WW W0 G 73 600000 7302250 Q_ 868 [some (.ref 0), some (.ref 48), some (.int l2), some (.int l3), some (.int l4), some (.int l5), some (.int l6), some (.int l7), some (.int l8), some (.int l9), some (.int l10), some (.int l11), some (.int l12), some (.int l13), some (.int l14), some (.int l15), some (.int l16), some (.int l17), none, some (.long l19), none, some (.ref l21), some (.ref l22), some (.ref l23), some (.ref l24), some (.ref l25), some (.ref l26), some (.ref l27), some (.int l28), none, none, none, none, none, none, none, none, none, none, none, none, none, none, none, none, none, none, none, none, none, none, none, none, none, none, none, none, none, none, none, none, none, none, none, none, none, none, none, none, none, none, none, none] [] h n 599692 7243320 := by
  unfold q_law_868 at hr
  refine rr_bipush (v := 64) C dL_law_868 (by decide) ?_
  refine rr_cut C (kc' := 599691 + 1) (ks' := 7243256 + 64) (by omega) (by omega) ?_
  replace hr := Option.bind_eq_some_iff.mp hr
  obtain ⟨h549, e550, hr⟩ := hr
  refine rr_newIq C dL_law_870 (t0 := 0) rfl rfl (by decide) rfl ac_int (N := 64) (by decide) e550 ?_
  show WW W0 G 73 _ _ _ 872 [some (.ref 0), some (.ref 48), some (.int l2), some (.int l3), some (.int l4), some (.int l5), some (.int l6), some (.int l7), some (.int l8), some (.int l9), some (.int l10), some (.int l11), some (.int l12), some (.int l13), some (.int l14), some (.int l15), some (.int l16), some (.int l17), none, some (.long l19), none, some (.ref l21), some (.ref l22), some (.ref l23), some (.ref l24), some (.ref l25), some (.ref l26), some (.ref l27), some (.int l28), none, none, none, none, none, none, none, none, none, none, none, none, none, none, none, none, none, none, none, none, none, none, none, none, none, none, none, none, none, none, none, none, none, none, none, none, none, none, none, none, none, none, none, none] [.ref n] h549 (n + 1) _ _
  refine rr_astore C dL_law_872 (by decide) ?_
  show WW W0 G 73 _ _ _ 874 [some (.ref 0), some (.ref 48), some (.int l2), some (.int l3), some (.int l4), some (.int l5), some (.int l6), some (.int l7), some (.int l8), some (.int l9), some (.int l10), some (.int l11), some (.int l12), some (.int l13), some (.int l14), some (.int l15), some (.int l16), some (.int l17), none, some (.long l19), none, some (.ref l21), some (.ref l22), some (.ref l23), some (.ref l24), some (.ref l25), some (.ref l26), some (.ref l27), some (.int l28), some (.ref n), none, none, none, none, none, none, none, none, none, none, none, none, none, none, none, none, none, none, none, none, none, none, none, none, none, none, none, none, none, none, none, none, none, none, none, none, none, none, none, none, none, none, none] [] h549 (n + 1) _ _
  refine rr_iconst (v := 0) C dL_law_874 (by decide) ?_
  refine rr_istore C dL_law_875 (by decide) ?_
  show WW W0 G 73 _ _ _ 877 [some (.ref 0), some (.ref 48), some (.int l2), some (.int l3), some (.int l4), some (.int l5), some (.int l6), some (.int l7), some (.int l8), some (.int l9), some (.int l10), some (.int l11), some (.int l12), some (.int l13), some (.int l14), some (.int l15), some (.int l16), some (.int l17), none, some (.long l19), none, some (.ref l21), some (.ref l22), some (.ref l23), some (.ref l24), some (.ref l25), some (.ref l26), some (.ref l27), some (.int l28), some (.ref n), some (.int 0), none, none, none, none, none, none, none, none, none, none, none, none, none, none, none, none, none, none, none, none, none, none, none, none, none, none, none, none, none, none, none, none, none, none, none, none, none, none, none, none, none, none] [] h549 (n + 1) _ _
  replace hr := Option.bind_eq_some_iff.mp hr
  obtain ⟨v569, e570, hr⟩ := hr
  refine rr_keep [true, true, true, true, true, true, true, true, true, true, true, true, true, true, true, true, true, true, false, true, false, true, true, true, true, true, true, true, true, true, true, false, false, false, false, false, false, false, false, false, false, false, false, false, false, false, false, false, false, false, false, false, false, false, false, false, false, false, false, false, false, false, false, false, false, false, false, false, false, false, false, false, false] (w_L_law_877 C (by omega) 0 48 l2 l3 l4 l5 l6 l7 l8 l9 l10 l11 l12 l13 l14 l15 l16 l17 l19 l21 l22 l23 l24 l25 l26 l27 l28 n K 0 h549 e570 ?_)
  show WW W0 G 73 _ _ _ 956 [some (.ref 0), some (.ref 48), some (.int l2), some (.int l3), some (.int l4), some (.int l5), some (.int l6), some (.int l7), some (.int l8), some (.int l9), some (.int l10), some (.int l11), some (.int l12), some (.int l13), some (.int l14), some (.int l15), some (.int l16), some (.int l17), none, some (.long l19), none, some (.ref l21), some (.ref l22), some (.ref l23), some (.ref l24), some (.ref l25), some (.ref l26), some (.ref l27), some (.int l28), some (.ref n), none, none, none, none, none, none, none, none, none, none, none, none, none, none, none, none, none, none, none, none, none, none, none, none, none, none, none, none, none, none, none, none, none, none, none, none, none, none, none, none, none, none, none] [] v569 (n + 1) _ _
  exact rr_keep [true, true, true, true, true, true, true, true, true, true, true, true, true, true, true, true, true, true, false, true, false, true, true, true, true, true, true, true, true, true, false, false, false, false, false, false, false, false, false, false, false, false, false, false, false, false, false, false, false, false, false, false, false, false, false, false, false, false, false, false, false, false, false, false, false, false, false, false, false, false, false, false, false] (c_law_956 l2 l3 l4 l5 l6 l7 l8 l9 l10 l11 l12 l13 l14 l15 l16 l17 l19 l21 l22 l23 l24 l25 l26 l27 l28 n C (by omega) hx0 hr)
set_option maxRecDepth 100000 in
set_option maxHeartbeats 400000 in
theorem c_law_755 {K : Nat} {nm_ : String} {W0 : mm_X} {G : mm_G} {Q_ : State → Prop} {h : mm_H} {n : Nat} (l2 : Int32) (l3 : Int32) (l4 : Int32) (l5 : Int32) (l6 : Int32) (l7 : Int32) (l8 : Int32) (l9 : Int32) (l10 : Int32) (l11 : Int32) (l12 : Int32) (l13 : Int32) (l14 : Int32) (l15 : Int32) (l16 : Int32) (l17 : Int32) (l19 : Int64) (l21 : Nat) (l22 : Nat) (l23 : Nat) (l24 : Nat) (C : mm_C W0 G cL_law yL_law.cls 73 600000 7302250 (some .boolean) 300 nm_) (hn : 48 ≤ n) (hx0 : ∀ (L : List (Option Value)) (h : mm_H) (n kc ks : Nat), WW W0 G 73 600000 7302250 Q_ 2122 L [.int 1] h n kc ks) (hr : q_law_755 K h n l2 l3 l4 l5 l6 l7 l8 l9 l10 l11 l12 l13 l14 l15 l16 l17 l19 l21 l22 l23 l24 = some ()) : WW W0 G 73 600000 7302250 Q_ 755 [some (.ref 0), some (.ref 48), some (.int l2), some (.int l3), some (.int l4), some (.int l5), some (.int l6), some (.int l7), some (.int l8), some (.int l9), some (.int l10), some (.int l11), some (.int l12), some (.int l13), some (.int l14), some (.int l15), some (.int l16), some (.int l17), none, some (.long l19), none, some (.ref l21), some (.ref l22), some (.ref l23), some (.ref l24), none, none, none, none, none, none, none, none, none, none, none, none, none, none, none, none, none, none, none, none, none, none, none, none, none, none, none, none, none, none, none, none, none, none, none, none, none, none, none, none, none, none, none, none, none, none, none, none] [] h n 599695 7243512 := by
  unfold q_law_755 at hr
  refine rr_bipush (v := 64) C dL_law_755 (by decide) ?_
  refine rr_cut C (kc' := 599694 + 1) (ks' := 7243448 + 64) (by omega) (by omega) ?_
  replace hr := Option.bind_eq_some_iff.mp hr
  obtain ⟨h519, e520, hr⟩ := hr
  refine rr_newIq C dL_law_757 (t0 := 0) rfl rfl (by decide) rfl ac_int (N := 64) (by decide) e520 ?_
  show WW W0 G 73 _ _ _ 759 [some (.ref 0), some (.ref 48), some (.int l2), some (.int l3), some (.int l4), some (.int l5), some (.int l6), some (.int l7), some (.int l8), some (.int l9), some (.int l10), some (.int l11), some (.int l12), some (.int l13), some (.int l14), some (.int l15), some (.int l16), some (.int l17), none, some (.long l19), none, some (.ref l21), some (.ref l22), some (.ref l23), some (.ref l24), none, none, none, none, none, none, none, none, none, none, none, none, none, none, none, none, none, none, none, none, none, none, none, none, none, none, none, none, none, none, none, none, none, none, none, none, none, none, none, none, none, none, none, none, none, none, none, none] [.ref n] h519 (n + 1) _ _
  refine rr_astore C dL_law_759 (by decide) ?_
  show WW W0 G 73 _ _ _ 761 [some (.ref 0), some (.ref 48), some (.int l2), some (.int l3), some (.int l4), some (.int l5), some (.int l6), some (.int l7), some (.int l8), some (.int l9), some (.int l10), some (.int l11), some (.int l12), some (.int l13), some (.int l14), some (.int l15), some (.int l16), some (.int l17), none, some (.long l19), none, some (.ref l21), some (.ref l22), some (.ref l23), some (.ref l24), some (.ref n), none, none, none, none, none, none, none, none, none, none, none, none, none, none, none, none, none, none, none, none, none, none, none, none, none, none, none, none, none, none, none, none, none, none, none, none, none, none, none, none, none, none, none, none, none, none, none] [] h519 (n + 1) _ _
  refine rr_bipush (v := 64) C dL_law_761 (by decide) ?_
  refine rr_cut C (kc' := 599693 + 1) (ks' := 7243384 + 64) (by omega) (by omega) ?_
  replace hr := Option.bind_eq_some_iff.mp hr
  obtain ⟨h521, e522, hr⟩ := hr
  refine rr_newIq C dL_law_763 (t0 := 0) rfl rfl (by decide) rfl ac_int (N := 64) (by decide) e522 ?_
  show WW W0 G 73 _ _ _ 765 [some (.ref 0), some (.ref 48), some (.int l2), some (.int l3), some (.int l4), some (.int l5), some (.int l6), some (.int l7), some (.int l8), some (.int l9), some (.int l10), some (.int l11), some (.int l12), some (.int l13), some (.int l14), some (.int l15), some (.int l16), some (.int l17), none, some (.long l19), none, some (.ref l21), some (.ref l22), some (.ref l23), some (.ref l24), some (.ref n), none, none, none, none, none, none, none, none, none, none, none, none, none, none, none, none, none, none, none, none, none, none, none, none, none, none, none, none, none, none, none, none, none, none, none, none, none, none, none, none, none, none, none, none, none, none, none] [.ref (n + 1)] h521 (n + 2) _ _
  refine rr_astore C dL_law_765 (by decide) ?_
  show WW W0 G 73 _ _ _ 767 [some (.ref 0), some (.ref 48), some (.int l2), some (.int l3), some (.int l4), some (.int l5), some (.int l6), some (.int l7), some (.int l8), some (.int l9), some (.int l10), some (.int l11), some (.int l12), some (.int l13), some (.int l14), some (.int l15), some (.int l16), some (.int l17), none, some (.long l19), none, some (.ref l21), some (.ref l22), some (.ref l23), some (.ref l24), some (.ref n), some (.ref (n + 1)), none, none, none, none, none, none, none, none, none, none, none, none, none, none, none, none, none, none, none, none, none, none, none, none, none, none, none, none, none, none, none, none, none, none, none, none, none, none, none, none, none, none, none, none, none, none] [] h521 (n + 2) _ _
  refine rr_bipush (v := 64) C dL_law_767 (by decide) ?_
  refine rr_cut C (kc' := 599692 + 1) (ks' := 7243320 + 64) (by omega) (by omega) ?_
  replace hr := Option.bind_eq_some_iff.mp hr
  obtain ⟨h523, e524, hr⟩ := hr
  refine rr_newIq C dL_law_769 (t0 := 0) rfl rfl (by decide) rfl ac_int (N := 64) (by decide) e524 ?_
  show WW W0 G 73 _ _ _ 771 [some (.ref 0), some (.ref 48), some (.int l2), some (.int l3), some (.int l4), some (.int l5), some (.int l6), some (.int l7), some (.int l8), some (.int l9), some (.int l10), some (.int l11), some (.int l12), some (.int l13), some (.int l14), some (.int l15), some (.int l16), some (.int l17), none, some (.long l19), none, some (.ref l21), some (.ref l22), some (.ref l23), some (.ref l24), some (.ref n), some (.ref (n + 1)), none, none, none, none, none, none, none, none, none, none, none, none, none, none, none, none, none, none, none, none, none, none, none, none, none, none, none, none, none, none, none, none, none, none, none, none, none, none, none, none, none, none, none, none, none, none] [.ref (n + 2)] h523 (n + 3) _ _
  refine rr_astore C dL_law_771 (by decide) ?_
  show WW W0 G 73 _ _ _ 773 [some (.ref 0), some (.ref 48), some (.int l2), some (.int l3), some (.int l4), some (.int l5), some (.int l6), some (.int l7), some (.int l8), some (.int l9), some (.int l10), some (.int l11), some (.int l12), some (.int l13), some (.int l14), some (.int l15), some (.int l16), some (.int l17), none, some (.long l19), none, some (.ref l21), some (.ref l22), some (.ref l23), some (.ref l24), some (.ref n), some (.ref (n + 1)), some (.ref (n + 2)), none, none, none, none, none, none, none, none, none, none, none, none, none, none, none, none, none, none, none, none, none, none, none, none, none, none, none, none, none, none, none, none, none, none, none, none, none, none, none, none, none, none, none, none, none] [] h523 (n + 3) _ _
  refine rr_aload_n (i := 0) C dL_law_773 rfl rfl ?_
  refine rr_bipush (v := 14) C dL_law_774 (by decide) ?_
  replace hr := Option.bind_eq_some_iff.mp hr
  obtain ⟨v525, e526, hr⟩ := hr
  refine rr_callS (as := [.ref 0, .int 14]) (st := []) (mc' := 0) (ms' := 0) C dL_law_776 it_L_24 (by decide) (Nat.le_of_ble_eq_true rfl) (c_L_cell (some 0) 14 (by omega) e526) (fun v_ h_ n_ q_ => ?_)
  obtain ⟨q1_, q2_, q3_⟩ := q_
  subst v_; subst h_; subst n_
  show WW W0 G 73 _ _ _ 779 [some (.ref 0), some (.ref 48), some (.int l2), some (.int l3), some (.int l4), some (.int l5), some (.int l6), some (.int l7), some (.int l8), some (.int l9), some (.int l10), some (.int l11), some (.int l12), some (.int l13), some (.int l14), some (.int l15), some (.int l16), some (.int l17), none, some (.long l19), none, some (.ref l21), some (.ref l22), some (.ref l23), some (.ref l24), some (.ref n), some (.ref (n + 1)), some (.ref (n + 2)), none, none, none, none, none, none, none, none, none, none, none, none, none, none, none, none, none, none, none, none, none, none, none, none, none, none, none, none, none, none, none, none, none, none, none, none, none, none, none, none, none, none, none, none, none] [.int v525] h523 (n + 3) _ _
  refine rr_iconst (v := 3) C dL_law_779 (by decide) ?_
  refine rr_iand C dL_law_780 ?_
  replace hr := Option.bind_eq_some_iff.mp hr
  obtain ⟨x527, e528, hr⟩ := hr
  refine rr_asI C e528 ?_
  refine rr_istore C dL_law_781 (by decide) ?_
  show WW W0 G 73 _ _ _ 783 [some (.ref 0), some (.ref 48), some (.int l2), some (.int l3), some (.int l4), some (.int l5), some (.int l6), some (.int l7), some (.int l8), some (.int l9), some (.int l10), some (.int l11), some (.int l12), some (.int l13), some (.int l14), some (.int l15), some (.int l16), some (.int l17), none, some (.long l19), none, some (.ref l21), some (.ref l22), some (.ref l23), some (.ref l24), some (.ref n), some (.ref (n + 1)), some (.ref (n + 2)), some (.int x527), none, none, none, none, none, none, none, none, none, none, none, none, none, none, none, none, none, none, none, none, none, none, none, none, none, none, none, none, none, none, none, none, none, none, none, none, none, none, none, none, none, none, none, none] [] h523 (n + 3) _ _
  refine rr_iconst (v := 0) C dL_law_783 (by decide) ?_
  refine rr_istore C dL_law_784 (by decide) ?_
  show WW W0 G 73 _ _ _ 786 [some (.ref 0), some (.ref 48), some (.int l2), some (.int l3), some (.int l4), some (.int l5), some (.int l6), some (.int l7), some (.int l8), some (.int l9), some (.int l10), some (.int l11), some (.int l12), some (.int l13), some (.int l14), some (.int l15), some (.int l16), some (.int l17), none, some (.long l19), none, some (.ref l21), some (.ref l22), some (.ref l23), some (.ref l24), some (.ref n), some (.ref (n + 1)), some (.ref (n + 2)), some (.int x527), some (.int 0), none, none, none, none, none, none, none, none, none, none, none, none, none, none, none, none, none, none, none, none, none, none, none, none, none, none, none, none, none, none, none, none, none, none, none, none, none, none, none, none, none, none, none] [] h523 (n + 3) _ _
  replace hr := Option.bind_eq_some_iff.mp hr
  obtain ⟨v547, e548, hr⟩ := hr
  refine rr_keep [true, true, true, true, true, true, true, true, true, true, true, true, true, true, true, true, true, true, false, true, false, true, true, true, true, true, true, true, true, true, false, false, false, false, false, false, false, false, false, false, false, false, false, false, false, false, false, false, false, false, false, false, false, false, false, false, false, false, false, false, false, false, false, false, false, false, false, false, false, false, false, false, false] (w_L_law_786 C (by omega) 0 48 l2 l3 l4 l5 l6 l7 l8 l9 l10 l11 l12 l13 l14 l15 l16 l17 l19 l21 l22 l23 l24 n (n + 1) (n + 2) x527 K 0 h523 e548 ?_)
  show WW W0 G 73 _ _ _ 868 [some (.ref 0), some (.ref 48), some (.int l2), some (.int l3), some (.int l4), some (.int l5), some (.int l6), some (.int l7), some (.int l8), some (.int l9), some (.int l10), some (.int l11), some (.int l12), some (.int l13), some (.int l14), some (.int l15), some (.int l16), some (.int l17), none, some (.long l19), none, some (.ref l21), some (.ref l22), some (.ref l23), some (.ref l24), some (.ref n), some (.ref (n + 1)), some (.ref (n + 2)), some (.int x527), none, none, none, none, none, none, none, none, none, none, none, none, none, none, none, none, none, none, none, none, none, none, none, none, none, none, none, none, none, none, none, none, none, none, none, none, none, none, none, none, none, none, none, none] [] v547 (n + 3) _ _
  exact rr_keep [true, true, true, true, true, true, true, true, true, true, true, true, true, true, true, true, true, true, false, true, false, true, true, true, true, true, true, true, true, false, false, false, false, false, false, false, false, false, false, false, false, false, false, false, false, false, false, false, false, false, false, false, false, false, false, false, false, false, false, false, false, false, false, false, false, false, false, false, false, false, false, false, false] (c_law_868 l2 l3 l4 l5 l6 l7 l8 l9 l10 l11 l12 l13 l14 l15 l16 l17 l19 l21 l22 l23 l24 n (n + 1) (n + 2) x527 C (by omega) hx0 hr)
set_option maxRecDepth 100000 in
set_option maxHeartbeats 400000 in
theorem c_law_485 {K : Nat} {nm_ : String} {W0 : mm_X} {G : mm_G} {Q_ : State → Prop} {h : mm_H} {n : Nat} (l2 : Int32) (l3 : Int32) (l4 : Int32) (l5 : Int32) (l6 : Int32) (l7 : Int32) (l8 : Int32) (l9 : Int32) (l10 : Int32) (l11 : Int32) (l12 : Int32) (l13 : Int32) (l14 : Int32) (l15 : Int32) (l16 : Int32) (l17 : Int32) (l19 : Int64) (C : mm_C W0 G cL_law yL_law.cls 73 600000 7302250 (some .boolean) 300 nm_) (hn : 48 ≤ n) (hx0 : ∀ (L : List (Option Value)) (h : mm_H) (n kc ks : Nat), WW W0 G 73 600000 7302250 Q_ 2122 L [.int 1] h n kc ks) (hr : q_law_485 K h n l2 l3 l4 l5 l6 l7 l8 l9 l10 l11 l12 l13 l14 l15 l16 l17 l19 = some ()) : WW W0 G 73 600000 7302250 Q_ 485 [some (.ref 0), some (.ref 48), some (.int l2), some (.int l3), some (.int l4), some (.int l5), some (.int l6), some (.int l7), some (.int l8), some (.int l9), some (.int l10), some (.int l11), some (.int l12), some (.int l13), some (.int l14), some (.int l15), some (.int l16), some (.int l17), none, some (.long l19), none, none, none, none, none, none, none, none, none, none, none, none, none, none, none, none, none, none, none, none, none, none, none, none, none, none, none, none, none, none, none, none, none, none, none, none, none, none, none, none, none, none, none, none, none, none, none, none, none, none, none, none, none] [] h n 599699 7243768 := by
  unfold q_law_485 at hr
  refine rr_bipush (v := 64) C dL_law_485 (by decide) ?_
  refine rr_cut C (kc' := 599698 + 1) (ks' := 7243704 + 64) (by omega) (by omega) ?_
  replace hr := Option.bind_eq_some_iff.mp hr
  obtain ⟨h439, e440, hr⟩ := hr
  refine rr_newIq C dL_law_487 (t0 := 0) rfl rfl (by decide) rfl ac_int (N := 64) (by decide) e440 ?_
  show WW W0 G 73 _ _ _ 489 [some (.ref 0), some (.ref 48), some (.int l2), some (.int l3), some (.int l4), some (.int l5), some (.int l6), some (.int l7), some (.int l8), some (.int l9), some (.int l10), some (.int l11), some (.int l12), some (.int l13), some (.int l14), some (.int l15), some (.int l16), some (.int l17), none, some (.long l19), none, none, none, none, none, none, none, none, none, none, none, none, none, none, none, none, none, none, none, none, none, none, none, none, none, none, none, none, none, none, none, none, none, none, none, none, none, none, none, none, none, none, none, none, none, none, none, none, none, none, none, none, none] [.ref n] h439 (n + 1) _ _
  refine rr_astore C dL_law_489 (by decide) ?_
  show WW W0 G 73 _ _ _ 491 [some (.ref 0), some (.ref 48), some (.int l2), some (.int l3), some (.int l4), some (.int l5), some (.int l6), some (.int l7), some (.int l8), some (.int l9), some (.int l10), some (.int l11), some (.int l12), some (.int l13), some (.int l14), some (.int l15), some (.int l16), some (.int l17), none, some (.long l19), none, some (.ref n), none, none, none, none, none, none, none, none, none, none, none, none, none, none, none, none, none, none, none, none, none, none, none, none, none, none, none, none, none, none, none, none, none, none, none, none, none, none, none, none, none, none, none, none, none, none, none, none, none, none, none] [] h439 (n + 1) _ _
  refine rr_bipush (v := 64) C dL_law_491 (by decide) ?_
  refine rr_cut C (kc' := 599697 + 1) (ks' := 7243640 + 64) (by omega) (by omega) ?_
  replace hr := Option.bind_eq_some_iff.mp hr
  obtain ⟨h441, e442, hr⟩ := hr
  refine rr_newIq C dL_law_493 (t0 := 0) rfl rfl (by decide) rfl ac_int (N := 64) (by decide) e442 ?_
  show WW W0 G 73 _ _ _ 495 [some (.ref 0), some (.ref 48), some (.int l2), some (.int l3), some (.int l4), some (.int l5), some (.int l6), some (.int l7), some (.int l8), some (.int l9), some (.int l10), some (.int l11), some (.int l12), some (.int l13), some (.int l14), some (.int l15), some (.int l16), some (.int l17), none, some (.long l19), none, some (.ref n), none, none, none, none, none, none, none, none, none, none, none, none, none, none, none, none, none, none, none, none, none, none, none, none, none, none, none, none, none, none, none, none, none, none, none, none, none, none, none, none, none, none, none, none, none, none, none, none, none, none, none] [.ref (n + 1)] h441 (n + 2) _ _
  refine rr_astore C dL_law_495 (by decide) ?_
  show WW W0 G 73 _ _ _ 497 [some (.ref 0), some (.ref 48), some (.int l2), some (.int l3), some (.int l4), some (.int l5), some (.int l6), some (.int l7), some (.int l8), some (.int l9), some (.int l10), some (.int l11), some (.int l12), some (.int l13), some (.int l14), some (.int l15), some (.int l16), some (.int l17), none, some (.long l19), none, some (.ref n), some (.ref (n + 1)), none, none, none, none, none, none, none, none, none, none, none, none, none, none, none, none, none, none, none, none, none, none, none, none, none, none, none, none, none, none, none, none, none, none, none, none, none, none, none, none, none, none, none, none, none, none, none, none, none, none] [] h441 (n + 2) _ _
  refine rr_bipush (v := 64) C dL_law_497 (by decide) ?_
  refine rr_cut C (kc' := 599696 + 1) (ks' := 7243576 + 64) (by omega) (by omega) ?_
  replace hr := Option.bind_eq_some_iff.mp hr
  obtain ⟨h443, e444, hr⟩ := hr
  refine rr_newIq C dL_law_499 (t0 := 0) rfl rfl (by decide) rfl ac_int (N := 64) (by decide) e444 ?_
  show WW W0 G 73 _ _ _ 501 [some (.ref 0), some (.ref 48), some (.int l2), some (.int l3), some (.int l4), some (.int l5), some (.int l6), some (.int l7), some (.int l8), some (.int l9), some (.int l10), some (.int l11), some (.int l12), some (.int l13), some (.int l14), some (.int l15), some (.int l16), some (.int l17), none, some (.long l19), none, some (.ref n), some (.ref (n + 1)), none, none, none, none, none, none, none, none, none, none, none, none, none, none, none, none, none, none, none, none, none, none, none, none, none, none, none, none, none, none, none, none, none, none, none, none, none, none, none, none, none, none, none, none, none, none, none, none, none, none] [.ref (n + 2)] h443 (n + 3) _ _
  refine rr_astore C dL_law_501 (by decide) ?_
  show WW W0 G 73 _ _ _ 503 [some (.ref 0), some (.ref 48), some (.int l2), some (.int l3), some (.int l4), some (.int l5), some (.int l6), some (.int l7), some (.int l8), some (.int l9), some (.int l10), some (.int l11), some (.int l12), some (.int l13), some (.int l14), some (.int l15), some (.int l16), some (.int l17), none, some (.long l19), none, some (.ref n), some (.ref (n + 1)), some (.ref (n + 2)), none, none, none, none, none, none, none, none, none, none, none, none, none, none, none, none, none, none, none, none, none, none, none, none, none, none, none, none, none, none, none, none, none, none, none, none, none, none, none, none, none, none, none, none, none, none, none, none, none] [] h443 (n + 3) _ _
  refine rr_bipush (v := 64) C dL_law_503 (by decide) ?_
  refine rr_cut C (kc' := 599695 + 1) (ks' := 7243512 + 64) (by omega) (by omega) ?_
  replace hr := Option.bind_eq_some_iff.mp hr
  obtain ⟨h445, e446, hr⟩ := hr
  refine rr_newIq C dL_law_505 (t0 := 0) rfl rfl (by decide) rfl ac_int (N := 64) (by decide) e446 ?_
  show WW W0 G 73 _ _ _ 507 [some (.ref 0), some (.ref 48), some (.int l2), some (.int l3), some (.int l4), some (.int l5), some (.int l6), some (.int l7), some (.int l8), some (.int l9), some (.int l10), some (.int l11), some (.int l12), some (.int l13), some (.int l14), some (.int l15), some (.int l16), some (.int l17), none, some (.long l19), none, some (.ref n), some (.ref (n + 1)), some (.ref (n + 2)), none, none, none, none, none, none, none, none, none, none, none, none, none, none, none, none, none, none, none, none, none, none, none, none, none, none, none, none, none, none, none, none, none, none, none, none, none, none, none, none, none, none, none, none, none, none, none, none, none] [.ref (n + 3)] h445 (n + 4) _ _
  refine rr_astore C dL_law_507 (by decide) ?_
  show WW W0 G 73 _ _ _ 509 [some (.ref 0), some (.ref 48), some (.int l2), some (.int l3), some (.int l4), some (.int l5), some (.int l6), some (.int l7), some (.int l8), some (.int l9), some (.int l10), some (.int l11), some (.int l12), some (.int l13), some (.int l14), some (.int l15), some (.int l16), some (.int l17), none, some (.long l19), none, some (.ref n), some (.ref (n + 1)), some (.ref (n + 2)), some (.ref (n + 3)), none, none, none, none, none, none, none, none, none, none, none, none, none, none, none, none, none, none, none, none, none, none, none, none, none, none, none, none, none, none, none, none, none, none, none, none, none, none, none, none, none, none, none, none, none, none, none, none] [] h445 (n + 4) _ _
  refine rr_iconst (v := 0) C dL_law_509 (by decide) ?_
  refine rr_istore C dL_law_510 (by decide) ?_
  show WW W0 G 73 _ _ _ 512 [some (.ref 0), some (.ref 48), some (.int l2), some (.int l3), some (.int l4), some (.int l5), some (.int l6), some (.int l7), some (.int l8), some (.int l9), some (.int l10), some (.int l11), some (.int l12), some (.int l13), some (.int l14), some (.int l15), some (.int l16), some (.int l17), none, some (.long l19), none, some (.ref n), some (.ref (n + 1)), some (.ref (n + 2)), some (.ref (n + 3)), some (.int 0), none, none, none, none, none, none, none, none, none, none, none, none, none, none, none, none, none, none, none, none, none, none, none, none, none, none, none, none, none, none, none, none, none, none, none, none, none, none, none, none, none, none, none, none, none, none, none] [] h445 (n + 4) _ _
  replace hr := Option.bind_eq_some_iff.mp hr
  obtain ⟨v517, e518, hr⟩ := hr
  refine rr_keep [true, true, true, true, true, true, true, true, true, true, true, true, true, true, true, true, true, true, false, true, false, true, true, true, true, true, false, false, false, false, false, false, false, false, false, false, false, false, false, false, false, false, false, false, false, false, false, false, false, false, false, false, false, false, false, false, false, false, false, false, false, false, false, false, false, false, false, false, false, false, false, false, false] (w_L_law_512 C (by omega) 0 48 l2 l3 l4 l5 l6 l7 l8 l9 l10 l11 l12 l13 l14 l15 l16 l17 l19 n (n + 1) (n + 2) (n + 3) K 0 h445 e518 ?_)
  show WW W0 G 73 _ _ _ 755 [some (.ref 0), some (.ref 48), some (.int l2), some (.int l3), some (.int l4), some (.int l5), some (.int l6), some (.int l7), some (.int l8), some (.int l9), some (.int l10), some (.int l11), some (.int l12), some (.int l13), some (.int l14), some (.int l15), some (.int l16), some (.int l17), none, some (.long l19), none, some (.ref n), some (.ref (n + 1)), some (.ref (n + 2)), some (.ref (n + 3)), none, none, none, none, none, none, none, none, none, none, none, none, none, none, none, none, none, none, none, none, none, none, none, none, none, none, none, none, none, none, none, none, none, none, none, none, none, none, none, none, none, none, none, none, none, none, none, none] [] v517 (n + 4) _ _
  exact rr_keep [true, true, true, true, true, true, true, true, true, true, true, true, true, true, true, true, true, true, false, true, false, true, true, true, true, false, false, false, false, false, false, false, false, false, false, false, false, false, false, false, false, false, false, false, false, false, false, false, false, false, false, false, false, false, false, false, false, false, false, false, false, false, false, false, false, false, false, false, false, false, false, false, false] (c_law_755 l2 l3 l4 l5 l6 l7 l8 l9 l10 l11 l12 l13 l14 l15 l16 l17 l19 n (n + 1) (n + 2) (n + 3) C (by omega) hx0 hr)
set_option maxRecDepth 100000 in
set_option maxHeartbeats 400000 in
theorem c_law_452 {K : Nat} {nm_ : String} {W0 : mm_X} {G : mm_G} {Q_ : State → Prop} {h : mm_H} {n : Nat} (l2 : Int32) (l3 : Int32) (l4 : Int32) (l5 : Int32) (l6 : Int32) (l7 : Int32) (l8 : Int32) (l9 : Int32) (l10 : Int32) (l11 : Int32) (l12 : Int32) (l13 : Int32) (l14 : Int32) (l15 : Int32) (l16 : Int32) (l17 : Int32) (C : mm_C W0 G cL_law yL_law.cls 73 600000 7302250 (some .boolean) 300 nm_) (hn : 48 ≤ n) (hx0 : ∀ (L : List (Option Value)) (h : mm_H) (n kc ks : Nat), WW W0 G 73 600000 7302250 Q_ 2122 L [.int 1] h n kc ks) (hr : q_law_452 K h n l2 l3 l4 l5 l6 l7 l8 l9 l10 l11 l12 l13 l14 l15 l16 l17 = some ()) : WW W0 G 73 600000 7302250 Q_ 452 [some (.ref 0), some (.ref 48), some (.int l2), some (.int l3), some (.int l4), some (.int l5), some (.int l6), some (.int l7), some (.int l8), some (.int l9), some (.int l10), some (.int l11), some (.int l12), some (.int l13), some (.int l14), some (.int l15), some (.int l16), some (.int l17), none, none, none, none, none, none, none, none, none, none, none, none, none, none, none, none, none, none, none, none, none, none, none, none, none, none, none, none, none, none, none, none, none, none, none, none, none, none, none, none, none, none, none, none, none, none, none, none, none, none, none, none, none, none, none] [] h n 599699 7243768 := by
  unfold q_law_452 at hr
  refine rr_aload_n (i := 0) C dL_law_452 rfl rfl ?_
  refine rr_iconst (v := 3) C dL_law_453 (by decide) ?_
  replace hr := Option.bind_eq_some_iff.mp hr
  obtain ⟨v425, e426, hr⟩ := hr
  refine rr_callS (as := [.ref 0, .int 3]) (st := []) (mc' := 0) (ms' := 0) C dL_law_454 it_L_24 (by decide) (Nat.le_of_ble_eq_true rfl) (c_L_cell (some 0) 3 (by omega) e426) (fun v_ h_ n_ q_ => ?_)
  obtain ⟨q1_, q2_, q3_⟩ := q_
  subst v_; subst h_; subst n_
  show WW W0 G 73 _ _ _ 457 [some (.ref 0), some (.ref 48), some (.int l2), some (.int l3), some (.int l4), some (.int l5), some (.int l6), some (.int l7), some (.int l8), some (.int l9), some (.int l10), some (.int l11), some (.int l12), some (.int l13), some (.int l14), some (.int l15), some (.int l16), some (.int l17), none, none, none, none, none, none, none, none, none, none, none, none, none, none, none, none, none, none, none, none, none, none, none, none, none, none, none, none, none, none, none, none, none, none, none, none, none, none, none, none, none, none, none, none, none, none, none, none, none, none, none, none, none, none, none] [.int v425] h n _ _
  refine rr_ldc C dL_law_457 ct_L_90 ?_
  refine rr_iand C dL_law_459 ?_
  refine rr_i2l C dL_law_460 ?_
  replace hr := Option.bind_eq_some_iff.mp hr
  obtain ⟨x427, e428, hr⟩ := hr
  refine rr_asJ C e428 ?_
  refine rr_lstore C dL_law_461 (by decide) ?_
  show WW W0 G 73 _ _ _ 463 [some (.ref 0), some (.ref 48), some (.int l2), some (.int l3), some (.int l4), some (.int l5), some (.int l6), some (.int l7), some (.int l8), some (.int l9), some (.int l10), some (.int l11), some (.int l12), some (.int l13), some (.int l14), some (.int l15), some (.int l16), some (.int l17), none, some (.long x427), none, none, none, none, none, none, none, none, none, none, none, none, none, none, none, none, none, none, none, none, none, none, none, none, none, none, none, none, none, none, none, none, none, none, none, none, none, none, none, none, none, none, none, none, none, none, none, none, none, none, none, none, none] [] h n _ _
  refine rr_aload_n (i := 1) C dL_law_463 rfl rfl ?_
  refine rr_lload C dL_law_464 rfl ?_
  refine rr_l2i C dL_law_466 ?_
  replace hr := Option.bind_eq_some_iff.mp hr
  obtain ⟨u429, e430, hr⟩ := hr
  replace hr := Option.bind_eq_some_iff.mp hr
  obtain ⟨v431, e432, hr⟩ := hr
  refine rr_callVq (as := [.int (Int64.toInt32 x427)]) (st := []) (mc' := 0) (ms' := 0) C dL_law_467 iv_L_91 (by decide) e430 rfl (Nat.le_of_ble_eq_true rfl) (c_X10_firm 48 (Int64.toInt32 x427) (by omega) e432) (fun v_ h_ n_ q_ => ?_)
  obtain ⟨q1_, q2_, q3_⟩ := q_
  subst v_; subst h_; subst n_
  show WW W0 G 73 _ _ _ 470 [some (.ref 0), some (.ref 48), some (.int l2), some (.int l3), some (.int l4), some (.int l5), some (.int l6), some (.int l7), some (.int l8), some (.int l9), some (.int l10), some (.int l11), some (.int l12), some (.int l13), some (.int l14), some (.int l15), some (.int l16), some (.int l17), none, some (.long x427), none, none, none, none, none, none, none, none, none, none, none, none, none, none, none, none, none, none, none, none, none, none, none, none, none, none, none, none, none, none, none, none, none, none, none, none, none, none, none, none, none, none, none, none, none, none, none, none, none, none, none, none, none] [.int v431.1] v431.2 n _ _
  obtain ⟨c433, hr⟩ := ite_nn hr
  refine rr_if_ne (tgt := 483) C dL_law_470 (by decide) (fun q_ => absurd c433 q_) (fun _ => ?_)
  refine rr_aload_n (i := 1) C dL_law_473 rfl rfl ?_
  refine rr_bipush (v := 7) C dL_law_474 (by decide) ?_
  replace hr := Option.bind_eq_some_iff.mp hr
  obtain ⟨u434, e435, hr⟩ := hr
  replace hr := Option.bind_eq_some_iff.mp hr
  obtain ⟨v436, e437, hr⟩ := hr
  refine rr_callVq (as := [.int 7]) (st := []) (mc' := 0) (ms' := 0) C dL_law_476 iv_L_91 (by decide) e435 rfl (Nat.le_of_ble_eq_true rfl) (c_X10_firm 48 7 (by omega) e437) (fun v_ h_ n_ q_ => ?_)
  obtain ⟨q1_, q2_, q3_⟩ := q_
  subst v_; subst h_; subst n_
  show WW W0 G 73 _ _ _ 479 [some (.ref 0), some (.ref 48), some (.int l2), some (.int l3), some (.int l4), some (.int l5), some (.int l6), some (.int l7), some (.int l8), some (.int l9), some (.int l10), some (.int l11), some (.int l12), some (.int l13), some (.int l14), some (.int l15), some (.int l16), some (.int l17), none, some (.long x427), none, none, none, none, none, none, none, none, none, none, none, none, none, none, none, none, none, none, none, none, none, none, none, none, none, none, none, none, none, none, none, none, none, none, none, none, none, none, none, none, none, none, none, none, none, none, none, none, none, none, none, none, none] [.int v436.1] v436.2 n _ _
  refine rr_iconst (v := 1) C dL_law_479 (by decide) ?_
  obtain ⟨c438, hr⟩ := ite_nn hr
  refine rr_icmp_eq (tgt := 485) C dL_law_480 (by decide) (fun _ => ?_) (fun q_ => absurd c438 q_)
  exact rr_keep [true, true, true, true, true, true, true, true, true, true, true, true, true, true, true, true, true, true, false, true, false, false, false, false, false, false, false, false, false, false, false, false, false, false, false, false, false, false, false, false, false, false, false, false, false, false, false, false, false, false, false, false, false, false, false, false, false, false, false, false, false, false, false, false, false, false, false, false, false, false, false, false, false] (c_law_485 l2 l3 l4 l5 l6 l7 l8 l9 l10 l11 l12 l13 l14 l15 l16 l17 x427 C (by omega) hx0 hr)
set_option maxRecDepth 100000 in
set_option maxHeartbeats 400000 in
theorem c_law_434 {K : Nat} {nm_ : String} {W0 : mm_X} {G : mm_G} {Q_ : State → Prop} {h : mm_H} {n : Nat} (l2 : Int32) (l3 : Int32) (l4 : Int32) (l5 : Int32) (l6 : Int32) (l7 : Int32) (l8 : Int32) (l9 : Int32) (l10 : Int32) (l11 : Int32) (l12 : Int32) (l13 : Int32) (l14 : Int32) (l15 : Int32) (l16 : Int32) (l17 : Int32) (t0 : Option Nat) (C : mm_C W0 G cL_law yL_law.cls 73 600000 7302250 (some .boolean) 300 nm_) (hn : 48 ≤ n) (hx0 : ∀ (L : List (Option Value)) (h : mm_H) (n kc ks : Nat), WW W0 G 73 600000 7302250 Q_ 2122 L [.int 1] h n kc ks) (hr : q_law_434 K h n l2 l3 l4 l5 l6 l7 l8 l9 l10 l11 l12 l13 l14 l15 l16 l17 t0 = some ()) : WW W0 G 73 600000 7302250 Q_ 434 [some (.ref 0), some (.ref 48), some (.int l2), some (.int l3), some (.int l4), some (.int l5), some (.int l6), some (.int l7), some (.int l8), some (.int l9), some (.int l10), some (.int l11), some (.int l12), some (.int l13), some (.int l14), some (.int l15), some (.int l16), some (.int l17), none, none, none, none, none, none, none, none, none, none, none, none, none, none, none, none, none, none, none, none, none, none, none, none, none, none, none, none, none, none, none, none, none, none, none, none, none, none, none, none, none, none, none, none, none, none, none, none, none, none, none, none, none, none, none] [va_rf t0] h n 599821 7283072 := by
  unfold q_law_434 at hr
  refine rr_astoreO C dL_law_434 (by decide) ?_
  show WW W0 G 73 _ _ _ 436 [some (.ref 0), some (.ref 48), some (.int l2), some (.int l3), some (.int l4), some (.int l5), some (.int l6), some (.int l7), some (.int l8), some (.int l9), some (.int l10), some (.int l11), some (.int l12), some (.int l13), some (.int l14), some (.int l15), some (.int l16), some (.int l17), some (va_rf t0), none, none, none, none, none, none, none, none, none, none, none, none, none, none, none, none, none, none, none, none, none, none, none, none, none, none, none, none, none, none, none, none, none, none, none, none, none, none, none, none, none, none, none, none, none, none, none, none, none, none, none, none, none, none] [] h n _ _
  refine rr_aload_n (i := 1) C dL_law_436 rfl rfl ?_
  refine rr_aload_n (i := 1) C dL_law_437 rfl rfl ?_
  refine rr_aloadO C dL_law_438 rfl ?_
  refine rr_cut C (kc' := 599781 + 40) (ks' := 7280512 + 2560) (by omega) (by omega) ?_
  replace hr := Option.bind_eq_some_iff.mp hr
  obtain ⟨v414, e415, hr⟩ := hr
  refine rr_callS (as := [.ref 48, va_rf t0]) (st := [.ref 48]) (mc' := 40) (ms' := 2560) C dL_law_440 it_L_82 (by decide) (Nat.le_of_ble_eq_true rfl) (c_L_put (M := 40) (some 48) t0 (by omega) e415) (fun v_ h_ n_ q_ => ?_)
  obtain ⟨q1_, q2_, q3_, b416⟩ := q_
  subst v_; subst h_; subst n_
  try dsimp only at b416
  show WW W0 G 73 _ _ _ 443 [some (.ref 0), some (.ref 48), some (.int l2), some (.int l3), some (.int l4), some (.int l5), some (.int l6), some (.int l7), some (.int l8), some (.int l9), some (.int l10), some (.int l11), some (.int l12), some (.int l13), some (.int l14), some (.int l15), some (.int l16), some (.int l17), some (va_rf t0), none, none, none, none, none, none, none, none, none, none, none, none, none, none, none, none, none, none, none, none, none, none, none, none, none, none, none, none, none, none, none, none, none, none, none, none, none, none, none, none, none, none, none, none, none, none, none, none, none, none, none, none, none, none] [.int v414.1, .ref 48] v414.2.1 v414.2.2 _ _
  refine rr_iconst (v := 0) C dL_law_443 (by decide) ?_
  replace hr := Option.bind_eq_some_iff.mp hr
  obtain ⟨u417, e418, hr⟩ := hr
  refine rr_cut C (kc' := 599699 + 82) (ks' := 7243768 + 36744) (by omega) (by omega) ?_
  replace hr := Option.bind_eq_some_iff.mp hr
  obtain ⟨v421, e422, hr⟩ := hr
  refine rr_callVq (as := [.int v414.1, .int 0]) (st := []) (mc' := 82) (ms' := 36744) C dL_law_444 iv_L_86 (by decide) e418 rfl (Nat.le_of_ble_eq_true rfl) (c_X10_rules (M := 40) 48 v414.1 0 (by omega) e422) (fun v_ h_ n_ q_ => ?_)
  obtain ⟨q1_, q2_, q3_, b423⟩ := q_
  subst v_; subst h_; subst n_
  try dsimp only at b423
  show WW W0 G 73 _ _ _ 447 [some (.ref 0), some (.ref 48), some (.int l2), some (.int l3), some (.int l4), some (.int l5), some (.int l6), some (.int l7), some (.int l8), some (.int l9), some (.int l10), some (.int l11), some (.int l12), some (.int l13), some (.int l14), some (.int l15), some (.int l16), some (.int l17), some (va_rf t0), none, none, none, none, none, none, none, none, none, none, none, none, none, none, none, none, none, none, none, none, none, none, none, none, none, none, none, none, none, none, none, none, none, none, none, none, none, none, none, none, none, none, none, none, none, none, none, none, none, none, none, none, none, none] [.int v421.1] v421.2.1 v421.2.2 _ _
  obtain ⟨c424, hr⟩ := ite_nn hr
  refine rr_if_eq (tgt := 452) C dL_law_447 (by decide) (fun _ => ?_) (fun q_ => absurd c424 q_)
  exact rr_keep [true, true, true, true, true, true, true, true, true, true, true, true, true, true, true, true, true, true, false, false, false, false, false, false, false, false, false, false, false, false, false, false, false, false, false, false, false, false, false, false, false, false, false, false, false, false, false, false, false, false, false, false, false, false, false, false, false, false, false, false, false, false, false, false, false, false, false, false, false, false, false, false, false] (c_law_452 l2 l3 l4 l5 l6 l7 l8 l9 l10 l11 l12 l13 l14 l15 l16 l17 C (by omega) hx0 hr)
set_option maxRecDepth 100000 in
set_option maxHeartbeats 400000 in
theorem c_law_403 {K : Nat} {nm_ : String} {W0 : mm_X} {G : mm_G} {Q_ : State → Prop} {h : mm_H} {n : Nat} (l2 : Int32) (l3 : Int32) (l4 : Int32) (l5 : Int32) (l6 : Int32) (l7 : Int32) (l8 : Int32) (l9 : Int32) (l10 : Int32) (l11 : Int32) (l12 : Int32) (l13 : Int32) (l14 : Int32) (l15 : Int32) (l16 : Int32) (l17 : Int32) (t0 : Int32) (t1 : Option Nat) (C : mm_C W0 G cL_law yL_law.cls 73 600000 7302250 (some .boolean) 300 nm_) (hn : 48 ≤ n) (hx0 : ∀ (L : List (Option Value)) (h : mm_H) (n kc ks : Nat), WW W0 G 73 600000 7302250 Q_ 2122 L [.int 1] h n kc ks) (hr : q_law_403 K h n l2 l3 l4 l5 l6 l7 l8 l9 l10 l11 l12 l13 l14 l15 l16 l17 t0 t1 = some ()) : WW W0 G 73 600000 7302250 Q_ 403 [some (.ref 0), some (.ref 48), some (.int l2), some (.int l3), some (.int l4), some (.int l5), some (.int l6), some (.int l7), some (.int l8), some (.int l9), some (.int l10), some (.int l11), some (.int l12), some (.int l13), some (.int l14), some (.int l15), some (.int l16), some (.int l17), none, none, none, none, none, none, none, none, none, none, none, none, none, none, none, none, none, none, none, none, none, none, none, none, none, none, none, none, none, none, none, none, none, none, none, none, none, none, none, none, none, none, none, none, none, none, none, none, none, none, none, none, none, none, none] [.int t0, va_rf t1] h n 599830 7285476 := by
  unfold q_law_403 at hr
  replace hr := Option.bind_eq_some_iff.mp hr
  obtain ⟨a349, e350, hr⟩ := hr
  subst e350
  replace hr := Option.bind_eq_some_iff.mp hr
  obtain ⟨u351, e352, hr⟩ := hr
  refine rr_cut C (kc' := 599829 + 1) (ks' := 7285176 + 300) (by omega) (by omega) ?_
  replace hr := Option.bind_eq_some_iff.mp hr
  obtain ⟨v355, e356, hr⟩ := hr
  refine rr_callVq (as := [.int t0]) (st := []) (mc' := 1) (ms' := 300) C dL_law_403 iv_L_39 (by decide) e352 rfl (Nat.le_of_ble_eq_true rfl) (c_J4_append_bf812 a349 t0 (by omega) e356) (fun v_ h_ n_ q_ => ?_)
  obtain ⟨q1_, q2_, q3_, b357⟩ := q_
  subst v_; subst h_; subst n_
  try dsimp only at b357
  show WW W0 G 73 _ _ _ 406 [some (.ref 0), some (.ref 48), some (.int l2), some (.int l3), some (.int l4), some (.int l5), some (.int l6), some (.int l7), some (.int l8), some (.int l9), some (.int l10), some (.int l11), some (.int l12), some (.int l13), some (.int l14), some (.int l15), some (.int l16), some (.int l17), none, none, none, none, none, none, none, none, none, none, none, none, none, none, none, none, none, none, none, none, none, none, none, none, none, none, none, none, none, none, none, none, none, none, none, none, none, none, none, none, none, none, none, none, none, none, none, none, none, none, none, none, none, none, none] [va_rf v355.1] v355.2.1 v355.2.2 _ _
  refine rr_ldcL (i := 17) C dL_law_406 (by decide) rfl ?_
  replace hr := Option.bind_eq_some_iff.mp hr
  obtain ⟨a358, e359, hr⟩ := hr
  rw [e359]
  replace hr := Option.bind_eq_some_iff.mp hr
  obtain ⟨u360, e361, hr⟩ := hr
  refine rr_cut C (kc' := 599828 + 1) (ks' := 7284876 + 300) (by omega) (by omega) ?_
  replace hr := Option.bind_eq_some_iff.mp hr
  obtain ⟨v364, e365, hr⟩ := hr
  refine rr_callVq (as := [.ref 1000017]) (st := []) (mc' := 1) (ms' := 300) C dL_law_408 iv_L_35 (by decide) e361 rfl (Nat.le_of_ble_eq_true rfl) (c_J4_append_15ec4 a358 (some 1000017) (by omega) e365) (fun v_ h_ n_ q_ => ?_)
  obtain ⟨q1_, q2_, q3_, b366⟩ := q_
  subst v_; subst h_; subst n_
  try dsimp only at b366
  show WW W0 G 73 _ _ _ 411 [some (.ref 0), some (.ref 48), some (.int l2), some (.int l3), some (.int l4), some (.int l5), some (.int l6), some (.int l7), some (.int l8), some (.int l9), some (.int l10), some (.int l11), some (.int l12), some (.int l13), some (.int l14), some (.int l15), some (.int l16), some (.int l17), none, none, none, none, none, none, none, none, none, none, none, none, none, none, none, none, none, none, none, none, none, none, none, none, none, none, none, none, none, none, none, none, none, none, none, none, none, none, none, none, none, none, none, none, none, none, none, none, none, none, none, none, none, none, none] [va_rf v364.1] v364.2.1 v364.2.2 _ _
  refine rr_iload C dL_law_411 rfl ?_
  replace hr := Option.bind_eq_some_iff.mp hr
  obtain ⟨a367, e368, hr⟩ := hr
  rw [e368]
  replace hr := Option.bind_eq_some_iff.mp hr
  obtain ⟨u369, e370, hr⟩ := hr
  refine rr_cut C (kc' := 599827 + 1) (ks' := 7284576 + 300) (by omega) (by omega) ?_
  replace hr := Option.bind_eq_some_iff.mp hr
  obtain ⟨v373, e374, hr⟩ := hr
  refine rr_callVq (as := [.int l14]) (st := []) (mc' := 1) (ms' := 300) C dL_law_413 iv_L_39 (by decide) e370 rfl (Nat.le_of_ble_eq_true rfl) (c_J4_append_bf812 a367 l14 (by omega) e374) (fun v_ h_ n_ q_ => ?_)
  obtain ⟨q1_, q2_, q3_, b375⟩ := q_
  subst v_; subst h_; subst n_
  try dsimp only at b375
  show WW W0 G 73 _ _ _ 416 [some (.ref 0), some (.ref 48), some (.int l2), some (.int l3), some (.int l4), some (.int l5), some (.int l6), some (.int l7), some (.int l8), some (.int l9), some (.int l10), some (.int l11), some (.int l12), some (.int l13), some (.int l14), some (.int l15), some (.int l16), some (.int l17), none, none, none, none, none, none, none, none, none, none, none, none, none, none, none, none, none, none, none, none, none, none, none, none, none, none, none, none, none, none, none, none, none, none, none, none, none, none, none, none, none, none, none, none, none, none, none, none, none, none, none, none, none, none, none] [va_rf v373.1] v373.2.1 v373.2.2 _ _
  refine rr_ldcL (i := 18) C dL_law_416 (by decide) rfl ?_
  replace hr := Option.bind_eq_some_iff.mp hr
  obtain ⟨a376, e377, hr⟩ := hr
  rw [e377]
  replace hr := Option.bind_eq_some_iff.mp hr
  obtain ⟨u378, e379, hr⟩ := hr
  refine rr_cut C (kc' := 599826 + 1) (ks' := 7284276 + 300) (by omega) (by omega) ?_
  replace hr := Option.bind_eq_some_iff.mp hr
  obtain ⟨v382, e383, hr⟩ := hr
  refine rr_callVq (as := [.ref 1000018]) (st := []) (mc' := 1) (ms' := 300) C dL_law_418 iv_L_35 (by decide) e379 rfl (Nat.le_of_ble_eq_true rfl) (c_J4_append_15ec4 a376 (some 1000018) (by omega) e383) (fun v_ h_ n_ q_ => ?_)
  obtain ⟨q1_, q2_, q3_, b384⟩ := q_
  subst v_; subst h_; subst n_
  try dsimp only at b384
  show WW W0 G 73 _ _ _ 421 [some (.ref 0), some (.ref 48), some (.int l2), some (.int l3), some (.int l4), some (.int l5), some (.int l6), some (.int l7), some (.int l8), some (.int l9), some (.int l10), some (.int l11), some (.int l12), some (.int l13), some (.int l14), some (.int l15), some (.int l16), some (.int l17), none, none, none, none, none, none, none, none, none, none, none, none, none, none, none, none, none, none, none, none, none, none, none, none, none, none, none, none, none, none, none, none, none, none, none, none, none, none, none, none, none, none, none, none, none, none, none, none, none, none, none, none, none, none, none] [va_rf v382.1] v382.2.1 v382.2.2 _ _
  refine rr_iload C dL_law_421 rfl ?_
  replace hr := Option.bind_eq_some_iff.mp hr
  obtain ⟨a385, e386, hr⟩ := hr
  rw [e386]
  replace hr := Option.bind_eq_some_iff.mp hr
  obtain ⟨u387, e388, hr⟩ := hr
  refine rr_cut C (kc' := 599825 + 1) (ks' := 7283976 + 300) (by omega) (by omega) ?_
  replace hr := Option.bind_eq_some_iff.mp hr
  obtain ⟨v391, e392, hr⟩ := hr
  refine rr_callVq (as := [.int l15]) (st := []) (mc' := 1) (ms' := 300) C dL_law_423 iv_L_39 (by decide) e388 rfl (Nat.le_of_ble_eq_true rfl) (c_J4_append_bf812 a385 l15 (by omega) e392) (fun v_ h_ n_ q_ => ?_)
  obtain ⟨q1_, q2_, q3_, b393⟩ := q_
  subst v_; subst h_; subst n_
  try dsimp only at b393
  show WW W0 G 73 _ _ _ 426 [some (.ref 0), some (.ref 48), some (.int l2), some (.int l3), some (.int l4), some (.int l5), some (.int l6), some (.int l7), some (.int l8), some (.int l9), some (.int l10), some (.int l11), some (.int l12), some (.int l13), some (.int l14), some (.int l15), some (.int l16), some (.int l17), none, none, none, none, none, none, none, none, none, none, none, none, none, none, none, none, none, none, none, none, none, none, none, none, none, none, none, none, none, none, none, none, none, none, none, none, none, none, none, none, none, none, none, none, none, none, none, none, none, none, none, none, none, none, none] [va_rf v391.1] v391.2.1 v391.2.2 _ _
  refine rr_ldcL (i := 6) C dL_law_426 (by decide) rfl ?_
  replace hr := Option.bind_eq_some_iff.mp hr
  obtain ⟨a394, e395, hr⟩ := hr
  rw [e395]
  replace hr := Option.bind_eq_some_iff.mp hr
  obtain ⟨u396, e397, hr⟩ := hr
  refine rr_cut C (kc' := 599824 + 1) (ks' := 7283676 + 300) (by omega) (by omega) ?_
  replace hr := Option.bind_eq_some_iff.mp hr
  obtain ⟨v400, e401, hr⟩ := hr
  refine rr_callVq (as := [.ref 1000006]) (st := []) (mc' := 1) (ms' := 300) C dL_law_428 iv_L_35 (by decide) e397 rfl (Nat.le_of_ble_eq_true rfl) (c_J4_append_15ec4 a394 (some 1000006) (by omega) e401) (fun v_ h_ n_ q_ => ?_)
  obtain ⟨q1_, q2_, q3_, b402⟩ := q_
  subst v_; subst h_; subst n_
  try dsimp only at b402
  show WW W0 G 73 _ _ _ 431 [some (.ref 0), some (.ref 48), some (.int l2), some (.int l3), some (.int l4), some (.int l5), some (.int l6), some (.int l7), some (.int l8), some (.int l9), some (.int l10), some (.int l11), some (.int l12), some (.int l13), some (.int l14), some (.int l15), some (.int l16), some (.int l17), none, none, none, none, none, none, none, none, none, none, none, none, none, none, none, none, none, none, none, none, none, none, none, none, none, none, none, none, none, none, none, none, none, none, none, none, none, none, none, none, none, none, none, none, none, none, none, none, none, none, none, none, none, none, none] [va_rf v400.1] v400.2.1 v400.2.2 _ _
  replace hr := Option.bind_eq_some_iff.mp hr
  obtain ⟨a403, e404, hr⟩ := hr
  rw [e404]
  replace hr := Option.bind_eq_some_iff.mp hr
  obtain ⟨u405, e406, hr⟩ := hr
  refine rr_cut C (kc' := 599821 + 3) (ks' := 7283072 + 604) (by omega) (by omega) ?_
  replace hr := Option.bind_eq_some_iff.mp hr
  obtain ⟨v409, e410, hr⟩ := hr
  refine rr_callVq (as := []) (st := []) (mc' := 3) (ms' := 604) C dL_law_431 iv_L_54 (by decide) e406 rfl (Nat.le_of_ble_eq_true rfl) (c_J4_toString_0e30d a403 (by omega) e410) (fun v_ h_ n_ q_ => ?_)
  obtain ⟨q1_, q2_, q3_, b411⟩ := q_
  subst v_; subst h_; subst n_
  try dsimp only at b411
  show WW W0 G 73 _ _ _ 434 [some (.ref 0), some (.ref 48), some (.int l2), some (.int l3), some (.int l4), some (.int l5), some (.int l6), some (.int l7), some (.int l8), some (.int l9), some (.int l10), some (.int l11), some (.int l12), some (.int l13), some (.int l14), some (.int l15), some (.int l16), some (.int l17), none, none, none, none, none, none, none, none, none, none, none, none, none, none, none, none, none, none, none, none, none, none, none, none, none, none, none, none, none, none, none, none, none, none, none, none, none, none, none, none, none, none, none, none, none, none, none, none, none, none, none, none, none, none, none] [va_rf v409.1] v409.2.1 v409.2.2 _ _
  exact rr_keep [true, true, true, true, true, true, true, true, true, true, true, true, true, true, true, true, true, true, false, false, false, false, false, false, false, false, false, false, false, false, false, false, false, false, false, false, false, false, false, false, false, false, false, false, false, false, false, false, false, false, false, false, false, false, false, false, false, false, false, false, false, false, false, false, false, false, false, false, false, false, false, false, false] (c_law_434 l2 l3 l4 l5 l6 l7 l8 l9 l10 l11 l12 l13 l14 l15 l16 l17 v409.1 C (by omega) hx0 hr)
set_option maxRecDepth 100000 in
set_option maxHeartbeats 400000 in
theorem c_law_378 {K : Nat} {nm_ : String} {W0 : mm_X} {G : mm_G} {Q_ : State → Prop} {h : mm_H} {n : Nat} (l2 : Int32) (l3 : Int32) (l4 : Int32) (l5 : Int32) (l6 : Int32) (l7 : Int32) (l8 : Int32) (l9 : Int32) (l10 : Int32) (l11 : Int32) (l12 : Int32) (l13 : Int32) (l14 : Int32) (l15 : Int32) (l16 : Int32) (l17 : Int32) (t0 : Nat) (t1 : Option Nat) (C : mm_C W0 G cL_law yL_law.cls 73 600000 7302250 (some .boolean) 300 nm_) (hn : 48 ≤ n) (hx0 : ∀ (L : List (Option Value)) (h : mm_H) (n kc ks : Nat), WW W0 G 73 600000 7302250 Q_ 2122 L [.int 1] h n kc ks) (hr : q_law_378 K h n l2 l3 l4 l5 l6 l7 l8 l9 l10 l11 l12 l13 l14 l15 l16 l17 t0 t1 = some ()) : WW W0 G 73 600000 7302250 Q_ 378 [some (.ref 0), some (.ref 48), some (.int l2), some (.int l3), some (.int l4), some (.int l5), some (.int l6), some (.int l7), some (.int l8), some (.int l9), some (.int l10), some (.int l11), some (.int l12), some (.int l13), some (.int l14), some (.int l15), some (.int l16), some (.int l17), none, none, none, none, none, none, none, none, none, none, none, none, none, none, none, none, none, none, none, none, none, none, none, none, none, none, none, none, none, none, none, none, none, none, none, none, none, none, none, none, none, none, none, none, none, none, none, none, none, none, none, none, none, none, none] [.ref t0, va_rf t1] h n 599835 7286976 := by
  unfold q_law_378 at hr
  replace hr := Option.bind_eq_some_iff.mp hr
  obtain ⟨a304, e305, hr⟩ := hr
  subst e305
  replace hr := Option.bind_eq_some_iff.mp hr
  obtain ⟨u306, e307, hr⟩ := hr
  refine rr_cut C (kc' := 599834 + 1) (ks' := 7286676 + 300) (by omega) (by omega) ?_
  replace hr := Option.bind_eq_some_iff.mp hr
  obtain ⟨v310, e311, hr⟩ := hr
  refine rr_callVq (as := [.ref t0]) (st := []) (mc' := 1) (ms' := 300) C dL_law_378 iv_L_35 (by decide) e307 rfl (Nat.le_of_ble_eq_true rfl) (c_J4_append_15ec4 a304 (some t0) (by omega) e311) (fun v_ h_ n_ q_ => ?_)
  obtain ⟨q1_, q2_, q3_, b312⟩ := q_
  subst v_; subst h_; subst n_
  try dsimp only at b312
  show WW W0 G 73 _ _ _ 381 [some (.ref 0), some (.ref 48), some (.int l2), some (.int l3), some (.int l4), some (.int l5), some (.int l6), some (.int l7), some (.int l8), some (.int l9), some (.int l10), some (.int l11), some (.int l12), some (.int l13), some (.int l14), some (.int l15), some (.int l16), some (.int l17), none, none, none, none, none, none, none, none, none, none, none, none, none, none, none, none, none, none, none, none, none, none, none, none, none, none, none, none, none, none, none, none, none, none, none, none, none, none, none, none, none, none, none, none, none, none, none, none, none, none, none, none, none, none, none] [va_rf v310.1] v310.2.1 v310.2.2 _ _
  refine rr_iload C dL_law_381 rfl ?_
  replace hr := Option.bind_eq_some_iff.mp hr
  obtain ⟨a313, e314, hr⟩ := hr
  rw [e314]
  replace hr := Option.bind_eq_some_iff.mp hr
  obtain ⟨u315, e316, hr⟩ := hr
  refine rr_cut C (kc' := 599833 + 1) (ks' := 7286376 + 300) (by omega) (by omega) ?_
  replace hr := Option.bind_eq_some_iff.mp hr
  obtain ⟨v319, e320, hr⟩ := hr
  refine rr_callVq (as := [.int l11]) (st := []) (mc' := 1) (ms' := 300) C dL_law_383 iv_L_39 (by decide) e316 rfl (Nat.le_of_ble_eq_true rfl) (c_J4_append_bf812 a313 l11 (by omega) e320) (fun v_ h_ n_ q_ => ?_)
  obtain ⟨q1_, q2_, q3_, b321⟩ := q_
  subst v_; subst h_; subst n_
  try dsimp only at b321
  show WW W0 G 73 _ _ _ 386 [some (.ref 0), some (.ref 48), some (.int l2), some (.int l3), some (.int l4), some (.int l5), some (.int l6), some (.int l7), some (.int l8), some (.int l9), some (.int l10), some (.int l11), some (.int l12), some (.int l13), some (.int l14), some (.int l15), some (.int l16), some (.int l17), none, none, none, none, none, none, none, none, none, none, none, none, none, none, none, none, none, none, none, none, none, none, none, none, none, none, none, none, none, none, none, none, none, none, none, none, none, none, none, none, none, none, none, none, none, none, none, none, none, none, none, none, none, none, none] [va_rf v319.1] v319.2.1 v319.2.2 _ _
  refine rr_ldcL (i := 15) C dL_law_386 (by decide) rfl ?_
  replace hr := Option.bind_eq_some_iff.mp hr
  obtain ⟨a322, e323, hr⟩ := hr
  rw [e323]
  replace hr := Option.bind_eq_some_iff.mp hr
  obtain ⟨u324, e325, hr⟩ := hr
  refine rr_cut C (kc' := 599832 + 1) (ks' := 7286076 + 300) (by omega) (by omega) ?_
  replace hr := Option.bind_eq_some_iff.mp hr
  obtain ⟨v328, e329, hr⟩ := hr
  refine rr_callVq (as := [.ref 1000015]) (st := []) (mc' := 1) (ms' := 300) C dL_law_388 iv_L_35 (by decide) e325 rfl (Nat.le_of_ble_eq_true rfl) (c_J4_append_15ec4 a322 (some 1000015) (by omega) e329) (fun v_ h_ n_ q_ => ?_)
  obtain ⟨q1_, q2_, q3_, b330⟩ := q_
  subst v_; subst h_; subst n_
  try dsimp only at b330
  show WW W0 G 73 _ _ _ 391 [some (.ref 0), some (.ref 48), some (.int l2), some (.int l3), some (.int l4), some (.int l5), some (.int l6), some (.int l7), some (.int l8), some (.int l9), some (.int l10), some (.int l11), some (.int l12), some (.int l13), some (.int l14), some (.int l15), some (.int l16), some (.int l17), none, none, none, none, none, none, none, none, none, none, none, none, none, none, none, none, none, none, none, none, none, none, none, none, none, none, none, none, none, none, none, none, none, none, none, none, none, none, none, none, none, none, none, none, none, none, none, none, none, none, none, none, none, none, none] [va_rf v328.1] v328.2.1 v328.2.2 _ _
  refine rr_iload C dL_law_391 rfl ?_
  replace hr := Option.bind_eq_some_iff.mp hr
  obtain ⟨a331, e332, hr⟩ := hr
  rw [e332]
  replace hr := Option.bind_eq_some_iff.mp hr
  obtain ⟨u333, e334, hr⟩ := hr
  refine rr_cut C (kc' := 599831 + 1) (ks' := 7285776 + 300) (by omega) (by omega) ?_
  replace hr := Option.bind_eq_some_iff.mp hr
  obtain ⟨v337, e338, hr⟩ := hr
  refine rr_callVq (as := [.int l12]) (st := []) (mc' := 1) (ms' := 300) C dL_law_393 iv_L_39 (by decide) e334 rfl (Nat.le_of_ble_eq_true rfl) (c_J4_append_bf812 a331 l12 (by omega) e338) (fun v_ h_ n_ q_ => ?_)
  obtain ⟨q1_, q2_, q3_, b339⟩ := q_
  subst v_; subst h_; subst n_
  try dsimp only at b339
  show WW W0 G 73 _ _ _ 396 [some (.ref 0), some (.ref 48), some (.int l2), some (.int l3), some (.int l4), some (.int l5), some (.int l6), some (.int l7), some (.int l8), some (.int l9), some (.int l10), some (.int l11), some (.int l12), some (.int l13), some (.int l14), some (.int l15), some (.int l16), some (.int l17), none, none, none, none, none, none, none, none, none, none, none, none, none, none, none, none, none, none, none, none, none, none, none, none, none, none, none, none, none, none, none, none, none, none, none, none, none, none, none, none, none, none, none, none, none, none, none, none, none, none, none, none, none, none, none] [va_rf v337.1] v337.2.1 v337.2.2 _ _
  refine rr_ldcL (i := 16) C dL_law_396 (by decide) rfl ?_
  replace hr := Option.bind_eq_some_iff.mp hr
  obtain ⟨a340, e341, hr⟩ := hr
  rw [e341]
  replace hr := Option.bind_eq_some_iff.mp hr
  obtain ⟨u342, e343, hr⟩ := hr
  refine rr_cut C (kc' := 599830 + 1) (ks' := 7285476 + 300) (by omega) (by omega) ?_
  replace hr := Option.bind_eq_some_iff.mp hr
  obtain ⟨v346, e347, hr⟩ := hr
  refine rr_callVq (as := [.ref 1000016]) (st := []) (mc' := 1) (ms' := 300) C dL_law_398 iv_L_35 (by decide) e343 rfl (Nat.le_of_ble_eq_true rfl) (c_J4_append_15ec4 a340 (some 1000016) (by omega) e347) (fun v_ h_ n_ q_ => ?_)
  obtain ⟨q1_, q2_, q3_, b348⟩ := q_
  subst v_; subst h_; subst n_
  try dsimp only at b348
  show WW W0 G 73 _ _ _ 401 [some (.ref 0), some (.ref 48), some (.int l2), some (.int l3), some (.int l4), some (.int l5), some (.int l6), some (.int l7), some (.int l8), some (.int l9), some (.int l10), some (.int l11), some (.int l12), some (.int l13), some (.int l14), some (.int l15), some (.int l16), some (.int l17), none, none, none, none, none, none, none, none, none, none, none, none, none, none, none, none, none, none, none, none, none, none, none, none, none, none, none, none, none, none, none, none, none, none, none, none, none, none, none, none, none, none, none, none, none, none, none, none, none, none, none, none, none, none, none] [va_rf v346.1] v346.2.1 v346.2.2 _ _
  refine rr_iload C dL_law_401 rfl ?_
  exact rr_keep [true, true, true, true, true, true, true, true, true, true, true, true, true, true, true, true, true, true, false, false, false, false, false, false, false, false, false, false, false, false, false, false, false, false, false, false, false, false, false, false, false, false, false, false, false, false, false, false, false, false, false, false, false, false, false, false, false, false, false, false, false, false, false, false, false, false, false, false, false, false, false, false, false] (c_law_403 l2 l3 l4 l5 l6 l7 l8 l9 l10 l11 l12 l13 l14 l15 l16 l17 l13 v346.1 C (by omega) hx0 hr)
set_option maxRecDepth 100000 in
set_option maxHeartbeats 400000 in
theorem c_law_346 {K : Nat} {nm_ : String} {W0 : mm_X} {G : mm_G} {Q_ : State → Prop} {h : mm_H} {n : Nat} (l2 : Int32) (l3 : Int32) (l4 : Int32) (l5 : Int32) (l6 : Int32) (l7 : Int32) (l8 : Int32) (l9 : Int32) (l10 : Int32) (l11 : Int32) (l12 : Int32) (l13 : Int32) (l14 : Int32) (l15 : Int32) (l16 : Int32) (l17 : Int32) (t0 : Option Nat) (C : mm_C W0 G cL_law yL_law.cls 73 600000 7302250 (some .boolean) 300 nm_) (hn : 48 ≤ n) (hx0 : ∀ (L : List (Option Value)) (h : mm_H) (n kc ks : Nat), WW W0 G 73 600000 7302250 Q_ 2122 L [.int 1] h n kc ks) (hr : q_law_346 K h n l2 l3 l4 l5 l6 l7 l8 l9 l10 l11 l12 l13 l14 l15 l16 l17 t0 = some ()) : WW W0 G 73 600000 7302250 Q_ 346 [some (.ref 0), some (.ref 48), some (.int l2), some (.int l3), some (.int l4), some (.int l5), some (.int l6), some (.int l7), some (.int l8), some (.int l9), some (.int l10), some (.int l11), some (.int l12), some (.int l13), some (.int l14), some (.int l15), some (.int l16), some (.int l17), none, none, none, none, none, none, none, none, none, none, none, none, none, none, none, none, none, none, none, none, none, none, none, none, none, none, none, none, none, none, none, none, none, none, none, none, none, none, none, none, none, none, none, none, none, none, none, none, none, none, none, none, none, none, none] [va_rf t0] h n 599839 7288176 := by
  unfold q_law_346 at hr
  refine rr_iload C dL_law_346 rfl ?_
  replace hr := Option.bind_eq_some_iff.mp hr
  obtain ⟨a264, e265, hr⟩ := hr
  subst e265
  replace hr := Option.bind_eq_some_iff.mp hr
  obtain ⟨u266, e267, hr⟩ := hr
  refine rr_cut C (kc' := 599838 + 1) (ks' := 7287876 + 300) (by omega) (by omega) ?_
  replace hr := Option.bind_eq_some_iff.mp hr
  obtain ⟨v270, e271, hr⟩ := hr
  refine rr_callVq (as := [.int l9]) (st := []) (mc' := 1) (ms' := 300) C dL_law_348 iv_L_39 (by decide) e267 rfl (Nat.le_of_ble_eq_true rfl) (c_J4_append_bf812 a264 l9 (by omega) e271) (fun v_ h_ n_ q_ => ?_)
  obtain ⟨q1_, q2_, q3_, b272⟩ := q_
  subst v_; subst h_; subst n_
  try dsimp only at b272
  show WW W0 G 73 _ _ _ 351 [some (.ref 0), some (.ref 48), some (.int l2), some (.int l3), some (.int l4), some (.int l5), some (.int l6), some (.int l7), some (.int l8), some (.int l9), some (.int l10), some (.int l11), some (.int l12), some (.int l13), some (.int l14), some (.int l15), some (.int l16), some (.int l17), none, none, none, none, none, none, none, none, none, none, none, none, none, none, none, none, none, none, none, none, none, none, none, none, none, none, none, none, none, none, none, none, none, none, none, none, none, none, none, none, none, none, none, none, none, none, none, none, none, none, none, none, none, none, none] [va_rf v270.1] v270.2.1 v270.2.2 _ _
  refine rr_ldcL (i := 11) C dL_law_351 (by decide) rfl ?_
  replace hr := Option.bind_eq_some_iff.mp hr
  obtain ⟨a273, e274, hr⟩ := hr
  rw [e274]
  replace hr := Option.bind_eq_some_iff.mp hr
  obtain ⟨u275, e276, hr⟩ := hr
  refine rr_cut C (kc' := 599837 + 1) (ks' := 7287576 + 300) (by omega) (by omega) ?_
  replace hr := Option.bind_eq_some_iff.mp hr
  obtain ⟨v279, e280, hr⟩ := hr
  refine rr_callVq (as := [.ref 1000011]) (st := []) (mc' := 1) (ms' := 300) C dL_law_353 iv_L_35 (by decide) e276 rfl (Nat.le_of_ble_eq_true rfl) (c_J4_append_15ec4 a273 (some 1000011) (by omega) e280) (fun v_ h_ n_ q_ => ?_)
  obtain ⟨q1_, q2_, q3_, b281⟩ := q_
  subst v_; subst h_; subst n_
  try dsimp only at b281
  show WW W0 G 73 _ _ _ 356 [some (.ref 0), some (.ref 48), some (.int l2), some (.int l3), some (.int l4), some (.int l5), some (.int l6), some (.int l7), some (.int l8), some (.int l9), some (.int l10), some (.int l11), some (.int l12), some (.int l13), some (.int l14), some (.int l15), some (.int l16), some (.int l17), none, none, none, none, none, none, none, none, none, none, none, none, none, none, none, none, none, none, none, none, none, none, none, none, none, none, none, none, none, none, none, none, none, none, none, none, none, none, none, none, none, none, none, none, none, none, none, none, none, none, none, none, none, none, none] [va_rf v279.1] v279.2.1 v279.2.2 _ _
  refine rr_iload C dL_law_356 rfl ?_
  replace hr := Option.bind_eq_some_iff.mp hr
  obtain ⟨a282, e283, hr⟩ := hr
  rw [e283]
  replace hr := Option.bind_eq_some_iff.mp hr
  obtain ⟨u284, e285, hr⟩ := hr
  refine rr_cut C (kc' := 599836 + 1) (ks' := 7287276 + 300) (by omega) (by omega) ?_
  replace hr := Option.bind_eq_some_iff.mp hr
  obtain ⟨v288, e289, hr⟩ := hr
  refine rr_callVq (as := [.int l10]) (st := []) (mc' := 1) (ms' := 300) C dL_law_358 iv_L_39 (by decide) e285 rfl (Nat.le_of_ble_eq_true rfl) (c_J4_append_bf812 a282 l10 (by omega) e289) (fun v_ h_ n_ q_ => ?_)
  obtain ⟨q1_, q2_, q3_, b290⟩ := q_
  subst v_; subst h_; subst n_
  try dsimp only at b290
  show WW W0 G 73 _ _ _ 361 [some (.ref 0), some (.ref 48), some (.int l2), some (.int l3), some (.int l4), some (.int l5), some (.int l6), some (.int l7), some (.int l8), some (.int l9), some (.int l10), some (.int l11), some (.int l12), some (.int l13), some (.int l14), some (.int l15), some (.int l16), some (.int l17), none, none, none, none, none, none, none, none, none, none, none, none, none, none, none, none, none, none, none, none, none, none, none, none, none, none, none, none, none, none, none, none, none, none, none, none, none, none, none, none, none, none, none, none, none, none, none, none, none, none, none, none, none, none, none] [va_rf v288.1] v288.2.1 v288.2.2 _ _
  refine rr_ldcL (i := 12) C dL_law_361 (by decide) rfl ?_
  replace hr := Option.bind_eq_some_iff.mp hr
  obtain ⟨a291, e292, hr⟩ := hr
  rw [e292]
  replace hr := Option.bind_eq_some_iff.mp hr
  obtain ⟨u293, e294, hr⟩ := hr
  refine rr_cut C (kc' := 599835 + 1) (ks' := 7286976 + 300) (by omega) (by omega) ?_
  replace hr := Option.bind_eq_some_iff.mp hr
  obtain ⟨v297, e298, hr⟩ := hr
  refine rr_callVq (as := [.ref 1000012]) (st := []) (mc' := 1) (ms' := 300) C dL_law_363 iv_L_35 (by decide) e294 rfl (Nat.le_of_ble_eq_true rfl) (c_J4_append_15ec4 a291 (some 1000012) (by omega) e298) (fun v_ h_ n_ q_ => ?_)
  obtain ⟨q1_, q2_, q3_, b299⟩ := q_
  subst v_; subst h_; subst n_
  try dsimp only at b299
  show WW W0 G 73 _ _ _ 366 [some (.ref 0), some (.ref 48), some (.int l2), some (.int l3), some (.int l4), some (.int l5), some (.int l6), some (.int l7), some (.int l8), some (.int l9), some (.int l10), some (.int l11), some (.int l12), some (.int l13), some (.int l14), some (.int l15), some (.int l16), some (.int l17), none, none, none, none, none, none, none, none, none, none, none, none, none, none, none, none, none, none, none, none, none, none, none, none, none, none, none, none, none, none, none, none, none, none, none, none, none, none, none, none, none, none, none, none, none, none, none, none, none, none, none, none, none, none, none] [va_rf v297.1] v297.2.1 v297.2.2 _ _
  refine rr_iload C dL_law_366 rfl ?_
  replace hr := Option.bind_eq_some_iff.mp hr
  obtain ⟨y301, er303, hr⟩ := hr
  refine rr_join0 (pc' := 378) (L' := [some (.ref 0), some (.ref 48), some (.int l2), some (.int l3), some (.int l4), some (.int l5), some (.int l6), some (.int l7), some (.int l8), some (.int l9), some (.int l10), some (.int l11), some (.int l12), some (.int l13), some (.int l14), some (.int l15), some (.int l16), some (.int l17), none, none, none, none, none, none, none, none, none, none, none, none, none, none, none, none, none, none, none, none, none, none, none, none, none, none, none, none, none, none, none, none, none, none, none, none, none, none, none, none, none, none, none, none, none, none, none, none, none, none, none, none, none, none, none]) (st' := [.ref y301, va_rf v297.1]) (h' := v297.2.1) (n' := v297.2.2) C (fun hj302 => ?_) ?_
  · have hr := er303
    refine rr_if_eq (tgt := 376) C dL_law_368 (by decide) (fun c300 => ?_) (fun c300 => ?_)
    · replace hr := (if_pos c300).symm.trans hr
      refine rr_ldcL (i := 14) C dL_law_376 (by decide) rfl ?_
      cases hr
      exact rr_keep [true, true, true, true, true, true, true, true, true, true, true, true, true, true, true, true, true, true, false, false, false, false, false, false, false, false, false, false, false, false, false, false, false, false, false, false, false, false, false, false, false, false, false, false, false, false, false, false, false, false, false, false, false, false, false, false, false, false, false, false, false, false, false, false, false, false, false, false, false, false, false, false, false] hj302
    · replace hr := (if_neg c300).symm.trans hr
      refine rr_ldcL (i := 13) C dL_law_371 (by decide) rfl ?_
      refine rr_goto (tgt := 378) C dL_law_373 (by decide) ?_
      cases hr
      exact rr_keep [true, true, true, true, true, true, true, true, true, true, true, true, true, true, true, true, true, true, false, false, false, false, false, false, false, false, false, false, false, false, false, false, false, false, false, false, false, false, false, false, false, false, false, false, false, false, false, false, false, false, false, false, false, false, false, false, false, false, false, false, false, false, false, false, false, false, false, false, false, false, false, false, false] hj302
  exact rr_keep [true, true, true, true, true, true, true, true, true, true, true, true, true, true, true, true, true, true, false, false, false, false, false, false, false, false, false, false, false, false, false, false, false, false, false, false, false, false, false, false, false, false, false, false, false, false, false, false, false, false, false, false, false, false, false, false, false, false, false, false, false, false, false, false, false, false, false, false, false, false, false, false, false] (c_law_378 l2 l3 l4 l5 l6 l7 l8 l9 l10 l11 l12 l13 l14 l15 l16 l17 y301 v297.1 C (by omega) hx0 hr)
set_option maxRecDepth 100000 in
set_option maxHeartbeats 400000 in
theorem c_law_318 {K : Nat} {nm_ : String} {W0 : mm_X} {G : mm_G} {Q_ : State → Prop} {h : mm_H} {n : Nat} (l2 : Int32) (l3 : Int32) (l4 : Int32) (l5 : Int32) (l6 : Int32) (l7 : Int32) (l8 : Int32) (l9 : Int32) (l10 : Int32) (l11 : Int32) (l12 : Int32) (l13 : Int32) (l14 : Int32) (l15 : Int32) (l16 : Int32) (l17 : Int32) (t0 : Option Nat) (t1 : Option Nat) (C : mm_C W0 G cL_law yL_law.cls 73 600000 7302250 (some .boolean) 300 nm_) (hn : 48 ≤ n) (hx0 : ∀ (L : List (Option Value)) (h : mm_H) (n kc ks : Nat), WW W0 G 73 600000 7302250 Q_ 2122 L [.int 1] h n kc ks) (hr : q_law_318 K h n l2 l3 l4 l5 l6 l7 l8 l9 l10 l11 l12 l13 l14 l15 l16 l17 t0 t1 = some ()) : WW W0 G 73 600000 7302250 Q_ 318 [some (.ref 0), some (.ref 48), some (.int l2), some (.int l3), some (.int l4), some (.int l5), some (.int l6), some (.int l7), some (.int l8), some (.int l9), some (.int l10), some (.int l11), some (.int l12), some (.int l13), some (.int l14), some (.int l15), some (.int l16), some (.int l17), none, none, none, none, none, none, none, none, none, none, none, none, none, none, none, none, none, none, none, none, none, none, none, none, none, none, none, none, none, none, none, none, none, none, none, none, none, none, none, none, none, none, none, none, none, none, none, none, none, none, none, none, none, none, none] [va_rf t0, va_rf t1] h n 599845 7289976 := by
  unfold q_law_318 at hr
  replace hr := Option.bind_eq_some_iff.mp hr
  obtain ⟨a210, e211, hr⟩ := hr
  subst e211
  replace hr := Option.bind_eq_some_iff.mp hr
  obtain ⟨u212, e213, hr⟩ := hr
  refine rr_cut C (kc' := 599844 + 1) (ks' := 7289676 + 300) (by omega) (by omega) ?_
  replace hr := Option.bind_eq_some_iff.mp hr
  obtain ⟨v216, e217, hr⟩ := hr
  refine rr_callVq (as := [va_rf t0]) (st := []) (mc' := 1) (ms' := 300) C dL_law_318 iv_L_35 (by decide) e213 rfl (Nat.le_of_ble_eq_true rfl) (c_J4_append_15ec4 a210 t0 (by omega) e217) (fun v_ h_ n_ q_ => ?_)
  obtain ⟨q1_, q2_, q3_, b218⟩ := q_
  subst v_; subst h_; subst n_
  try dsimp only at b218
  show WW W0 G 73 _ _ _ 321 [some (.ref 0), some (.ref 48), some (.int l2), some (.int l3), some (.int l4), some (.int l5), some (.int l6), some (.int l7), some (.int l8), some (.int l9), some (.int l10), some (.int l11), some (.int l12), some (.int l13), some (.int l14), some (.int l15), some (.int l16), some (.int l17), none, none, none, none, none, none, none, none, none, none, none, none, none, none, none, none, none, none, none, none, none, none, none, none, none, none, none, none, none, none, none, none, none, none, none, none, none, none, none, none, none, none, none, none, none, none, none, none, none, none, none, none, none, none, none] [va_rf v216.1] v216.2.1 v216.2.2 _ _
  refine rr_ldcL (i := 8) C dL_law_321 (by decide) rfl ?_
  replace hr := Option.bind_eq_some_iff.mp hr
  obtain ⟨a219, e220, hr⟩ := hr
  rw [e220]
  replace hr := Option.bind_eq_some_iff.mp hr
  obtain ⟨u221, e222, hr⟩ := hr
  refine rr_cut C (kc' := 599843 + 1) (ks' := 7289376 + 300) (by omega) (by omega) ?_
  replace hr := Option.bind_eq_some_iff.mp hr
  obtain ⟨v225, e226, hr⟩ := hr
  refine rr_callVq (as := [.ref 1000008]) (st := []) (mc' := 1) (ms' := 300) C dL_law_323 iv_L_35 (by decide) e222 rfl (Nat.le_of_ble_eq_true rfl) (c_J4_append_15ec4 a219 (some 1000008) (by omega) e226) (fun v_ h_ n_ q_ => ?_)
  obtain ⟨q1_, q2_, q3_, b227⟩ := q_
  subst v_; subst h_; subst n_
  try dsimp only at b227
  show WW W0 G 73 _ _ _ 326 [some (.ref 0), some (.ref 48), some (.int l2), some (.int l3), some (.int l4), some (.int l5), some (.int l6), some (.int l7), some (.int l8), some (.int l9), some (.int l10), some (.int l11), some (.int l12), some (.int l13), some (.int l14), some (.int l15), some (.int l16), some (.int l17), none, none, none, none, none, none, none, none, none, none, none, none, none, none, none, none, none, none, none, none, none, none, none, none, none, none, none, none, none, none, none, none, none, none, none, none, none, none, none, none, none, none, none, none, none, none, none, none, none, none, none, none, none, none, none] [va_rf v225.1] v225.2.1 v225.2.2 _ _
  refine rr_iload C dL_law_326 rfl ?_
  replace hr := Option.bind_eq_some_iff.mp hr
  obtain ⟨a228, e229, hr⟩ := hr
  rw [e229]
  replace hr := Option.bind_eq_some_iff.mp hr
  obtain ⟨u230, e231, hr⟩ := hr
  refine rr_cut C (kc' := 599842 + 1) (ks' := 7289076 + 300) (by omega) (by omega) ?_
  replace hr := Option.bind_eq_some_iff.mp hr
  obtain ⟨v234, e235, hr⟩ := hr
  refine rr_callVq (as := [.int l7]) (st := []) (mc' := 1) (ms' := 300) C dL_law_328 iv_L_39 (by decide) e231 rfl (Nat.le_of_ble_eq_true rfl) (c_J4_append_bf812 a228 l7 (by omega) e235) (fun v_ h_ n_ q_ => ?_)
  obtain ⟨q1_, q2_, q3_, b236⟩ := q_
  subst v_; subst h_; subst n_
  try dsimp only at b236
  show WW W0 G 73 _ _ _ 331 [some (.ref 0), some (.ref 48), some (.int l2), some (.int l3), some (.int l4), some (.int l5), some (.int l6), some (.int l7), some (.int l8), some (.int l9), some (.int l10), some (.int l11), some (.int l12), some (.int l13), some (.int l14), some (.int l15), some (.int l16), some (.int l17), none, none, none, none, none, none, none, none, none, none, none, none, none, none, none, none, none, none, none, none, none, none, none, none, none, none, none, none, none, none, none, none, none, none, none, none, none, none, none, none, none, none, none, none, none, none, none, none, none, none, none, none, none, none, none] [va_rf v234.1] v234.2.1 v234.2.2 _ _
  refine rr_ldcL (i := 9) C dL_law_331 (by decide) rfl ?_
  replace hr := Option.bind_eq_some_iff.mp hr
  obtain ⟨a237, e238, hr⟩ := hr
  rw [e238]
  replace hr := Option.bind_eq_some_iff.mp hr
  obtain ⟨u239, e240, hr⟩ := hr
  refine rr_cut C (kc' := 599841 + 1) (ks' := 7288776 + 300) (by omega) (by omega) ?_
  replace hr := Option.bind_eq_some_iff.mp hr
  obtain ⟨v243, e244, hr⟩ := hr
  refine rr_callVq (as := [.ref 1000009]) (st := []) (mc' := 1) (ms' := 300) C dL_law_333 iv_L_35 (by decide) e240 rfl (Nat.le_of_ble_eq_true rfl) (c_J4_append_15ec4 a237 (some 1000009) (by omega) e244) (fun v_ h_ n_ q_ => ?_)
  obtain ⟨q1_, q2_, q3_, b245⟩ := q_
  subst v_; subst h_; subst n_
  try dsimp only at b245
  show WW W0 G 73 _ _ _ 336 [some (.ref 0), some (.ref 48), some (.int l2), some (.int l3), some (.int l4), some (.int l5), some (.int l6), some (.int l7), some (.int l8), some (.int l9), some (.int l10), some (.int l11), some (.int l12), some (.int l13), some (.int l14), some (.int l15), some (.int l16), some (.int l17), none, none, none, none, none, none, none, none, none, none, none, none, none, none, none, none, none, none, none, none, none, none, none, none, none, none, none, none, none, none, none, none, none, none, none, none, none, none, none, none, none, none, none, none, none, none, none, none, none, none, none, none, none, none, none] [va_rf v243.1] v243.2.1 v243.2.2 _ _
  refine rr_iload C dL_law_336 rfl ?_
  replace hr := Option.bind_eq_some_iff.mp hr
  obtain ⟨a246, e247, hr⟩ := hr
  rw [e247]
  replace hr := Option.bind_eq_some_iff.mp hr
  obtain ⟨u248, e249, hr⟩ := hr
  refine rr_cut C (kc' := 599840 + 1) (ks' := 7288476 + 300) (by omega) (by omega) ?_
  replace hr := Option.bind_eq_some_iff.mp hr
  obtain ⟨v252, e253, hr⟩ := hr
  refine rr_callVq (as := [.int l8]) (st := []) (mc' := 1) (ms' := 300) C dL_law_338 iv_L_39 (by decide) e249 rfl (Nat.le_of_ble_eq_true rfl) (c_J4_append_bf812 a246 l8 (by omega) e253) (fun v_ h_ n_ q_ => ?_)
  obtain ⟨q1_, q2_, q3_, b254⟩ := q_
  subst v_; subst h_; subst n_
  try dsimp only at b254
  show WW W0 G 73 _ _ _ 341 [some (.ref 0), some (.ref 48), some (.int l2), some (.int l3), some (.int l4), some (.int l5), some (.int l6), some (.int l7), some (.int l8), some (.int l9), some (.int l10), some (.int l11), some (.int l12), some (.int l13), some (.int l14), some (.int l15), some (.int l16), some (.int l17), none, none, none, none, none, none, none, none, none, none, none, none, none, none, none, none, none, none, none, none, none, none, none, none, none, none, none, none, none, none, none, none, none, none, none, none, none, none, none, none, none, none, none, none, none, none, none, none, none, none, none, none, none, none, none] [va_rf v252.1] v252.2.1 v252.2.2 _ _
  refine rr_ldcL (i := 10) C dL_law_341 (by decide) rfl ?_
  replace hr := Option.bind_eq_some_iff.mp hr
  obtain ⟨a255, e256, hr⟩ := hr
  rw [e256]
  replace hr := Option.bind_eq_some_iff.mp hr
  obtain ⟨u257, e258, hr⟩ := hr
  refine rr_cut C (kc' := 599839 + 1) (ks' := 7288176 + 300) (by omega) (by omega) ?_
  replace hr := Option.bind_eq_some_iff.mp hr
  obtain ⟨v261, e262, hr⟩ := hr
  refine rr_callVq (as := [.ref 1000010]) (st := []) (mc' := 1) (ms' := 300) C dL_law_343 iv_L_35 (by decide) e258 rfl (Nat.le_of_ble_eq_true rfl) (c_J4_append_15ec4 a255 (some 1000010) (by omega) e262) (fun v_ h_ n_ q_ => ?_)
  obtain ⟨q1_, q2_, q3_, b263⟩ := q_
  subst v_; subst h_; subst n_
  try dsimp only at b263
  show WW W0 G 73 _ _ _ 346 [some (.ref 0), some (.ref 48), some (.int l2), some (.int l3), some (.int l4), some (.int l5), some (.int l6), some (.int l7), some (.int l8), some (.int l9), some (.int l10), some (.int l11), some (.int l12), some (.int l13), some (.int l14), some (.int l15), some (.int l16), some (.int l17), none, none, none, none, none, none, none, none, none, none, none, none, none, none, none, none, none, none, none, none, none, none, none, none, none, none, none, none, none, none, none, none, none, none, none, none, none, none, none, none, none, none, none, none, none, none, none, none, none, none, none, none, none, none, none] [va_rf v261.1] v261.2.1 v261.2.2 _ _
  exact rr_keep [true, true, true, true, true, true, true, true, true, true, true, true, true, true, true, true, true, true, false, false, false, false, false, false, false, false, false, false, false, false, false, false, false, false, false, false, false, false, false, false, false, false, false, false, false, false, false, false, false, false, false, false, false, false, false, false, false, false, false, false, false, false, false, false, false, false, false, false, false, false, false, false, false] (c_law_346 l2 l3 l4 l5 l6 l7 l8 l9 l10 l11 l12 l13 l14 l15 l16 l17 v261.1 C (by omega) hx0 hr)
set_option maxRecDepth 100000 in
set_option maxHeartbeats 400000 in
theorem c_law_263 {K : Nat} {nm_ : String} {W0 : mm_X} {G : mm_G} {Q_ : State → Prop} {h : mm_H} {n : Nat} (l2 : Int32) (l3 : Int32) (l4 : Int32) (l5 : Int32) (l6 : Int32) (l7 : Int32) (l8 : Int32) (l9 : Int32) (l10 : Int32) (l11 : Int32) (l12 : Int32) (l13 : Int32) (l14 : Int32) (l15 : Int32) (l16 : Int32) (l17 : Int32) (t0 : Option Nat) (C : mm_C W0 G cL_law yL_law.cls 73 600000 7302250 (some .boolean) 300 nm_) (hn : 48 ≤ n) (hx0 : ∀ (L : List (Option Value)) (h : mm_H) (n kc ks : Nat), WW W0 G 73 600000 7302250 Q_ 2122 L [.int 1] h n kc ks) (hr : q_law_263 K h n l2 l3 l4 l5 l6 l7 l8 l9 l10 l11 l12 l13 l14 l15 l16 l17 t0 = some ()) : WW W0 G 73 600000 7302250 Q_ 263 [some (.ref 0), some (.ref 48), some (.int l2), some (.int l3), some (.int l4), some (.int l5), some (.int l6), some (.int l7), some (.int l8), some (.int l9), some (.int l10), some (.int l11), some (.int l12), some (.int l13), some (.int l14), some (.int l15), some (.int l16), some (.int l17), none, none, none, none, none, none, none, none, none, none, none, none, none, none, none, none, none, none, none, none, none, none, none, none, none, none, none, none, none, none, none, none, none, none, none, none, none, none, none, none, none, none, none, none, none, none, none, none, none, none, none, none, none, none, none] [va_rf t0] h n 599857 7292700 := by
  unfold q_law_263 at hr
  refine rr_iload C dL_law_263 rfl ?_
  replace hr := Option.bind_eq_some_iff.mp hr
  obtain ⟨a126, e127, hr⟩ := hr
  subst e127
  replace hr := Option.bind_eq_some_iff.mp hr
  obtain ⟨u128, e129, hr⟩ := hr
  refine rr_cut C (kc' := 599856 + 1) (ks' := 7292400 + 300) (by omega) (by omega) ?_
  replace hr := Option.bind_eq_some_iff.mp hr
  obtain ⟨v132, e133, hr⟩ := hr
  refine rr_callVq (as := [.int l4]) (st := []) (mc' := 1) (ms' := 300) C dL_law_265 iv_L_39 (by decide) e129 rfl (Nat.le_of_ble_eq_true rfl) (c_J4_append_bf812 a126 l4 (by omega) e133) (fun v_ h_ n_ q_ => ?_)
  obtain ⟨q1_, q2_, q3_, b134⟩ := q_
  subst v_; subst h_; subst n_
  try dsimp only at b134
  show WW W0 G 73 _ _ _ 268 [some (.ref 0), some (.ref 48), some (.int l2), some (.int l3), some (.int l4), some (.int l5), some (.int l6), some (.int l7), some (.int l8), some (.int l9), some (.int l10), some (.int l11), some (.int l12), some (.int l13), some (.int l14), some (.int l15), some (.int l16), some (.int l17), none, none, none, none, none, none, none, none, none, none, none, none, none, none, none, none, none, none, none, none, none, none, none, none, none, none, none, none, none, none, none, none, none, none, none, none, none, none, none, none, none, none, none, none, none, none, none, none, none, none, none, none, none, none, none] [va_rf v132.1] v132.2.1 v132.2.2 _ _
  refine rr_ldcL (i := 3) C dL_law_268 (by decide) rfl ?_
  replace hr := Option.bind_eq_some_iff.mp hr
  obtain ⟨a135, e136, hr⟩ := hr
  rw [e136]
  replace hr := Option.bind_eq_some_iff.mp hr
  obtain ⟨u137, e138, hr⟩ := hr
  refine rr_cut C (kc' := 599855 + 1) (ks' := 7292100 + 300) (by omega) (by omega) ?_
  replace hr := Option.bind_eq_some_iff.mp hr
  obtain ⟨v141, e142, hr⟩ := hr
  refine rr_callVq (as := [.ref 1000003]) (st := []) (mc' := 1) (ms' := 300) C dL_law_270 iv_L_35 (by decide) e138 rfl (Nat.le_of_ble_eq_true rfl) (c_J4_append_15ec4 a135 (some 1000003) (by omega) e142) (fun v_ h_ n_ q_ => ?_)
  obtain ⟨q1_, q2_, q3_, b143⟩ := q_
  subst v_; subst h_; subst n_
  try dsimp only at b143
  show WW W0 G 73 _ _ _ 273 [some (.ref 0), some (.ref 48), some (.int l2), some (.int l3), some (.int l4), some (.int l5), some (.int l6), some (.int l7), some (.int l8), some (.int l9), some (.int l10), some (.int l11), some (.int l12), some (.int l13), some (.int l14), some (.int l15), some (.int l16), some (.int l17), none, none, none, none, none, none, none, none, none, none, none, none, none, none, none, none, none, none, none, none, none, none, none, none, none, none, none, none, none, none, none, none, none, none, none, none, none, none, none, none, none, none, none, none, none, none, none, none, none, none, none, none, none, none, none] [va_rf v141.1] v141.2.1 v141.2.2 _ _
  refine rr_iload C dL_law_273 rfl ?_
  replace hr := Option.bind_eq_some_iff.mp hr
  obtain ⟨a144, e145, hr⟩ := hr
  rw [e145]
  replace hr := Option.bind_eq_some_iff.mp hr
  obtain ⟨u146, e147, hr⟩ := hr
  refine rr_cut C (kc' := 599854 + 1) (ks' := 7291800 + 300) (by omega) (by omega) ?_
  replace hr := Option.bind_eq_some_iff.mp hr
  obtain ⟨v150, e151, hr⟩ := hr
  refine rr_callVq (as := [.int l5]) (st := []) (mc' := 1) (ms' := 300) C dL_law_275 iv_L_39 (by decide) e147 rfl (Nat.le_of_ble_eq_true rfl) (c_J4_append_bf812 a144 l5 (by omega) e151) (fun v_ h_ n_ q_ => ?_)
  obtain ⟨q1_, q2_, q3_, b152⟩ := q_
  subst v_; subst h_; subst n_
  try dsimp only at b152
  show WW W0 G 73 _ _ _ 278 [some (.ref 0), some (.ref 48), some (.int l2), some (.int l3), some (.int l4), some (.int l5), some (.int l6), some (.int l7), some (.int l8), some (.int l9), some (.int l10), some (.int l11), some (.int l12), some (.int l13), some (.int l14), some (.int l15), some (.int l16), some (.int l17), none, none, none, none, none, none, none, none, none, none, none, none, none, none, none, none, none, none, none, none, none, none, none, none, none, none, none, none, none, none, none, none, none, none, none, none, none, none, none, none, none, none, none, none, none, none, none, none, none, none, none, none, none, none, none] [va_rf v150.1] v150.2.1 v150.2.2 _ _
  refine rr_ldcL (i := 4) C dL_law_278 (by decide) rfl ?_
  replace hr := Option.bind_eq_some_iff.mp hr
  obtain ⟨a153, e154, hr⟩ := hr
  rw [e154]
  replace hr := Option.bind_eq_some_iff.mp hr
  obtain ⟨u155, e156, hr⟩ := hr
  refine rr_cut C (kc' := 599853 + 1) (ks' := 7291500 + 300) (by omega) (by omega) ?_
  replace hr := Option.bind_eq_some_iff.mp hr
  obtain ⟨v159, e160, hr⟩ := hr
  refine rr_callVq (as := [.ref 1000004]) (st := []) (mc' := 1) (ms' := 300) C dL_law_280 iv_L_35 (by decide) e156 rfl (Nat.le_of_ble_eq_true rfl) (c_J4_append_15ec4 a153 (some 1000004) (by omega) e160) (fun v_ h_ n_ q_ => ?_)
  obtain ⟨q1_, q2_, q3_, b161⟩ := q_
  subst v_; subst h_; subst n_
  try dsimp only at b161
  show WW W0 G 73 _ _ _ 283 [some (.ref 0), some (.ref 48), some (.int l2), some (.int l3), some (.int l4), some (.int l5), some (.int l6), some (.int l7), some (.int l8), some (.int l9), some (.int l10), some (.int l11), some (.int l12), some (.int l13), some (.int l14), some (.int l15), some (.int l16), some (.int l17), none, none, none, none, none, none, none, none, none, none, none, none, none, none, none, none, none, none, none, none, none, none, none, none, none, none, none, none, none, none, none, none, none, none, none, none, none, none, none, none, none, none, none, none, none, none, none, none, none, none, none, none, none, none, none] [va_rf v159.1] v159.2.1 v159.2.2 _ _
  refine rr_iload C dL_law_283 rfl ?_
  replace hr := Option.bind_eq_some_iff.mp hr
  obtain ⟨⟨y163, h164, n165⟩, er167, hr⟩ := hr
  dsimp only at hr
  refine rr_join (pc' := 318) (L' := [some (.ref 0), some (.ref 48), some (.int l2), some (.int l3), some (.int l4), some (.int l5), some (.int l6), some (.int l7), some (.int l8), some (.int l9), some (.int l10), some (.int l11), some (.int l12), some (.int l13), some (.int l14), some (.int l15), some (.int l16), some (.int l17), none, none, none, none, none, none, none, none, none, none, none, none, none, none, none, none, none, none, none, none, none, none, none, none, none, none, none, none, none, none, none, none, none, none, none, none, none, none, none, none, none, none, none, none, none, none, none, none, none, none, none, none, none, none, none]) (st' := [va_rf y163, va_rf v159.1]) (h' := h164) (n' := n165) (kc' := 599845) (ks' := 7289976) C (fun hj166 => ?_) ?_
  · have hr := er167
    refine rr_if_eq (tgt := 316) C dL_law_285 (by decide) (fun c162 => ?_) (fun c162 => ?_)
    · replace hr := (if_pos c162).symm.trans hr
      refine rr_ldcL (i := 7) C dL_law_316 (by decide) rfl ?_
      cases hr
      refine rr_cut C (kc' := 599845) (ks' := 7289976) (by omega) (by omega) ?_
      exact rr_keep [true, true, true, true, true, true, true, true, true, true, true, true, true, true, true, true, true, true, false, false, false, false, false, false, false, false, false, false, false, false, false, false, false, false, false, false, false, false, false, false, false, false, false, false, false, false, false, false, false, false, false, false, false, false, false, false, false, false, false, false, false, false, false, false, false, false, false, false, false, false, false, false, false] hj166
    · replace hr := (if_neg c162).symm.trans hr
      refine rr_cut C (kc' := 599852 + 1) (ks' := 7291496 + 4) (by omega) (by omega) ?_
      replace hr := Option.bind_eq_some_iff.mp hr
      obtain ⟨h168, e169, hr⟩ := hr
      refine rr_newq C dL_law_288 nw_L_30 e169 ?_
      show WW W0 G 73 _ _ _ 291 [some (.ref 0), some (.ref 48), some (.int l2), some (.int l3), some (.int l4), some (.int l5), some (.int l6), some (.int l7), some (.int l8), some (.int l9), some (.int l10), some (.int l11), some (.int l12), some (.int l13), some (.int l14), some (.int l15), some (.int l16), some (.int l17), none, none, none, none, none, none, none, none, none, none, none, none, none, none, none, none, none, none, none, none, none, none, none, none, none, none, none, none, none, none, none, none, none, none, none, none, none, none, none, none, none, none, none, none, none, none, none, none, none, none, none, none, none, none, none] [.ref v159.2.2, va_rf v159.1] h168 (v159.2.2 + 1) _ _
      refine rr_dup C dL_law_291 rfl ?_
      refine rr_cut C (kc' := 599851 + 1) (ks' := 7291480 + 16) (by omega) (by omega) ?_
      replace hr := Option.bind_eq_some_iff.mp hr
      obtain ⟨v172, e173, hr⟩ := hr
      refine rr_callI (as := []) (st := [.ref v159.2.2, va_rf v159.1]) (mc' := 1) (ms' := 16) C dL_law_292 ii_L_32 (by decide) (by rcases v159.1 with _ | _ <;> exact Nat.le_of_ble_eq_true rfl) (c_J4_init_da8c8 v159.2.2 (by omega) e173) (fun v_ h_ n_ q_ => ?_)
      obtain ⟨q1_, q2_, q3_, b174⟩ := q_
      subst v_; subst h_; subst n_
      try dsimp only at b174
      show WW W0 G 73 _ _ _ 295 [some (.ref 0), some (.ref 48), some (.int l2), some (.int l3), some (.int l4), some (.int l5), some (.int l6), some (.int l7), some (.int l8), some (.int l9), some (.int l10), some (.int l11), some (.int l12), some (.int l13), some (.int l14), some (.int l15), some (.int l16), some (.int l17), none, none, none, none, none, none, none, none, none, none, none, none, none, none, none, none, none, none, none, none, none, none, none, none, none, none, none, none, none, none, none, none, none, none, none, none, none, none, none, none, none, none, none, none, none, none, none, none, none, none, none, none, none, none, none] [.ref v159.2.2, va_rf v159.1] v172.1 v172.2 _ _
      refine rr_ldcL (i := 5) C dL_law_295 (by decide) rfl ?_
      replace hr := Option.bind_eq_some_iff.mp hr
      obtain ⟨u175, e176, hr⟩ := hr
      refine rr_cut C (kc' := 599850 + 1) (ks' := 7291180 + 300) (by omega) (by omega) ?_
      replace hr := Option.bind_eq_some_iff.mp hr
      obtain ⟨v179, e180, hr⟩ := hr
      refine rr_callVq (as := [.ref 1000005]) (st := [va_rf v159.1]) (mc' := 1) (ms' := 300) C dL_law_297 iv_L_35 (by decide) e176 rfl (by rcases v159.1 with _ | _ <;> exact Nat.le_of_ble_eq_true rfl) (c_J4_append_15ec4 v159.2.2 (some 1000005) (by omega) e180) (fun v_ h_ n_ q_ => ?_)
      obtain ⟨q1_, q2_, q3_, b181⟩ := q_
      subst v_; subst h_; subst n_
      try dsimp only at b181
      show WW W0 G 73 _ _ _ 300 [some (.ref 0), some (.ref 48), some (.int l2), some (.int l3), some (.int l4), some (.int l5), some (.int l6), some (.int l7), some (.int l8), some (.int l9), some (.int l10), some (.int l11), some (.int l12), some (.int l13), some (.int l14), some (.int l15), some (.int l16), some (.int l17), none, none, none, none, none, none, none, none, none, none, none, none, none, none, none, none, none, none, none, none, none, none, none, none, none, none, none, none, none, none, none, none, none, none, none, none, none, none, none, none, none, none, none, none, none, none, none, none, none, none, none, none, none, none, none] [va_rf v179.1, va_rf v159.1] v179.2.1 v179.2.2 _ _
      refine rr_iload C dL_law_300 rfl ?_
      replace hr := Option.bind_eq_some_iff.mp hr
      obtain ⟨a182, e183, hr⟩ := hr
      rw [e183]
      replace hr := Option.bind_eq_some_iff.mp hr
      obtain ⟨u184, e185, hr⟩ := hr
      refine rr_cut C (kc' := 599849 + 1) (ks' := 7290880 + 300) (by omega) (by omega) ?_
      replace hr := Option.bind_eq_some_iff.mp hr
      obtain ⟨v188, e189, hr⟩ := hr
      refine rr_callVq (as := [.int l6]) (st := [va_rf v159.1]) (mc' := 1) (ms' := 300) C dL_law_302 iv_L_39 (by decide) e185 rfl (by rcases v159.1 with _ | _ <;> exact Nat.le_of_ble_eq_true rfl) (c_J4_append_bf812 a182 l6 (by omega) e189) (fun v_ h_ n_ q_ => ?_)
      obtain ⟨q1_, q2_, q3_, b190⟩ := q_
      subst v_; subst h_; subst n_
      try dsimp only at b190
      show WW W0 G 73 _ _ _ 305 [some (.ref 0), some (.ref 48), some (.int l2), some (.int l3), some (.int l4), some (.int l5), some (.int l6), some (.int l7), some (.int l8), some (.int l9), some (.int l10), some (.int l11), some (.int l12), some (.int l13), some (.int l14), some (.int l15), some (.int l16), some (.int l17), none, none, none, none, none, none, none, none, none, none, none, none, none, none, none, none, none, none, none, none, none, none, none, none, none, none, none, none, none, none, none, none, none, none, none, none, none, none, none, none, none, none, none, none, none, none, none, none, none, none, none, none, none, none, none] [va_rf v188.1, va_rf v159.1] v188.2.1 v188.2.2 _ _
      refine rr_ldcL (i := 6) C dL_law_305 (by decide) rfl ?_
      replace hr := Option.bind_eq_some_iff.mp hr
      obtain ⟨a191, e192, hr⟩ := hr
      rw [e192]
      replace hr := Option.bind_eq_some_iff.mp hr
      obtain ⟨u193, e194, hr⟩ := hr
      refine rr_cut C (kc' := 599848 + 1) (ks' := 7290580 + 300) (by omega) (by omega) ?_
      replace hr := Option.bind_eq_some_iff.mp hr
      obtain ⟨v197, e198, hr⟩ := hr
      refine rr_callVq (as := [.ref 1000006]) (st := [va_rf v159.1]) (mc' := 1) (ms' := 300) C dL_law_307 iv_L_35 (by decide) e194 rfl (by rcases v159.1 with _ | _ <;> exact Nat.le_of_ble_eq_true rfl) (c_J4_append_15ec4 a191 (some 1000006) (by omega) e198) (fun v_ h_ n_ q_ => ?_)
      obtain ⟨q1_, q2_, q3_, b199⟩ := q_
      subst v_; subst h_; subst n_
      try dsimp only at b199
      show WW W0 G 73 _ _ _ 310 [some (.ref 0), some (.ref 48), some (.int l2), some (.int l3), some (.int l4), some (.int l5), some (.int l6), some (.int l7), some (.int l8), some (.int l9), some (.int l10), some (.int l11), some (.int l12), some (.int l13), some (.int l14), some (.int l15), some (.int l16), some (.int l17), none, none, none, none, none, none, none, none, none, none, none, none, none, none, none, none, none, none, none, none, none, none, none, none, none, none, none, none, none, none, none, none, none, none, none, none, none, none, none, none, none, none, none, none, none, none, none, none, none, none, none, none, none, none, none] [va_rf v197.1, va_rf v159.1] v197.2.1 v197.2.2 _ _
      replace hr := Option.bind_eq_some_iff.mp hr
      obtain ⟨a200, e201, hr⟩ := hr
      rw [e201]
      replace hr := Option.bind_eq_some_iff.mp hr
      obtain ⟨u202, e203, hr⟩ := hr
      refine rr_cut C (kc' := 599845 + 3) (ks' := 7289976 + 604) (by omega) (by omega) ?_
      replace hr := Option.bind_eq_some_iff.mp hr
      obtain ⟨v206, e207, hr⟩ := hr
      refine rr_callVq (as := []) (st := [va_rf v159.1]) (mc' := 3) (ms' := 604) C dL_law_310 iv_L_54 (by decide) e203 rfl (by rcases v159.1 with _ | _ <;> exact Nat.le_of_ble_eq_true rfl) (c_J4_toString_0e30d a200 (by omega) e207) (fun v_ h_ n_ q_ => ?_)
      obtain ⟨q1_, q2_, q3_, b208⟩ := q_
      subst v_; subst h_; subst n_
      try dsimp only at b208
      show WW W0 G 73 _ _ _ 313 [some (.ref 0), some (.ref 48), some (.int l2), some (.int l3), some (.int l4), some (.int l5), some (.int l6), some (.int l7), some (.int l8), some (.int l9), some (.int l10), some (.int l11), some (.int l12), some (.int l13), some (.int l14), some (.int l15), some (.int l16), some (.int l17), none, none, none, none, none, none, none, none, none, none, none, none, none, none, none, none, none, none, none, none, none, none, none, none, none, none, none, none, none, none, none, none, none, none, none, none, none, none, none, none, none, none, none, none, none, none, none, none, none, none, none, none, none, none, none] [va_rf v206.1, va_rf v159.1] v206.2.1 v206.2.2 _ _
      refine rr_goto (tgt := 318) C dL_law_313 (by decide) ?_
      cases hr
      exact rr_keep [true, true, true, true, true, true, true, true, true, true, true, true, true, true, true, true, true, true, false, false, false, false, false, false, false, false, false, false, false, false, false, false, false, false, false, false, false, false, false, false, false, false, false, false, false, false, false, false, false, false, false, false, false, false, false, false, false, false, false, false, false, false, false, false, false, false, false, false, false, false, false, false, false] hj166
  obtain ⟨c209, hr⟩ := ite_n hr
  exact rr_keep [true, true, true, true, true, true, true, true, true, true, true, true, true, true, true, true, true, true, false, false, false, false, false, false, false, false, false, false, false, false, false, false, false, false, false, false, false, false, false, false, false, false, false, false, false, false, false, false, false, false, false, false, false, false, false, false, false, false, false, false, false, false, false, false, false, false, false, false, false, false, false, false, false] (c_law_318 l2 l3 l4 l5 l6 l7 l8 l9 l10 l11 l12 l13 l14 l15 l16 l17 y163 v159.1 C (by omega) hx0 hr)
set_option maxRecDepth 100000 in
set_option maxHeartbeats 400000 in
theorem c_law_233 {K : Nat} {nm_ : String} {W0 : mm_X} {G : mm_G} {Q_ : State → Prop} {h : mm_H} {n : Nat} (l2 : Int32) (l3 : Int32) (l4 : Int32) (l5 : Int32) (l6 : Int32) (l7 : Int32) (l8 : Int32) (l9 : Int32) (l10 : Int32) (l11 : Int32) (l12 : Int32) (l13 : Int32) (l14 : Int32) (l15 : Int32) (l16 : Int32) (l17 : Int32) (C : mm_C W0 G cL_law yL_law.cls 73 600000 7302250 (some .boolean) 300 nm_) (hn : 48 ≤ n) (hx0 : ∀ (L : List (Option Value)) (h : mm_H) (n kc ks : Nat), WW W0 G 73 600000 7302250 Q_ 2122 L [.int 1] h n kc ks) (hr : q_law_233 K h n l2 l3 l4 l5 l6 l7 l8 l9 l10 l11 l12 l13 l14 l15 l16 l17 = some ()) : WW W0 G 73 600000 7302250 Q_ 233 [some (.ref 0), some (.ref 48), some (.int l2), some (.int l3), some (.int l4), some (.int l5), some (.int l6), some (.int l7), some (.int l8), some (.int l9), some (.int l10), some (.int l11), some (.int l12), some (.int l13), some (.int l14), some (.int l15), some (.int l16), some (.int l17), none, none, none, none, none, none, none, none, none, none, none, none, none, none, none, none, none, none, none, none, none, none, none, none, none, none, none, none, none, none, none, none, none, none, none, none, none, none, none, none, none, none, none, none, none, none, none, none, none, none, none, none, none, none, none] [] h n 599864 7294220 := by
  unfold q_law_233 at hr
  refine rr_cut C (kc' := 599863 + 1) (ks' := 7294216 + 4) (by omega) (by omega) ?_
  replace hr := Option.bind_eq_some_iff.mp hr
  obtain ⟨h76, e77, hr⟩ := hr
  refine rr_newq C dL_law_233 nw_L_30 e77 ?_
  show WW W0 G 73 _ _ _ 236 [some (.ref 0), some (.ref 48), some (.int l2), some (.int l3), some (.int l4), some (.int l5), some (.int l6), some (.int l7), some (.int l8), some (.int l9), some (.int l10), some (.int l11), some (.int l12), some (.int l13), some (.int l14), some (.int l15), some (.int l16), some (.int l17), none, none, none, none, none, none, none, none, none, none, none, none, none, none, none, none, none, none, none, none, none, none, none, none, none, none, none, none, none, none, none, none, none, none, none, none, none, none, none, none, none, none, none, none, none, none, none, none, none, none, none, none, none, none, none] [.ref n] h76 (n + 1) _ _
  refine rr_dup C dL_law_236 rfl ?_
  refine rr_cut C (kc' := 599862 + 1) (ks' := 7294200 + 16) (by omega) (by omega) ?_
  replace hr := Option.bind_eq_some_iff.mp hr
  obtain ⟨v80, e81, hr⟩ := hr
  refine rr_callI (as := []) (st := [.ref n]) (mc' := 1) (ms' := 16) C dL_law_237 ii_L_32 (by decide) (Nat.le_of_ble_eq_true rfl) (c_J4_init_da8c8 n (by omega) e81) (fun v_ h_ n_ q_ => ?_)
  obtain ⟨q1_, q2_, q3_, b82⟩ := q_
  subst v_; subst h_; subst n_
  try dsimp only at b82
  show WW W0 G 73 _ _ _ 240 [some (.ref 0), some (.ref 48), some (.int l2), some (.int l3), some (.int l4), some (.int l5), some (.int l6), some (.int l7), some (.int l8), some (.int l9), some (.int l10), some (.int l11), some (.int l12), some (.int l13), some (.int l14), some (.int l15), some (.int l16), some (.int l17), none, none, none, none, none, none, none, none, none, none, none, none, none, none, none, none, none, none, none, none, none, none, none, none, none, none, none, none, none, none, none, none, none, none, none, none, none, none, none, none, none, none, none, none, none, none, none, none, none, none, none, none, none, none, none] [.ref n] v80.1 v80.2 _ _
  refine rr_ldcL (i := 0) C dL_law_240 (by decide) rfl ?_
  replace hr := Option.bind_eq_some_iff.mp hr
  obtain ⟨u83, e84, hr⟩ := hr
  refine rr_cut C (kc' := 599861 + 1) (ks' := 7293900 + 300) (by omega) (by omega) ?_
  replace hr := Option.bind_eq_some_iff.mp hr
  obtain ⟨v87, e88, hr⟩ := hr
  refine rr_callVq (as := [.ref 1000000]) (st := []) (mc' := 1) (ms' := 300) C dL_law_242 iv_L_35 (by decide) e84 rfl (Nat.le_of_ble_eq_true rfl) (c_J4_append_15ec4 n (some 1000000) (by omega) e88) (fun v_ h_ n_ q_ => ?_)
  obtain ⟨q1_, q2_, q3_, b89⟩ := q_
  subst v_; subst h_; subst n_
  try dsimp only at b89
  show WW W0 G 73 _ _ _ 245 [some (.ref 0), some (.ref 48), some (.int l2), some (.int l3), some (.int l4), some (.int l5), some (.int l6), some (.int l7), some (.int l8), some (.int l9), some (.int l10), some (.int l11), some (.int l12), some (.int l13), some (.int l14), some (.int l15), some (.int l16), some (.int l17), none, none, none, none, none, none, none, none, none, none, none, none, none, none, none, none, none, none, none, none, none, none, none, none, none, none, none, none, none, none, none, none, none, none, none, none, none, none, none, none, none, none, none, none, none, none, none, none, none, none, none, none, none, none, none] [va_rf v87.1] v87.2.1 v87.2.2 _ _
  refine rr_iload_n (i := 2) C dL_law_245 rfl rfl ?_
  replace hr := Option.bind_eq_some_iff.mp hr
  obtain ⟨a90, e91, hr⟩ := hr
  rw [e91]
  replace hr := Option.bind_eq_some_iff.mp hr
  obtain ⟨u92, e93, hr⟩ := hr
  refine rr_cut C (kc' := 599860 + 1) (ks' := 7293600 + 300) (by omega) (by omega) ?_
  replace hr := Option.bind_eq_some_iff.mp hr
  obtain ⟨v96, e97, hr⟩ := hr
  refine rr_callVq (as := [.int l2]) (st := []) (mc' := 1) (ms' := 300) C dL_law_246 iv_L_39 (by decide) e93 rfl (Nat.le_of_ble_eq_true rfl) (c_J4_append_bf812 a90 l2 (by omega) e97) (fun v_ h_ n_ q_ => ?_)
  obtain ⟨q1_, q2_, q3_, b98⟩ := q_
  subst v_; subst h_; subst n_
  try dsimp only at b98
  show WW W0 G 73 _ _ _ 249 [some (.ref 0), some (.ref 48), some (.int l2), some (.int l3), some (.int l4), some (.int l5), some (.int l6), some (.int l7), some (.int l8), some (.int l9), some (.int l10), some (.int l11), some (.int l12), some (.int l13), some (.int l14), some (.int l15), some (.int l16), some (.int l17), none, none, none, none, none, none, none, none, none, none, none, none, none, none, none, none, none, none, none, none, none, none, none, none, none, none, none, none, none, none, none, none, none, none, none, none, none, none, none, none, none, none, none, none, none, none, none, none, none, none, none, none, none, none, none] [va_rf v96.1] v96.2.1 v96.2.2 _ _
  refine rr_ldcL (i := 1) C dL_law_249 (by decide) rfl ?_
  replace hr := Option.bind_eq_some_iff.mp hr
  obtain ⟨a99, e100, hr⟩ := hr
  rw [e100]
  replace hr := Option.bind_eq_some_iff.mp hr
  obtain ⟨u101, e102, hr⟩ := hr
  refine rr_cut C (kc' := 599859 + 1) (ks' := 7293300 + 300) (by omega) (by omega) ?_
  replace hr := Option.bind_eq_some_iff.mp hr
  obtain ⟨v105, e106, hr⟩ := hr
  refine rr_callVq (as := [.ref 1000001]) (st := []) (mc' := 1) (ms' := 300) C dL_law_251 iv_L_35 (by decide) e102 rfl (Nat.le_of_ble_eq_true rfl) (c_J4_append_15ec4 a99 (some 1000001) (by omega) e106) (fun v_ h_ n_ q_ => ?_)
  obtain ⟨q1_, q2_, q3_, b107⟩ := q_
  subst v_; subst h_; subst n_
  try dsimp only at b107
  show WW W0 G 73 _ _ _ 254 [some (.ref 0), some (.ref 48), some (.int l2), some (.int l3), some (.int l4), some (.int l5), some (.int l6), some (.int l7), some (.int l8), some (.int l9), some (.int l10), some (.int l11), some (.int l12), some (.int l13), some (.int l14), some (.int l15), some (.int l16), some (.int l17), none, none, none, none, none, none, none, none, none, none, none, none, none, none, none, none, none, none, none, none, none, none, none, none, none, none, none, none, none, none, none, none, none, none, none, none, none, none, none, none, none, none, none, none, none, none, none, none, none, none, none, none, none, none, none] [va_rf v105.1] v105.2.1 v105.2.2 _ _
  refine rr_iload_n (i := 3) C dL_law_254 rfl rfl ?_
  replace hr := Option.bind_eq_some_iff.mp hr
  obtain ⟨a108, e109, hr⟩ := hr
  rw [e109]
  replace hr := Option.bind_eq_some_iff.mp hr
  obtain ⟨u110, e111, hr⟩ := hr
  refine rr_cut C (kc' := 599858 + 1) (ks' := 7293000 + 300) (by omega) (by omega) ?_
  replace hr := Option.bind_eq_some_iff.mp hr
  obtain ⟨v114, e115, hr⟩ := hr
  refine rr_callVq (as := [.int l3]) (st := []) (mc' := 1) (ms' := 300) C dL_law_255 iv_L_39 (by decide) e111 rfl (Nat.le_of_ble_eq_true rfl) (c_J4_append_bf812 a108 l3 (by omega) e115) (fun v_ h_ n_ q_ => ?_)
  obtain ⟨q1_, q2_, q3_, b116⟩ := q_
  subst v_; subst h_; subst n_
  try dsimp only at b116
  show WW W0 G 73 _ _ _ 258 [some (.ref 0), some (.ref 48), some (.int l2), some (.int l3), some (.int l4), some (.int l5), some (.int l6), some (.int l7), some (.int l8), some (.int l9), some (.int l10), some (.int l11), some (.int l12), some (.int l13), some (.int l14), some (.int l15), some (.int l16), some (.int l17), none, none, none, none, none, none, none, none, none, none, none, none, none, none, none, none, none, none, none, none, none, none, none, none, none, none, none, none, none, none, none, none, none, none, none, none, none, none, none, none, none, none, none, none, none, none, none, none, none, none, none, none, none, none, none] [va_rf v114.1] v114.2.1 v114.2.2 _ _
  refine rr_ldcL (i := 2) C dL_law_258 (by decide) rfl ?_
  replace hr := Option.bind_eq_some_iff.mp hr
  obtain ⟨a117, e118, hr⟩ := hr
  rw [e118]
  replace hr := Option.bind_eq_some_iff.mp hr
  obtain ⟨u119, e120, hr⟩ := hr
  refine rr_cut C (kc' := 599857 + 1) (ks' := 7292700 + 300) (by omega) (by omega) ?_
  replace hr := Option.bind_eq_some_iff.mp hr
  obtain ⟨v123, e124, hr⟩ := hr
  refine rr_callVq (as := [.ref 1000002]) (st := []) (mc' := 1) (ms' := 300) C dL_law_260 iv_L_35 (by decide) e120 rfl (Nat.le_of_ble_eq_true rfl) (c_J4_append_15ec4 a117 (some 1000002) (by omega) e124) (fun v_ h_ n_ q_ => ?_)
  obtain ⟨q1_, q2_, q3_, b125⟩ := q_
  subst v_; subst h_; subst n_
  try dsimp only at b125
  show WW W0 G 73 _ _ _ 263 [some (.ref 0), some (.ref 48), some (.int l2), some (.int l3), some (.int l4), some (.int l5), some (.int l6), some (.int l7), some (.int l8), some (.int l9), some (.int l10), some (.int l11), some (.int l12), some (.int l13), some (.int l14), some (.int l15), some (.int l16), some (.int l17), none, none, none, none, none, none, none, none, none, none, none, none, none, none, none, none, none, none, none, none, none, none, none, none, none, none, none, none, none, none, none, none, none, none, none, none, none, none, none, none, none, none, none, none, none, none, none, none, none, none, none, none, none, none, none] [va_rf v123.1] v123.2.1 v123.2.2 _ _
  exact rr_keep [true, true, true, true, true, true, true, true, true, true, true, true, true, true, true, true, true, true, false, false, false, false, false, false, false, false, false, false, false, false, false, false, false, false, false, false, false, false, false, false, false, false, false, false, false, false, false, false, false, false, false, false, false, false, false, false, false, false, false, false, false, false, false, false, false, false, false, false, false, false, false, false, false] (c_law_263 l2 l3 l4 l5 l6 l7 l8 l9 l10 l11 l12 l13 l14 l15 l16 l17 v123.1 C (by omega) hx0 hr)
set_option maxRecDepth 100000 in
set_option maxHeartbeats 400000 in
theorem c_law {K : Nat} {nm_ : String} {W0 : mm_X} {G : mm_G} {Q_ : State → Prop} {h : mm_H} (C : mm_C W0 G cL_law yL_law.cls 73 600000 7302250 (some .boolean) 300 nm_) (hx0 : ∀ (L : List (Option Value)) (h : mm_H) (n kc ks : Nat), WW W0 G 73 600000 7302250 Q_ 2122 L [.int 1] h n kc ks) (hr : q_law K h = some ()) : WW W0 G 73 600000 7302250 Q_ 0 [some (.ref 0), none, none, none, none, none, none, none, none, none, none, none, none, none, none, none, none, none, none, none, none, none, none, none, none, none, none, none, none, none, none, none, none, none, none, none, none, none, none, none, none, none, none, none, none, none, none, none, none, none, none, none, none, none, none, none, none, none, none, none, none, none, none, none, none, none, none, none, none, none, none, none, none] [] h 48 600000 7302250 := by
  have hn : 48 ≤ 48 := Nat.le_refl _
  unfold q_law at hr
  refine rr_cut C (kc' := 599999 + 1) (ks' := 7302238 + 12) (by omega) (by omega) ?_
  replace hr := Option.bind_eq_some_iff.mp hr
  obtain ⟨h1, e2, hr⟩ := hr
  refine rr_newq C dL_law_0 nw_L_18 e2 ?_
  show WW W0 G 73 _ _ _ 3 [some (.ref 0), none, none, none, none, none, none, none, none, none, none, none, none, none, none, none, none, none, none, none, none, none, none, none, none, none, none, none, none, none, none, none, none, none, none, none, none, none, none, none, none, none, none, none, none, none, none, none, none, none, none, none, none, none, none, none, none, none, none, none, none, none, none, none, none, none, none, none, none, none, none, none, none] [.ref 48] h1 (48 + 1) _ _
  refine rr_dup C dL_law_3 rfl ?_
  refine rr_cut C (kc' := 599864 + 135) (ks' := 7294220 + 8018) (by omega) (by omega) ?_
  replace hr := Option.bind_eq_some_iff.mp hr
  obtain ⟨v5, e6, hr⟩ := hr
  refine rr_callI (as := []) (st := [.ref 48]) (mc' := 135) (ms' := 8018) C dL_law_4 ii_L_23 (by decide) (Nat.le_of_ble_eq_true rfl) (c_X10_init 48 (by omega) e6) (fun v_ h_ n_ q_ => ?_)
  obtain ⟨q1_, q2_, q3_, b7⟩ := q_
  subst v_; subst h_; subst n_
  try dsimp only at b7
  show WW W0 G 73 _ _ _ 7 [some (.ref 0), none, none, none, none, none, none, none, none, none, none, none, none, none, none, none, none, none, none, none, none, none, none, none, none, none, none, none, none, none, none, none, none, none, none, none, none, none, none, none, none, none, none, none, none, none, none, none, none, none, none, none, none, none, none, none, none, none, none, none, none, none, none, none, none, none, none, none, none, none, none, none, none] [.ref 48] v5.1 v5.2 _ _
  refine rr_astore_n (i := 1) C dL_law_7 rfl (by decide) ?_
  show WW W0 G 73 _ _ _ 8 [some (.ref 0), some (.ref 48), none, none, none, none, none, none, none, none, none, none, none, none, none, none, none, none, none, none, none, none, none, none, none, none, none, none, none, none, none, none, none, none, none, none, none, none, none, none, none, none, none, none, none, none, none, none, none, none, none, none, none, none, none, none, none, none, none, none, none, none, none, none, none, none, none, none, none, none, none, none, none] [] v5.1 v5.2 _ _
  refine rr_aload_n (i := 0) C dL_law_8 rfl rfl ?_
  refine rr_iconst (v := 0) C dL_law_9 (by decide) ?_
  replace hr := Option.bind_eq_some_iff.mp hr
  obtain ⟨v8, e9, hr⟩ := hr
  refine rr_callS (as := [.ref 0, .int 0]) (st := []) (mc' := 0) (ms' := 0) C dL_law_10 it_L_24 (by decide) (Nat.le_of_ble_eq_true rfl) (c_L_cell (some 0) 0 (by omega) e9) (fun v_ h_ n_ q_ => ?_)
  obtain ⟨q1_, q2_, q3_⟩ := q_
  subst v_; subst h_; subst n_
  show WW W0 G 73 _ _ _ 13 [some (.ref 0), some (.ref 48), none, none, none, none, none, none, none, none, none, none, none, none, none, none, none, none, none, none, none, none, none, none, none, none, none, none, none, none, none, none, none, none, none, none, none, none, none, none, none, none, none, none, none, none, none, none, none, none, none, none, none, none, none, none, none, none, none, none, none, none, none, none, none, none, none, none, none, none, none, none, none] [.int v8] v5.1 v5.2 _ _
  refine rr_bipush (v := 127) C dL_law_13 (by decide) ?_
  refine rr_iand C dL_law_15 ?_
  replace hr := Option.bind_eq_some_iff.mp hr
  obtain ⟨x10, e11, hr⟩ := hr
  refine rr_asI C e11 ?_
  refine rr_istore_n (i := 2) C dL_law_16 rfl (by decide) ?_
  show WW W0 G 73 _ _ _ 17 [some (.ref 0), some (.ref 48), some (.int x10), none, none, none, none, none, none, none, none, none, none, none, none, none, none, none, none, none, none, none, none, none, none, none, none, none, none, none, none, none, none, none, none, none, none, none, none, none, none, none, none, none, none, none, none, none, none, none, none, none, none, none, none, none, none, none, none, none, none, none, none, none, none, none, none, none, none, none, none, none, none] [] v5.1 v5.2 _ _
  refine rr_bipush (v := 80) C dL_law_17 (by decide) ?_
  refine rr_aload_n (i := 0) C dL_law_19 rfl rfl ?_
  refine rr_iconst (v := 0) C dL_law_20 (by decide) ?_
  replace hr := Option.bind_eq_some_iff.mp hr
  obtain ⟨v12, e13, hr⟩ := hr
  refine rr_callS (as := [.ref 0, .int 0]) (st := [.int 80]) (mc' := 0) (ms' := 0) C dL_law_21 it_L_24 (by decide) (Nat.le_of_ble_eq_true rfl) (c_L_cell (some 0) 0 (by omega) e13) (fun v_ h_ n_ q_ => ?_)
  obtain ⟨q1_, q2_, q3_⟩ := q_
  subst v_; subst h_; subst n_
  show WW W0 G 73 _ _ _ 24 [some (.ref 0), some (.ref 48), some (.int x10), none, none, none, none, none, none, none, none, none, none, none, none, none, none, none, none, none, none, none, none, none, none, none, none, none, none, none, none, none, none, none, none, none, none, none, none, none, none, none, none, none, none, none, none, none, none, none, none, none, none, none, none, none, none, none, none, none, none, none, none, none, none, none, none, none, none, none, none, none, none] [.int v12, .int 80] v5.1 v5.2 _ _
  refine rr_bipush (v := 7) C dL_law_24 (by decide) ?_
  refine rr_ishr C dL_law_26 ?_
  refine rr_bipush (v := 63) C dL_law_27 (by decide) ?_
  refine rr_iand C dL_law_29 ?_
  refine rr_iadd C dL_law_30 ?_
  replace hr := Option.bind_eq_some_iff.mp hr
  obtain ⟨x14, e15, hr⟩ := hr
  refine rr_asI C e15 ?_
  refine rr_istore_n (i := 3) C dL_law_31 rfl (by decide) ?_
  show WW W0 G 73 _ _ _ 32 [some (.ref 0), some (.ref 48), some (.int x10), some (.int x14), none, none, none, none, none, none, none, none, none, none, none, none, none, none, none, none, none, none, none, none, none, none, none, none, none, none, none, none, none, none, none, none, none, none, none, none, none, none, none, none, none, none, none, none, none, none, none, none, none, none, none, none, none, none, none, none, none, none, none, none, none, none, none, none, none, none, none, none, none] [] v5.1 v5.2 _ _
  refine rr_aload_n (i := 0) C dL_law_32 rfl rfl ?_
  refine rr_iconst (v := 0) C dL_law_33 (by decide) ?_
  replace hr := Option.bind_eq_some_iff.mp hr
  obtain ⟨v16, e17, hr⟩ := hr
  refine rr_callS (as := [.ref 0, .int 0]) (st := []) (mc' := 0) (ms' := 0) C dL_law_34 it_L_24 (by decide) (Nat.le_of_ble_eq_true rfl) (c_L_cell (some 0) 0 (by omega) e17) (fun v_ h_ n_ q_ => ?_)
  obtain ⟨q1_, q2_, q3_⟩ := q_
  subst v_; subst h_; subst n_
  show WW W0 G 73 _ _ _ 37 [some (.ref 0), some (.ref 48), some (.int x10), some (.int x14), none, none, none, none, none, none, none, none, none, none, none, none, none, none, none, none, none, none, none, none, none, none, none, none, none, none, none, none, none, none, none, none, none, none, none, none, none, none, none, none, none, none, none, none, none, none, none, none, none, none, none, none, none, none, none, none, none, none, none, none, none, none, none, none, none, none, none, none, none] [.int v16] v5.1 v5.2 _ _
  refine rr_bipush (v := 13) C dL_law_37 (by decide) ?_
  refine rr_ishr C dL_law_39 ?_
  refine rr_bipush (v := 31) C dL_law_40 (by decide) ?_
  refine rr_iand C dL_law_42 ?_
  replace hr := Option.bind_eq_some_iff.mp hr
  obtain ⟨x18, e19, hr⟩ := hr
  refine rr_asI C e19 ?_
  refine rr_istore C dL_law_43 (by decide) ?_
  show WW W0 G 73 _ _ _ 45 [some (.ref 0), some (.ref 48), some (.int x10), some (.int x14), some (.int x18), none, none, none, none, none, none, none, none, none, none, none, none, none, none, none, none, none, none, none, none, none, none, none, none, none, none, none, none, none, none, none, none, none, none, none, none, none, none, none, none, none, none, none, none, none, none, none, none, none, none, none, none, none, none, none, none, none, none, none, none, none, none, none, none, none, none, none, none] [] v5.1 v5.2 _ _
  refine rr_aload_n (i := 0) C dL_law_45 rfl rfl ?_
  refine rr_iconst (v := 0) C dL_law_46 (by decide) ?_
  replace hr := Option.bind_eq_some_iff.mp hr
  obtain ⟨v20, e21, hr⟩ := hr
  refine rr_callS (as := [.ref 0, .int 0]) (st := []) (mc' := 0) (ms' := 0) C dL_law_47 it_L_24 (by decide) (Nat.le_of_ble_eq_true rfl) (c_L_cell (some 0) 0 (by omega) e21) (fun v_ h_ n_ q_ => ?_)
  obtain ⟨q1_, q2_, q3_⟩ := q_
  subst v_; subst h_; subst n_
  show WW W0 G 73 _ _ _ 50 [some (.ref 0), some (.ref 48), some (.int x10), some (.int x14), some (.int x18), none, none, none, none, none, none, none, none, none, none, none, none, none, none, none, none, none, none, none, none, none, none, none, none, none, none, none, none, none, none, none, none, none, none, none, none, none, none, none, none, none, none, none, none, none, none, none, none, none, none, none, none, none, none, none, none, none, none, none, none, none, none, none, none, none, none, none, none] [.int v20] v5.1 v5.2 _ _
  refine rr_bipush (v := 18) C dL_law_50 (by decide) ?_
  refine rr_ishr C dL_law_52 ?_
  refine rr_bipush (v := 63) C dL_law_53 (by decide) ?_
  refine rr_iand C dL_law_55 ?_
  replace hr := Option.bind_eq_some_iff.mp hr
  obtain ⟨x22, e23, hr⟩ := hr
  refine rr_asI C e23 ?_
  refine rr_istore C dL_law_56 (by decide) ?_
  show WW W0 G 73 _ _ _ 58 [some (.ref 0), some (.ref 48), some (.int x10), some (.int x14), some (.int x18), some (.int x22), none, none, none, none, none, none, none, none, none, none, none, none, none, none, none, none, none, none, none, none, none, none, none, none, none, none, none, none, none, none, none, none, none, none, none, none, none, none, none, none, none, none, none, none, none, none, none, none, none, none, none, none, none, none, none, none, none, none, none, none, none, none, none, none, none, none, none] [] v5.1 v5.2 _ _
  refine rr_aload_n (i := 0) C dL_law_58 rfl rfl ?_
  refine rr_iconst (v := 0) C dL_law_59 (by decide) ?_
  replace hr := Option.bind_eq_some_iff.mp hr
  obtain ⟨v24, e25, hr⟩ := hr
  refine rr_callS (as := [.ref 0, .int 0]) (st := []) (mc' := 0) (ms' := 0) C dL_law_60 it_L_24 (by decide) (Nat.le_of_ble_eq_true rfl) (c_L_cell (some 0) 0 (by omega) e25) (fun v_ h_ n_ q_ => ?_)
  obtain ⟨q1_, q2_, q3_⟩ := q_
  subst v_; subst h_; subst n_
  show WW W0 G 73 _ _ _ 63 [some (.ref 0), some (.ref 48), some (.int x10), some (.int x14), some (.int x18), some (.int x22), none, none, none, none, none, none, none, none, none, none, none, none, none, none, none, none, none, none, none, none, none, none, none, none, none, none, none, none, none, none, none, none, none, none, none, none, none, none, none, none, none, none, none, none, none, none, none, none, none, none, none, none, none, none, none, none, none, none, none, none, none, none, none, none, none, none, none] [.int v24] v5.1 v5.2 _ _
  refine rr_bipush (v := 24) C dL_law_63 (by decide) ?_
  refine rr_ishr C dL_law_65 ?_
  refine rr_bipush (v := 63) C dL_law_66 (by decide) ?_
  refine rr_iand C dL_law_68 ?_
  replace hr := Option.bind_eq_some_iff.mp hr
  obtain ⟨x26, e27, hr⟩ := hr
  refine rr_asI C e27 ?_
  refine rr_istore C dL_law_69 (by decide) ?_
  show WW W0 G 73 _ _ _ 71 [some (.ref 0), some (.ref 48), some (.int x10), some (.int x14), some (.int x18), some (.int x22), some (.int x26), none, none, none, none, none, none, none, none, none, none, none, none, none, none, none, none, none, none, none, none, none, none, none, none, none, none, none, none, none, none, none, none, none, none, none, none, none, none, none, none, none, none, none, none, none, none, none, none, none, none, none, none, none, none, none, none, none, none, none, none, none, none, none, none, none, none] [] v5.1 v5.2 _ _
  refine rr_aload_n (i := 0) C dL_law_71 rfl rfl ?_
  refine rr_iconst (v := 1) C dL_law_72 (by decide) ?_
  replace hr := Option.bind_eq_some_iff.mp hr
  obtain ⟨v28, e29, hr⟩ := hr
  refine rr_callS (as := [.ref 0, .int 1]) (st := []) (mc' := 0) (ms' := 0) C dL_law_73 it_L_24 (by decide) (Nat.le_of_ble_eq_true rfl) (c_L_cell (some 0) 1 (by omega) e29) (fun v_ h_ n_ q_ => ?_)
  obtain ⟨q1_, q2_, q3_⟩ := q_
  subst v_; subst h_; subst n_
  show WW W0 G 73 _ _ _ 76 [some (.ref 0), some (.ref 48), some (.int x10), some (.int x14), some (.int x18), some (.int x22), some (.int x26), none, none, none, none, none, none, none, none, none, none, none, none, none, none, none, none, none, none, none, none, none, none, none, none, none, none, none, none, none, none, none, none, none, none, none, none, none, none, none, none, none, none, none, none, none, none, none, none, none, none, none, none, none, none, none, none, none, none, none, none, none, none, none, none, none, none] [.int v28] v5.1 v5.2 _ _
  refine rr_bipush (v := 63) C dL_law_76 (by decide) ?_
  refine rr_iand C dL_law_78 ?_
  replace hr := Option.bind_eq_some_iff.mp hr
  obtain ⟨x30, e31, hr⟩ := hr
  refine rr_asI C e31 ?_
  refine rr_istore C dL_law_79 (by decide) ?_
  show WW W0 G 73 _ _ _ 81 [some (.ref 0), some (.ref 48), some (.int x10), some (.int x14), some (.int x18), some (.int x22), some (.int x26), some (.int x30), none, none, none, none, none, none, none, none, none, none, none, none, none, none, none, none, none, none, none, none, none, none, none, none, none, none, none, none, none, none, none, none, none, none, none, none, none, none, none, none, none, none, none, none, none, none, none, none, none, none, none, none, none, none, none, none, none, none, none, none, none, none, none, none, none] [] v5.1 v5.2 _ _
  refine rr_aload_n (i := 0) C dL_law_81 rfl rfl ?_
  refine rr_iconst (v := 1) C dL_law_82 (by decide) ?_
  replace hr := Option.bind_eq_some_iff.mp hr
  obtain ⟨v32, e33, hr⟩ := hr
  refine rr_callS (as := [.ref 0, .int 1]) (st := []) (mc' := 0) (ms' := 0) C dL_law_83 it_L_24 (by decide) (Nat.le_of_ble_eq_true rfl) (c_L_cell (some 0) 1 (by omega) e33) (fun v_ h_ n_ q_ => ?_)
  obtain ⟨q1_, q2_, q3_⟩ := q_
  subst v_; subst h_; subst n_
  show WW W0 G 73 _ _ _ 86 [some (.ref 0), some (.ref 48), some (.int x10), some (.int x14), some (.int x18), some (.int x22), some (.int x26), some (.int x30), none, none, none, none, none, none, none, none, none, none, none, none, none, none, none, none, none, none, none, none, none, none, none, none, none, none, none, none, none, none, none, none, none, none, none, none, none, none, none, none, none, none, none, none, none, none, none, none, none, none, none, none, none, none, none, none, none, none, none, none, none, none, none, none, none] [.int v32] v5.1 v5.2 _ _
  refine rr_bipush (v := 6) C dL_law_86 (by decide) ?_
  refine rr_ishr C dL_law_88 ?_
  refine rr_bipush (v := 127) C dL_law_89 (by decide) ?_
  refine rr_iand C dL_law_91 ?_
  replace hr := Option.bind_eq_some_iff.mp hr
  obtain ⟨x34, e35, hr⟩ := hr
  refine rr_asI C e35 ?_
  refine rr_istore C dL_law_92 (by decide) ?_
  show WW W0 G 73 _ _ _ 94 [some (.ref 0), some (.ref 48), some (.int x10), some (.int x14), some (.int x18), some (.int x22), some (.int x26), some (.int x30), some (.int x34), none, none, none, none, none, none, none, none, none, none, none, none, none, none, none, none, none, none, none, none, none, none, none, none, none, none, none, none, none, none, none, none, none, none, none, none, none, none, none, none, none, none, none, none, none, none, none, none, none, none, none, none, none, none, none, none, none, none, none, none, none, none, none, none] [] v5.1 v5.2 _ _
  refine rr_aload_n (i := 0) C dL_law_94 rfl rfl ?_
  refine rr_iconst (v := 1) C dL_law_95 (by decide) ?_
  replace hr := Option.bind_eq_some_iff.mp hr
  obtain ⟨v36, e37, hr⟩ := hr
  refine rr_callS (as := [.ref 0, .int 1]) (st := []) (mc' := 0) (ms' := 0) C dL_law_96 it_L_24 (by decide) (Nat.le_of_ble_eq_true rfl) (c_L_cell (some 0) 1 (by omega) e37) (fun v_ h_ n_ q_ => ?_)
  obtain ⟨q1_, q2_, q3_⟩ := q_
  subst v_; subst h_; subst n_
  show WW W0 G 73 _ _ _ 99 [some (.ref 0), some (.ref 48), some (.int x10), some (.int x14), some (.int x18), some (.int x22), some (.int x26), some (.int x30), some (.int x34), none, none, none, none, none, none, none, none, none, none, none, none, none, none, none, none, none, none, none, none, none, none, none, none, none, none, none, none, none, none, none, none, none, none, none, none, none, none, none, none, none, none, none, none, none, none, none, none, none, none, none, none, none, none, none, none, none, none, none, none, none, none, none, none] [.int v36] v5.1 v5.2 _ _
  refine rr_bipush (v := 13) C dL_law_99 (by decide) ?_
  refine rr_ishr C dL_law_101 ?_
  refine rr_bipush (v := 127) C dL_law_102 (by decide) ?_
  refine rr_iand C dL_law_104 ?_
  refine rr_bipush (v := 101) C dL_law_105 (by decide) ?_
  refine rr_irem C dL_law_107 (by decide) ?_
  replace hr := Option.bind_eq_some_iff.mp hr
  obtain ⟨x38, e39, hr⟩ := hr
  refine rr_asI C e39 ?_
  refine rr_istore C dL_law_108 (by decide) ?_
  show WW W0 G 73 _ _ _ 110 [some (.ref 0), some (.ref 48), some (.int x10), some (.int x14), some (.int x18), some (.int x22), some (.int x26), some (.int x30), some (.int x34), some (.int x38), none, none, none, none, none, none, none, none, none, none, none, none, none, none, none, none, none, none, none, none, none, none, none, none, none, none, none, none, none, none, none, none, none, none, none, none, none, none, none, none, none, none, none, none, none, none, none, none, none, none, none, none, none, none, none, none, none, none, none, none, none, none, none] [] v5.1 v5.2 _ _
  refine rr_aload_n (i := 0) C dL_law_110 rfl rfl ?_
  refine rr_iconst (v := 1) C dL_law_111 (by decide) ?_
  replace hr := Option.bind_eq_some_iff.mp hr
  obtain ⟨v40, e41, hr⟩ := hr
  refine rr_callS (as := [.ref 0, .int 1]) (st := []) (mc' := 0) (ms' := 0) C dL_law_112 it_L_24 (by decide) (Nat.le_of_ble_eq_true rfl) (c_L_cell (some 0) 1 (by omega) e41) (fun v_ h_ n_ q_ => ?_)
  obtain ⟨q1_, q2_, q3_⟩ := q_
  subst v_; subst h_; subst n_
  show WW W0 G 73 _ _ _ 115 [some (.ref 0), some (.ref 48), some (.int x10), some (.int x14), some (.int x18), some (.int x22), some (.int x26), some (.int x30), some (.int x34), some (.int x38), none, none, none, none, none, none, none, none, none, none, none, none, none, none, none, none, none, none, none, none, none, none, none, none, none, none, none, none, none, none, none, none, none, none, none, none, none, none, none, none, none, none, none, none, none, none, none, none, none, none, none, none, none, none, none, none, none, none, none, none, none, none, none] [.int v40] v5.1 v5.2 _ _
  refine rr_bipush (v := 20) C dL_law_115 (by decide) ?_
  refine rr_ishr C dL_law_117 ?_
  refine rr_bipush (v := 127) C dL_law_118 (by decide) ?_
  refine rr_iand C dL_law_120 ?_
  refine rr_bipush (v := 101) C dL_law_121 (by decide) ?_
  refine rr_irem C dL_law_123 (by decide) ?_
  replace hr := Option.bind_eq_some_iff.mp hr
  obtain ⟨x42, e43, hr⟩ := hr
  refine rr_asI C e43 ?_
  refine rr_istore C dL_law_124 (by decide) ?_
  show WW W0 G 73 _ _ _ 126 [some (.ref 0), some (.ref 48), some (.int x10), some (.int x14), some (.int x18), some (.int x22), some (.int x26), some (.int x30), some (.int x34), some (.int x38), some (.int x42), none, none, none, none, none, none, none, none, none, none, none, none, none, none, none, none, none, none, none, none, none, none, none, none, none, none, none, none, none, none, none, none, none, none, none, none, none, none, none, none, none, none, none, none, none, none, none, none, none, none, none, none, none, none, none, none, none, none, none, none, none, none] [] v5.1 v5.2 _ _
  refine rr_aload_n (i := 0) C dL_law_126 rfl rfl ?_
  refine rr_iconst (v := 2) C dL_law_127 (by decide) ?_
  replace hr := Option.bind_eq_some_iff.mp hr
  obtain ⟨v44, e45, hr⟩ := hr
  refine rr_callS (as := [.ref 0, .int 2]) (st := []) (mc' := 0) (ms' := 0) C dL_law_128 it_L_24 (by decide) (Nat.le_of_ble_eq_true rfl) (c_L_cell (some 0) 2 (by omega) e45) (fun v_ h_ n_ q_ => ?_)
  obtain ⟨q1_, q2_, q3_⟩ := q_
  subst v_; subst h_; subst n_
  show WW W0 G 73 _ _ _ 131 [some (.ref 0), some (.ref 48), some (.int x10), some (.int x14), some (.int x18), some (.int x22), some (.int x26), some (.int x30), some (.int x34), some (.int x38), some (.int x42), none, none, none, none, none, none, none, none, none, none, none, none, none, none, none, none, none, none, none, none, none, none, none, none, none, none, none, none, none, none, none, none, none, none, none, none, none, none, none, none, none, none, none, none, none, none, none, none, none, none, none, none, none, none, none, none, none, none, none, none, none, none] [.int v44] v5.1 v5.2 _ _
  refine rr_bipush (v := 63) C dL_law_131 (by decide) ?_
  refine rr_iand C dL_law_133 ?_
  replace hr := Option.bind_eq_some_iff.mp hr
  obtain ⟨x46, e47, hr⟩ := hr
  refine rr_asI C e47 ?_
  refine rr_istore C dL_law_134 (by decide) ?_
  show WW W0 G 73 _ _ _ 136 [some (.ref 0), some (.ref 48), some (.int x10), some (.int x14), some (.int x18), some (.int x22), some (.int x26), some (.int x30), some (.int x34), some (.int x38), some (.int x42), some (.int x46), none, none, none, none, none, none, none, none, none, none, none, none, none, none, none, none, none, none, none, none, none, none, none, none, none, none, none, none, none, none, none, none, none, none, none, none, none, none, none, none, none, none, none, none, none, none, none, none, none, none, none, none, none, none, none, none, none, none, none, none, none] [] v5.1 v5.2 _ _
  refine rr_iconst (v := 1) C dL_law_136 (by decide) ?_
  refine rr_aload_n (i := 0) C dL_law_137 rfl rfl ?_
  refine rr_iconst (v := 2) C dL_law_138 (by decide) ?_
  replace hr := Option.bind_eq_some_iff.mp hr
  obtain ⟨v48, e49, hr⟩ := hr
  refine rr_callS (as := [.ref 0, .int 2]) (st := [.int 1]) (mc' := 0) (ms' := 0) C dL_law_139 it_L_24 (by decide) (Nat.le_of_ble_eq_true rfl) (c_L_cell (some 0) 2 (by omega) e49) (fun v_ h_ n_ q_ => ?_)
  obtain ⟨q1_, q2_, q3_⟩ := q_
  subst v_; subst h_; subst n_
  show WW W0 G 73 _ _ _ 142 [some (.ref 0), some (.ref 48), some (.int x10), some (.int x14), some (.int x18), some (.int x22), some (.int x26), some (.int x30), some (.int x34), some (.int x38), some (.int x42), some (.int x46), none, none, none, none, none, none, none, none, none, none, none, none, none, none, none, none, none, none, none, none, none, none, none, none, none, none, none, none, none, none, none, none, none, none, none, none, none, none, none, none, none, none, none, none, none, none, none, none, none, none, none, none, none, none, none, none, none, none, none, none, none] [.int v48, .int 1] v5.1 v5.2 _ _
  refine rr_bipush (v := 6) C dL_law_142 (by decide) ?_
  refine rr_ishr C dL_law_144 ?_
  refine rr_bipush (v := 7) C dL_law_145 (by decide) ?_
  refine rr_iand C dL_law_147 ?_
  refine rr_iadd C dL_law_148 ?_
  replace hr := Option.bind_eq_some_iff.mp hr
  obtain ⟨x50, e51, hr⟩ := hr
  refine rr_asI C e51 ?_
  refine rr_istore C dL_law_149 (by decide) ?_
  show WW W0 G 73 _ _ _ 151 [some (.ref 0), some (.ref 48), some (.int x10), some (.int x14), some (.int x18), some (.int x22), some (.int x26), some (.int x30), some (.int x34), some (.int x38), some (.int x42), some (.int x46), some (.int x50), none, none, none, none, none, none, none, none, none, none, none, none, none, none, none, none, none, none, none, none, none, none, none, none, none, none, none, none, none, none, none, none, none, none, none, none, none, none, none, none, none, none, none, none, none, none, none, none, none, none, none, none, none, none, none, none, none, none, none, none] [] v5.1 v5.2 _ _
  refine rr_aload_n (i := 0) C dL_law_151 rfl rfl ?_
  refine rr_iconst (v := 2) C dL_law_152 (by decide) ?_
  replace hr := Option.bind_eq_some_iff.mp hr
  obtain ⟨v52, e53, hr⟩ := hr
  refine rr_callS (as := [.ref 0, .int 2]) (st := []) (mc' := 0) (ms' := 0) C dL_law_153 it_L_24 (by decide) (Nat.le_of_ble_eq_true rfl) (c_L_cell (some 0) 2 (by omega) e53) (fun v_ h_ n_ q_ => ?_)
  obtain ⟨q1_, q2_, q3_⟩ := q_
  subst v_; subst h_; subst n_
  show WW W0 G 73 _ _ _ 156 [some (.ref 0), some (.ref 48), some (.int x10), some (.int x14), some (.int x18), some (.int x22), some (.int x26), some (.int x30), some (.int x34), some (.int x38), some (.int x42), some (.int x46), some (.int x50), none, none, none, none, none, none, none, none, none, none, none, none, none, none, none, none, none, none, none, none, none, none, none, none, none, none, none, none, none, none, none, none, none, none, none, none, none, none, none, none, none, none, none, none, none, none, none, none, none, none, none, none, none, none, none, none, none, none, none, none] [.int v52] v5.1 v5.2 _ _
  refine rr_bipush (v := 9) C dL_law_156 (by decide) ?_
  refine rr_ishr C dL_law_158 ?_
  refine rr_bipush (v := 31) C dL_law_159 (by decide) ?_
  refine rr_iand C dL_law_161 ?_
  replace hr := Option.bind_eq_some_iff.mp hr
  obtain ⟨x54, e55, hr⟩ := hr
  refine rr_asI C e55 ?_
  refine rr_istore C dL_law_162 (by decide) ?_
  show WW W0 G 73 _ _ _ 164 [some (.ref 0), some (.ref 48), some (.int x10), some (.int x14), some (.int x18), some (.int x22), some (.int x26), some (.int x30), some (.int x34), some (.int x38), some (.int x42), some (.int x46), some (.int x50), some (.int x54), none, none, none, none, none, none, none, none, none, none, none, none, none, none, none, none, none, none, none, none, none, none, none, none, none, none, none, none, none, none, none, none, none, none, none, none, none, none, none, none, none, none, none, none, none, none, none, none, none, none, none, none, none, none, none, none, none, none, none] [] v5.1 v5.2 _ _
  refine rr_aload_n (i := 0) C dL_law_164 rfl rfl ?_
  refine rr_iconst (v := 2) C dL_law_165 (by decide) ?_
  replace hr := Option.bind_eq_some_iff.mp hr
  obtain ⟨v56, e57, hr⟩ := hr
  refine rr_callS (as := [.ref 0, .int 2]) (st := []) (mc' := 0) (ms' := 0) C dL_law_166 it_L_24 (by decide) (Nat.le_of_ble_eq_true rfl) (c_L_cell (some 0) 2 (by omega) e57) (fun v_ h_ n_ q_ => ?_)
  obtain ⟨q1_, q2_, q3_⟩ := q_
  subst v_; subst h_; subst n_
  show WW W0 G 73 _ _ _ 169 [some (.ref 0), some (.ref 48), some (.int x10), some (.int x14), some (.int x18), some (.int x22), some (.int x26), some (.int x30), some (.int x34), some (.int x38), some (.int x42), some (.int x46), some (.int x50), some (.int x54), none, none, none, none, none, none, none, none, none, none, none, none, none, none, none, none, none, none, none, none, none, none, none, none, none, none, none, none, none, none, none, none, none, none, none, none, none, none, none, none, none, none, none, none, none, none, none, none, none, none, none, none, none, none, none, none, none, none, none] [.int v56] v5.1 v5.2 _ _
  refine rr_bipush (v := 14) C dL_law_169 (by decide) ?_
  refine rr_ishr C dL_law_171 ?_
  refine rr_bipush (v := 7) C dL_law_172 (by decide) ?_
  refine rr_iand C dL_law_174 ?_
  replace hr := Option.bind_eq_some_iff.mp hr
  obtain ⟨x58, e59, hr⟩ := hr
  refine rr_asI C e59 ?_
  refine rr_istore C dL_law_175 (by decide) ?_
  show WW W0 G 73 _ _ _ 177 [some (.ref 0), some (.ref 48), some (.int x10), some (.int x14), some (.int x18), some (.int x22), some (.int x26), some (.int x30), some (.int x34), some (.int x38), some (.int x42), some (.int x46), some (.int x50), some (.int x54), some (.int x58), none, none, none, none, none, none, none, none, none, none, none, none, none, none, none, none, none, none, none, none, none, none, none, none, none, none, none, none, none, none, none, none, none, none, none, none, none, none, none, none, none, none, none, none, none, none, none, none, none, none, none, none, none, none, none, none, none, none] [] v5.1 v5.2 _ _
  refine rr_aload_n (i := 0) C dL_law_177 rfl rfl ?_
  refine rr_iconst (v := 2) C dL_law_178 (by decide) ?_
  replace hr := Option.bind_eq_some_iff.mp hr
  obtain ⟨v60, e61, hr⟩ := hr
  refine rr_callS (as := [.ref 0, .int 2]) (st := []) (mc' := 0) (ms' := 0) C dL_law_179 it_L_24 (by decide) (Nat.le_of_ble_eq_true rfl) (c_L_cell (some 0) 2 (by omega) e61) (fun v_ h_ n_ q_ => ?_)
  obtain ⟨q1_, q2_, q3_⟩ := q_
  subst v_; subst h_; subst n_
  show WW W0 G 73 _ _ _ 182 [some (.ref 0), some (.ref 48), some (.int x10), some (.int x14), some (.int x18), some (.int x22), some (.int x26), some (.int x30), some (.int x34), some (.int x38), some (.int x42), some (.int x46), some (.int x50), some (.int x54), some (.int x58), none, none, none, none, none, none, none, none, none, none, none, none, none, none, none, none, none, none, none, none, none, none, none, none, none, none, none, none, none, none, none, none, none, none, none, none, none, none, none, none, none, none, none, none, none, none, none, none, none, none, none, none, none, none, none, none, none, none] [.int v60] v5.1 v5.2 _ _
  refine rr_bipush (v := 17) C dL_law_182 (by decide) ?_
  refine rr_ishr C dL_law_184 ?_
  refine rr_sipush (v := 255) C dL_law_185 (by decide) ?_
  refine rr_iand C dL_law_188 ?_
  replace hr := Option.bind_eq_some_iff.mp hr
  obtain ⟨x62, e63, hr⟩ := hr
  refine rr_asI C e63 ?_
  refine rr_istore C dL_law_189 (by decide) ?_
  show WW W0 G 73 _ _ _ 191 [some (.ref 0), some (.ref 48), some (.int x10), some (.int x14), some (.int x18), some (.int x22), some (.int x26), some (.int x30), some (.int x34), some (.int x38), some (.int x42), some (.int x46), some (.int x50), some (.int x54), some (.int x58), some (.int x62), none, none, none, none, none, none, none, none, none, none, none, none, none, none, none, none, none, none, none, none, none, none, none, none, none, none, none, none, none, none, none, none, none, none, none, none, none, none, none, none, none, none, none, none, none, none, none, none, none, none, none, none, none, none, none, none, none] [] v5.1 v5.2 _ _
  refine rr_aload_n (i := 0) C dL_law_191 rfl rfl ?_
  refine rr_iconst (v := 2) C dL_law_192 (by decide) ?_
  replace hr := Option.bind_eq_some_iff.mp hr
  obtain ⟨v64, e65, hr⟩ := hr
  refine rr_callS (as := [.ref 0, .int 2]) (st := []) (mc' := 0) (ms' := 0) C dL_law_193 it_L_24 (by decide) (Nat.le_of_ble_eq_true rfl) (c_L_cell (some 0) 2 (by omega) e65) (fun v_ h_ n_ q_ => ?_)
  obtain ⟨q1_, q2_, q3_⟩ := q_
  subst v_; subst h_; subst n_
  show WW W0 G 73 _ _ _ 196 [some (.ref 0), some (.ref 48), some (.int x10), some (.int x14), some (.int x18), some (.int x22), some (.int x26), some (.int x30), some (.int x34), some (.int x38), some (.int x42), some (.int x46), some (.int x50), some (.int x54), some (.int x58), some (.int x62), none, none, none, none, none, none, none, none, none, none, none, none, none, none, none, none, none, none, none, none, none, none, none, none, none, none, none, none, none, none, none, none, none, none, none, none, none, none, none, none, none, none, none, none, none, none, none, none, none, none, none, none, none, none, none, none, none] [.int v64] v5.1 v5.2 _ _
  refine rr_bipush (v := 25) C dL_law_196 (by decide) ?_
  refine rr_ishr C dL_law_198 ?_
  refine rr_iconst (v := 1) C dL_law_199 (by decide) ?_
  refine rr_iand C dL_law_200 ?_
  refine rr_iconst (v := 1) C dL_law_201 (by decide) ?_
  replace hr := Option.bind_eq_some_iff.mp hr
  obtain ⟨y67, er69, hr⟩ := hr
  refine rr_join0 (pc' := 210) (L' := [some (.ref 0), some (.ref 48), some (.int x10), some (.int x14), some (.int x18), some (.int x22), some (.int x26), some (.int x30), some (.int x34), some (.int x38), some (.int x42), some (.int x46), some (.int x50), some (.int x54), some (.int x58), some (.int x62), none, none, none, none, none, none, none, none, none, none, none, none, none, none, none, none, none, none, none, none, none, none, none, none, none, none, none, none, none, none, none, none, none, none, none, none, none, none, none, none, none, none, none, none, none, none, none, none, none, none, none, none, none, none, none, none, none]) (st' := [.int y67]) (h' := v5.1) (n' := v5.2) C (fun hj68 => ?_) ?_
  · have hr := er69
    refine rr_icmp_ne (tgt := 209) C dL_law_202 (by decide) (fun c66 => ?_) (fun c66 => ?_)
    · replace hr := (if_neg c66).symm.trans hr
      refine rr_iconst (v := 0) C dL_law_209 (by decide) ?_
      cases hr
      exact rr_keep [true, true, true, true, true, true, true, true, true, true, true, true, true, true, true, true, false, false, false, false, false, false, false, false, false, false, false, false, false, false, false, false, false, false, false, false, false, false, false, false, false, false, false, false, false, false, false, false, false, false, false, false, false, false, false, false, false, false, false, false, false, false, false, false, false, false, false, false, false, false, false, false, false] hj68
    · replace hr := (if_pos c66).symm.trans hr
      refine rr_iconst (v := 1) C dL_law_205 (by decide) ?_
      refine rr_goto (tgt := 210) C dL_law_206 (by decide) ?_
      cases hr
      exact rr_keep [true, true, true, true, true, true, true, true, true, true, true, true, true, true, true, true, false, false, false, false, false, false, false, false, false, false, false, false, false, false, false, false, false, false, false, false, false, false, false, false, false, false, false, false, false, false, false, false, false, false, false, false, false, false, false, false, false, false, false, false, false, false, false, false, false, false, false, false, false, false, false, false, false] hj68
  refine rr_istore C dL_law_210 (by decide) ?_
  show WW W0 G 73 _ _ _ 212 [some (.ref 0), some (.ref 48), some (.int x10), some (.int x14), some (.int x18), some (.int x22), some (.int x26), some (.int x30), some (.int x34), some (.int x38), some (.int x42), some (.int x46), some (.int x50), some (.int x54), some (.int x58), some (.int x62), some (.int y67), none, none, none, none, none, none, none, none, none, none, none, none, none, none, none, none, none, none, none, none, none, none, none, none, none, none, none, none, none, none, none, none, none, none, none, none, none, none, none, none, none, none, none, none, none, none, none, none, none, none, none, none, none, none, none, none] [] v5.1 v5.2 _ _
  refine rr_aload_n (i := 0) C dL_law_212 rfl rfl ?_
  refine rr_iconst (v := 2) C dL_law_213 (by decide) ?_
  replace hr := Option.bind_eq_some_iff.mp hr
  obtain ⟨v70, e71, hr⟩ := hr
  refine rr_callS (as := [.ref 0, .int 2]) (st := []) (mc' := 0) (ms' := 0) C dL_law_214 it_L_24 (by decide) (Nat.le_of_ble_eq_true rfl) (c_L_cell (some 0) 2 (by omega) e71) (fun v_ h_ n_ q_ => ?_)
  obtain ⟨q1_, q2_, q3_⟩ := q_
  subst v_; subst h_; subst n_
  show WW W0 G 73 _ _ _ 217 [some (.ref 0), some (.ref 48), some (.int x10), some (.int x14), some (.int x18), some (.int x22), some (.int x26), some (.int x30), some (.int x34), some (.int x38), some (.int x42), some (.int x46), some (.int x50), some (.int x54), some (.int x58), some (.int x62), some (.int y67), none, none, none, none, none, none, none, none, none, none, none, none, none, none, none, none, none, none, none, none, none, none, none, none, none, none, none, none, none, none, none, none, none, none, none, none, none, none, none, none, none, none, none, none, none, none, none, none, none, none, none, none, none, none, none, none] [.int v70] v5.1 v5.2 _ _
  refine rr_bipush (v := 26) C dL_law_217 (by decide) ?_
  refine rr_ishr C dL_law_219 ?_
  refine rr_iconst (v := 1) C dL_law_220 (by decide) ?_
  refine rr_iand C dL_law_221 ?_
  refine rr_iconst (v := 1) C dL_law_222 (by decide) ?_
  replace hr := Option.bind_eq_some_iff.mp hr
  obtain ⟨y73, er75, hr⟩ := hr
  refine rr_join0 (pc' := 231) (L' := [some (.ref 0), some (.ref 48), some (.int x10), some (.int x14), some (.int x18), some (.int x22), some (.int x26), some (.int x30), some (.int x34), some (.int x38), some (.int x42), some (.int x46), some (.int x50), some (.int x54), some (.int x58), some (.int x62), some (.int y67), none, none, none, none, none, none, none, none, none, none, none, none, none, none, none, none, none, none, none, none, none, none, none, none, none, none, none, none, none, none, none, none, none, none, none, none, none, none, none, none, none, none, none, none, none, none, none, none, none, none, none, none, none, none, none, none]) (st' := [.int y73]) (h' := v5.1) (n' := v5.2) C (fun hj74 => ?_) ?_
  · have hr := er75
    refine rr_icmp_ne (tgt := 230) C dL_law_223 (by decide) (fun c72 => ?_) (fun c72 => ?_)
    · replace hr := (if_neg c72).symm.trans hr
      refine rr_iconst (v := 0) C dL_law_230 (by decide) ?_
      cases hr
      exact rr_keep [true, true, true, true, true, true, true, true, true, true, true, true, true, true, true, true, true, false, false, false, false, false, false, false, false, false, false, false, false, false, false, false, false, false, false, false, false, false, false, false, false, false, false, false, false, false, false, false, false, false, false, false, false, false, false, false, false, false, false, false, false, false, false, false, false, false, false, false, false, false, false, false, false] hj74
    · replace hr := (if_pos c72).symm.trans hr
      refine rr_iconst (v := 1) C dL_law_226 (by decide) ?_
      refine rr_goto (tgt := 231) C dL_law_227 (by decide) ?_
      cases hr
      exact rr_keep [true, true, true, true, true, true, true, true, true, true, true, true, true, true, true, true, true, false, false, false, false, false, false, false, false, false, false, false, false, false, false, false, false, false, false, false, false, false, false, false, false, false, false, false, false, false, false, false, false, false, false, false, false, false, false, false, false, false, false, false, false, false, false, false, false, false, false, false, false, false, false, false, false] hj74
  refine rr_istore C dL_law_231 (by decide) ?_
  show WW W0 G 73 _ _ _ 233 [some (.ref 0), some (.ref 48), some (.int x10), some (.int x14), some (.int x18), some (.int x22), some (.int x26), some (.int x30), some (.int x34), some (.int x38), some (.int x42), some (.int x46), some (.int x50), some (.int x54), some (.int x58), some (.int x62), some (.int y67), some (.int y73), none, none, none, none, none, none, none, none, none, none, none, none, none, none, none, none, none, none, none, none, none, none, none, none, none, none, none, none, none, none, none, none, none, none, none, none, none, none, none, none, none, none, none, none, none, none, none, none, none, none, none, none, none, none, none] [] v5.1 v5.2 _ _
  exact rr_keep [true, true, true, true, true, true, true, true, true, true, true, true, true, true, true, true, true, true, false, false, false, false, false, false, false, false, false, false, false, false, false, false, false, false, false, false, false, false, false, false, false, false, false, false, false, false, false, false, false, false, false, false, false, false, false, false, false, false, false, false, false, false, false, false, false, false, false, false, false, false, false, false, false] (c_law_233 x10 x14 x18 x22 x26 x30 x34 x38 x42 x46 x50 x54 x58 x62 y67 y73 C (by omega) hx0 hr)

def lp_X7_settle_66 (K : Nat) (n : Nat) (l0 : Nat) (l2 : Option Nat) (l3 : Nat) (l4 : Nat) : Nat → Int32 → mm_H → Option (mm_H)
  | 0, _, _ => none
  | k_ + 1, l5, h =>
    (rdI h n l4 6 1).bind fun v32 =>
    if v32 ≤ l5 then
      some (h)
    else
    (ckq h n l4 6).bind fun u34 =>
    (q_X6_at K h n l4 l5).bind fun v36 =>
    match v36 with
    | none =>
      lp_X7_settle_66 K n l0 l2 l3 l4 k_ (l5 + 1) h
    | some a38 =>
      (rdR h n l0 7 10).bind fun v39 =>
      (ckq h n a38 5).bind fun u41 =>
      (q_X5_stands K h n a38 v39).bind fun v43 =>
      if v43 = 0 then
        lp_X7_settle_66 K n l0 l2 l3 l4 k_ (l5 + 1) h
      else
      (ckq h n a38 5).bind fun u45 =>
      (q_X5_slot K h n a38).bind fun v47 =>
      if v47 < 0 then
        lp_X7_settle_66 K n l0 l2 l3 l4 k_ (l5 + 1) h
      else
      if 17 ≤ v47 then
        lp_X7_settle_66 K n l0 l2 l3 l4 k_ (l5 + 1) h
      else
      (rdI h n a38 5 0).bind fun v49 =>
      if v49 < 0 then
        lp_X7_settle_66 K n l0 l2 l3 l4 k_ (l5 + 1) h
      else
      (rdI h n a38 5 0).bind fun v51 =>
      if 9 ≤ v51 then
        lp_X7_settle_66 K n l0 l2 l3 l4 k_ (l5 + 1) h
      else
      l2.bind fun a53 =>
      (stI h n a53 v47 l5).bind fun h55 =>
      (rdI h55 n a38 5 0).bind fun v57 =>
      (rdI h55 n a38 5 4).bind fun v59 =>
      (stI h55 n l3 v57 v59).bind fun h61 =>
      lp_X7_settle_66 K n l0 l2 l3 l4 k_ (l5 + 1) h61
def q_X7_settle (K : Nat) (h : mm_H) (n : Nat) (l0 : Nat) (l1 : Int32) : Option (mm_H) :=
  if l1 < 0 then
    some h
  else
  if l1 < 15 then
    (rdR h n l0 7 3).bind fun v1 =>
    v1.bind fun a3 =>
    (ldR h n a3 6 l1).bind fun v5 =>
    (rdR h n l0 7 4).bind fun v7 =>
    v7.bind fun a9 =>
    (ldR h n a9 6 l1).bind fun v11 =>
    (q_J7_fill_53178 K h n v5 (-1)).bind fun v13 =>
    (q_J7_fill_53178 K v13 n v11 0).bind fun v15 =>
    v11.bind fun a17 =>
    (stI v15 n a17 4 100).bind fun h19 =>
    (stI h19 n a17 7 (-1)).bind fun h21 =>
    (ckq h21 n l0 7).bind fun u23 =>
    (q_X7_bookOf K h21 n l0 l1).bind fun v25 =>
    match v25 with
    | none =>
      some h21
    | some a27 =>
      (ckq h21 n l0 7).bind fun u28 =>
      (q_X7_findWords K h21 n l0 l1).bind fun v30 =>
      (lp_X7_settle_66 K n l0 v5 a17 a27 K 0 v30).bind fun v63 =>
      some v63
  else
  some h
set_option maxRecDepth 100000 in
set_option maxHeartbeats 4000000 in
theorem w_X7_settle_66 {K : Nat} {W0 : mm_X} {G : mm_G} {mc ms kc ks : Nat} {Q_ : State → Prop} {n : Nat} (C : mm_C W0 G cX7_settle yX7_settle.cls 8 mc ms none 4 yX7_settle.name) (hn : 48 ≤ n) (l0 : Nat) (l2 : Option Nat) (l3 : Nat) (l4 : Nat) : ∀ (k_ : Nat) (l5 : Int32) (h : mm_H) {r_ : mm_H} (hr : lp_X7_settle_66 K n l0 l2 l3 l4 k_ l5 h = some r_) (hx0 : WW W0 G 8 mc ms Q_ 166 [none, none, none, none, none, none, none, none] [] r_ n kc ks), WW W0 G 8 mc ms Q_ 66 [some (.ref l0), none, some (va_rf l2), some (.ref l3), some (.ref l4), some (.int l5), none, none] [] h n kc ks := by
  intro k_
  induction k_ with
  | zero =>
    intro l5 h r_ hr
    cases hr
  | succ k_ ih_ =>
    intro l5 h r_ hr hx0
    unfold lp_X7_settle_66 at hr
    refine rr_iload C dX7_settle_66 rfl ?_
    refine rr_aload C dX7_settle_68 rfl ?_
    replace hr := Option.bind_eq_some_iff.mp hr
    obtain ⟨v32, e33, hr⟩ := hr
    refine rr_rdI C dX7_settle_70 fl_X7_109 e33 ?_
    refine rr_icmp_ge (tgt := 166) C dX7_settle_73 (by decide) (fun c73_ => ?_) (fun c73_ => ?_)
    · replace hr := (if_pos c73_).symm.trans hr
      obtain rfl := Option.some.inj hr
      exact rr_keep [false, false, false, false, false, false, false, false] (hx0)
    · replace hr := (if_neg c73_).symm.trans hr
      refine rr_aload C dX7_settle_76 rfl ?_
      refine rr_iload C dX7_settle_78 rfl ?_
      replace hr := Option.bind_eq_some_iff.mp hr
      obtain ⟨u34, e35, hr⟩ := hr
      replace hr := Option.bind_eq_some_iff.mp hr
      obtain ⟨v36, e37, hr⟩ := hr
      refine rr_callVq (as := [.int l5]) (st := []) (mc' := 0) (ms' := 0) C dX7_settle_80 iv_X7_112 (by decide) e35 rfl (Nat.le_of_ble_eq_true rfl) (c_X6_at l4 l5 (by omega) e37) (fun v_ h_ n_ q_ => ?_)
      obtain ⟨q1_, q2_, q3_⟩ := q_
      subst v_; subst h_; subst n_
      show WW W0 G 8 _ _ _ 83 [some (.ref l0), none, some (va_rf l2), some (.ref l3), some (.ref l4), some (.int l5), none, none] [va_rf v36] h n _ _
      refine rr_astoreO C dX7_settle_83 (by decide) ?_
      show WW W0 G 8 _ _ _ 85 [some (.ref l0), none, some (va_rf l2), some (.ref l3), some (.ref l4), some (.int l5), some (va_rf v36), none] [] h n _ _
      refine rr_aloadO C dX7_settle_85 rfl ?_
      rcases v36 with _ | a38
      · dsimp only at hr
        refine rr_ifnullN (tgt := 160) C dX7_settle_87 (by decide) ?_
        refine rr_iinc (v := l5 + 1) C dX7_settle_160 rfl rfl ?_
        show WW W0 G 8 _ _ _ 163 [some (.ref l0), none, some (va_rf l2), some (.ref l3), some (.ref l4), some (.int (l5 + 1)), some (.null), none] [] h n _ _
        refine rr_goto (tgt := 66) C dX7_settle_163 (by decide) ?_
        exact rr_keep [true, false, true, true, true, true, false, false] (ih_ _ _ hr hx0)
      · dsimp only at hr
        refine rr_ifnull C dX7_settle_87 ?_
        refine rr_aload C dX7_settle_90 rfl ?_
        refine rr_aload_n (i := 0) C dX7_settle_92 rfl rfl ?_
        replace hr := Option.bind_eq_some_iff.mp hr
        obtain ⟨v39, e40, hr⟩ := hr
        refine rr_rdR C dX7_settle_93 fl_X7_43 e40 ?_
        replace hr := Option.bind_eq_some_iff.mp hr
        obtain ⟨u41, e42, hr⟩ := hr
        replace hr := Option.bind_eq_some_iff.mp hr
        obtain ⟨v43, e44, hr⟩ := hr
        refine rr_callVq (as := [va_rf v39]) (st := []) (mc' := 0) (ms' := 0) C dX7_settle_96 iv_X7_116 (by decide) e42 rfl (Nat.le_of_ble_eq_true rfl) (c_X5_stands a38 v39 (by omega) e44) (fun v_ h_ n_ q_ => ?_)
        obtain ⟨q1_, q2_, q3_⟩ := q_
        subst v_; subst h_; subst n_
        show WW W0 G 8 _ _ _ 99 [some (.ref l0), none, some (va_rf l2), some (.ref l3), some (.ref l4), some (.int l5), some (.ref a38), none] [.int v43] h n _ _
        refine rr_if_ne (tgt := 105) C dX7_settle_99 (by decide) (fun c99_ => ?_) (fun c99_ => ?_)
        · replace hr := (if_neg c99_).symm.trans hr
          refine rr_aload C dX7_settle_105 rfl ?_
          replace hr := Option.bind_eq_some_iff.mp hr
          obtain ⟨u45, e46, hr⟩ := hr
          replace hr := Option.bind_eq_some_iff.mp hr
          obtain ⟨v47, e48, hr⟩ := hr
          refine rr_callVq (as := []) (st := []) (mc' := 0) (ms' := 0) C dX7_settle_107 iv_X7_122 (by decide) e46 rfl (Nat.le_of_ble_eq_true rfl) (c_X5_slot a38 (by omega) e48) (fun v_ h_ n_ q_ => ?_)
          obtain ⟨q1_, q2_, q3_⟩ := q_
          subst v_; subst h_; subst n_
          show WW W0 G 8 _ _ _ 110 [some (.ref l0), none, some (va_rf l2), some (.ref l3), some (.ref l4), some (.int l5), some (.ref a38), none] [.int v47] h n _ _
          refine rr_istore C dX7_settle_110 (by decide) ?_
          show WW W0 G 8 _ _ _ 112 [some (.ref l0), none, some (va_rf l2), some (.ref l3), some (.ref l4), some (.int l5), some (.ref a38), some (.int v47)] [] h n _ _
          refine rr_iload C dX7_settle_112 rfl ?_
          refine rr_if_lt (tgt := 160) C dX7_settle_114 (by decide) (fun c114_ => ?_) (fun c114_ => ?_)
          · replace hr := (if_pos c114_).symm.trans hr
            refine rr_iinc (v := l5 + 1) C dX7_settle_160 rfl rfl ?_
            show WW W0 G 8 _ _ _ 163 [some (.ref l0), none, some (va_rf l2), some (.ref l3), some (.ref l4), some (.int (l5 + 1)), some (.ref a38), some (.int v47)] [] h n _ _
            refine rr_goto (tgt := 66) C dX7_settle_163 (by decide) ?_
            exact rr_keep [true, false, true, true, true, true, false, false] (ih_ _ _ hr hx0)
          · replace hr := (if_neg c114_).symm.trans hr
            refine rr_iload C dX7_settle_117 rfl ?_
            refine rr_bipush (v := 17) C dX7_settle_119 (by decide) ?_
            refine rr_icmp_ge (tgt := 160) C dX7_settle_121 (by decide) (fun c121_ => ?_) (fun c121_ => ?_)
            · replace hr := (if_pos c121_).symm.trans hr
              refine rr_iinc (v := l5 + 1) C dX7_settle_160 rfl rfl ?_
              show WW W0 G 8 _ _ _ 163 [some (.ref l0), none, some (va_rf l2), some (.ref l3), some (.ref l4), some (.int (l5 + 1)), some (.ref a38), some (.int v47)] [] h n _ _
              refine rr_goto (tgt := 66) C dX7_settle_163 (by decide) ?_
              exact rr_keep [true, false, true, true, true, true, false, false] (ih_ _ _ hr hx0)
            · replace hr := (if_neg c121_).symm.trans hr
              refine rr_aload C dX7_settle_124 rfl ?_
              replace hr := Option.bind_eq_some_iff.mp hr
              obtain ⟨v49, e50, hr⟩ := hr
              refine rr_rdI C dX7_settle_126 fl_X7_126 e50 ?_
              refine rr_if_lt (tgt := 160) C dX7_settle_129 (by decide) (fun c129_ => ?_) (fun c129_ => ?_)
              · replace hr := (if_pos c129_).symm.trans hr
                refine rr_iinc (v := l5 + 1) C dX7_settle_160 rfl rfl ?_
                show WW W0 G 8 _ _ _ 163 [some (.ref l0), none, some (va_rf l2), some (.ref l3), some (.ref l4), some (.int (l5 + 1)), some (.ref a38), some (.int v47)] [] h n _ _
                refine rr_goto (tgt := 66) C dX7_settle_163 (by decide) ?_
                exact rr_keep [true, false, true, true, true, true, false, false] (ih_ _ _ hr hx0)
              · replace hr := (if_neg c129_).symm.trans hr
                refine rr_aload C dX7_settle_132 rfl ?_
                replace hr := Option.bind_eq_some_iff.mp hr
                obtain ⟨v51, e52, hr⟩ := hr
                refine rr_rdI C dX7_settle_134 fl_X7_126 e52 ?_
                refine rr_bipush (v := 9) C dX7_settle_137 (by decide) ?_
                refine rr_icmp_ge (tgt := 160) C dX7_settle_139 (by decide) (fun c139_ => ?_) (fun c139_ => ?_)
                · replace hr := (if_pos c139_).symm.trans hr
                  refine rr_iinc (v := l5 + 1) C dX7_settle_160 rfl rfl ?_
                  show WW W0 G 8 _ _ _ 163 [some (.ref l0), none, some (va_rf l2), some (.ref l3), some (.ref l4), some (.int (l5 + 1)), some (.ref a38), some (.int v47)] [] h n _ _
                  refine rr_goto (tgt := 66) C dX7_settle_163 (by decide) ?_
                  exact rr_keep [true, false, true, true, true, true, false, false] (ih_ _ _ hr hx0)
                · replace hr := (if_neg c139_).symm.trans hr
                  refine rr_aload_nO (i := 2) C dX7_settle_142 rfl rfl ?_
                  refine rr_iload C dX7_settle_143 rfl ?_
                  refine rr_iload C dX7_settle_145 rfl ?_
                  replace hr := Option.bind_eq_some_iff.mp hr
                  obtain ⟨a53, e54, hr⟩ := hr
                  subst e54
                  replace hr := Option.bind_eq_some_iff.mp hr
                  obtain ⟨h55, e56, hr⟩ := hr
                  refine rr_stI C dX7_settle_147 e56 ?_
                  refine rr_aload_n (i := 3) C dX7_settle_148 rfl rfl ?_
                  refine rr_aload C dX7_settle_149 rfl ?_
                  replace hr := Option.bind_eq_some_iff.mp hr
                  obtain ⟨v57, e58, hr⟩ := hr
                  refine rr_rdI C dX7_settle_151 fl_X7_126 e58 ?_
                  refine rr_aload C dX7_settle_154 rfl ?_
                  replace hr := Option.bind_eq_some_iff.mp hr
                  obtain ⟨v59, e60, hr⟩ := hr
                  refine rr_rdI C dX7_settle_156 fl_X7_129 e60 ?_
                  replace hr := Option.bind_eq_some_iff.mp hr
                  obtain ⟨h61, e62, hr⟩ := hr
                  refine rr_stI C dX7_settle_159 e62 ?_
                  refine rr_iinc (v := l5 + 1) C dX7_settle_160 rfl rfl ?_
                  show WW W0 G 8 _ _ _ 163 [some (.ref l0), none, some (.ref a53), some (.ref l3), some (.ref l4), some (.int (l5 + 1)), some (.ref a38), some (.int v47)] [] h61 n _ _
                  refine rr_goto (tgt := 66) C dX7_settle_163 (by decide) ?_
                  exact rr_keep [true, false, true, true, true, true, false, false] (ih_ _ _ hr hx0)
        · replace hr := (if_pos c99_).symm.trans hr
          refine rr_goto (tgt := 160) C dX7_settle_102 (by decide) ?_
          refine rr_iinc (v := l5 + 1) C dX7_settle_160 rfl rfl ?_
          show WW W0 G 8 _ _ _ 163 [some (.ref l0), none, some (va_rf l2), some (.ref l3), some (.ref l4), some (.int (l5 + 1)), some (.ref a38), none] [] h n _ _
          refine rr_goto (tgt := 66) C dX7_settle_163 (by decide) ?_
          exact rr_keep [true, false, true, true, true, true, false, false] (ih_ _ _ hr hx0)
set_option maxRecDepth 100000 in
set_option maxHeartbeats 4000000 in
theorem c_X7_settle {K : Nat} {G : mm_G} {l : Launch} {h : mm_H} {n : Nat} (l0 : Nat) (l1 : Int32) {r_ : mm_H} (hn : 48 ≤ n) (hr : q_X7_settle K h n l0 l1 = some r_) : Sp G l yX7_settle cX7_settle 8 none 4 0 0 [.ref l0, .int l1] h n (fun v h' n' => v = none ∧ h' = r_ ∧ n' = n) := by
  refine Sp_of (by decide +kernel) (Nat.le_of_ble_eq_true rfl) hn ?_
  intro W0 hwl C
  subst hwl
  unfold q_X7_settle at hr
  show WW W0 G 8 0 0 _ 0 [some (.ref l0), some (.int l1), none, none, none, none, none, none] [] h n 0 0
  refine rr_iload_n (i := 1) C dX7_settle_0 rfl rfl ?_
  refine rr_if_lt (tgt := 10) C dX7_settle_1 (by decide) (fun c1_ => ?_) (fun c1_ => ?_)
  · replace hr := (if_pos c1_).symm.trans hr
    obtain rfl := Option.some.inj hr
    exact rr_vret C dX7_settle_10 rfl ⟨rfl, rfl, rfl⟩
  · replace hr := (if_neg c1_).symm.trans hr
    refine rr_iload_n (i := 1) C dX7_settle_4 rfl rfl ?_
    refine rr_bipush (v := 15) C dX7_settle_5 (by decide) ?_
    refine rr_icmp_lt (tgt := 11) C dX7_settle_7 (by decide) (fun c7_ => ?_) (fun c7_ => ?_)
    · replace hr := (if_pos c7_).symm.trans hr
      refine rr_aload_n (i := 0) C dX7_settle_11 rfl rfl ?_
      replace hr := Option.bind_eq_some_iff.mp hr
      obtain ⟨v1, e2, hr⟩ := hr
      refine rr_rdR C dX7_settle_12 fl_X7_19 e2 ?_
      refine rr_iload_n (i := 1) C dX7_settle_15 rfl rfl ?_
      replace hr := Option.bind_eq_some_iff.mp hr
      obtain ⟨a3, e4, hr⟩ := hr
      subst e4
      replace hr := Option.bind_eq_some_iff.mp hr
      obtain ⟨v5, e6, hr⟩ := hr
      refine rr_ldR C dX7_settle_16 e6 ?_
      refine rr_astore_nO (i := 2) C dX7_settle_17 rfl (by decide) ?_
      show WW W0 G 8 _ _ _ 18 [some (.ref l0), some (.int l1), some (va_rf v5), none, none, none, none, none] [] h n _ _
      refine rr_aload_n (i := 0) C dX7_settle_18 rfl rfl ?_
      replace hr := Option.bind_eq_some_iff.mp hr
      obtain ⟨v7, e8, hr⟩ := hr
      refine rr_rdR C dX7_settle_19 fl_X7_22 e8 ?_
      refine rr_iload_n (i := 1) C dX7_settle_22 rfl rfl ?_
      replace hr := Option.bind_eq_some_iff.mp hr
      obtain ⟨a9, e10, hr⟩ := hr
      subst e10
      replace hr := Option.bind_eq_some_iff.mp hr
      obtain ⟨v11, e12, hr⟩ := hr
      refine rr_ldR C dX7_settle_23 e12 ?_
      refine rr_astore_nO (i := 3) C dX7_settle_24 rfl (by decide) ?_
      rw [mm_set1_rf (i := 2) (r := v5) rfl]
      show WW W0 G 8 _ _ _ 25 [some (.ref l0), some (.int l1), some (va_rf v5), some (va_rf v11), none, none, none, none] [] h n _ _
      refine rr_aload_nO (i := 2) C dX7_settle_25 rfl rfl ?_
      refine rr_iconst (v := (-1)) C dX7_settle_26 (by decide) ?_
      replace hr := Option.bind_eq_some_iff.mp hr
      obtain ⟨v13, e14, hr⟩ := hr
      refine rr_callS (as := [va_rf v5, .int (-1)]) (st := []) (mc' := 0) (ms' := 0) C dX7_settle_27 it_X7_96 (by decide) (Nat.le_of_ble_eq_true rfl) (c_J7_fill_53178 v5 (-1) (by omega) e14) (fun v_ h_ n_ q_ => ?_)
      obtain ⟨q1_, q2_, q3_⟩ := q_
      subst v_; subst h_; subst n_
      show WW W0 G 8 _ _ _ 30 [some (.ref l0), some (.int l1), some (va_rf v5), some (va_rf v11), none, none, none, none] [] v13 n _ _
      refine rr_aload_nO (i := 3) C dX7_settle_30 rfl rfl ?_
      refine rr_iconst (v := 0) C dX7_settle_31 (by decide) ?_
      replace hr := Option.bind_eq_some_iff.mp hr
      obtain ⟨v15, e16, hr⟩ := hr
      refine rr_callS (as := [va_rf v11, .int 0]) (st := []) (mc' := 0) (ms' := 0) C dX7_settle_32 it_X7_96 (by decide) (Nat.le_of_ble_eq_true rfl) (c_J7_fill_53178 v11 0 (by omega) e16) (fun v_ h_ n_ q_ => ?_)
      obtain ⟨q1_, q2_, q3_⟩ := q_
      subst v_; subst h_; subst n_
      show WW W0 G 8 _ _ _ 35 [some (.ref l0), some (.int l1), some (va_rf v5), some (va_rf v11), none, none, none, none] [] v15 n _ _
      refine rr_aload_nO (i := 3) C dX7_settle_35 rfl rfl ?_
      refine rr_iconst (v := 4) C dX7_settle_36 (by decide) ?_
      refine rr_bipush (v := 100) C dX7_settle_37 (by decide) ?_
      replace hr := Option.bind_eq_some_iff.mp hr
      obtain ⟨a17, e18, hr⟩ := hr
      subst e18
      replace hr := Option.bind_eq_some_iff.mp hr
      obtain ⟨h19, e20, hr⟩ := hr
      refine rr_stI C dX7_settle_39 e20 ?_
      refine rr_aload_n (i := 3) C dX7_settle_40 rfl rfl ?_
      refine rr_bipush (v := 7) C dX7_settle_41 (by decide) ?_
      refine rr_iconst (v := (-1)) C dX7_settle_43 (by decide) ?_
      replace hr := Option.bind_eq_some_iff.mp hr
      obtain ⟨h21, e22, hr⟩ := hr
      refine rr_stI C dX7_settle_44 e22 ?_
      refine rr_aload_n (i := 0) C dX7_settle_45 rfl rfl ?_
      refine rr_iload_n (i := 1) C dX7_settle_46 rfl rfl ?_
      replace hr := Option.bind_eq_some_iff.mp hr
      obtain ⟨u23, e24, hr⟩ := hr
      replace hr := Option.bind_eq_some_iff.mp hr
      obtain ⟨v25, e26, hr⟩ := hr
      refine rr_callVq (as := [.int l1]) (st := []) (mc' := 0) (ms' := 0) C dX7_settle_47 iv_X7_102 (by decide) e24 rfl (Nat.le_of_ble_eq_true rfl) (c_X7_bookOf l0 l1 (by omega) e26) (fun v_ h_ n_ q_ => ?_)
      obtain ⟨q1_, q2_, q3_⟩ := q_
      subst v_; subst h_; subst n_
      show WW W0 G 8 _ _ _ 50 [some (.ref l0), some (.int l1), some (va_rf v5), some (.ref a17), none, none, none, none] [va_rf v25] h21 n _ _
      refine rr_astoreO C dX7_settle_50 (by decide) ?_
      show WW W0 G 8 _ _ _ 52 [some (.ref l0), some (.int l1), some (va_rf v5), some (.ref a17), some (va_rf v25), none, none, none] [] h21 n _ _
      refine rr_aloadO C dX7_settle_52 rfl ?_
      rcases v25 with _ | a27
      · dsimp only at hr
        refine rr_ifnonnullN C dX7_settle_54 ?_
        obtain rfl := Option.some.inj hr
        exact rr_vret C dX7_settle_57 rfl ⟨rfl, rfl, rfl⟩
      · dsimp only at hr
        refine rr_ifnonnull (tgt := 58) C dX7_settle_54 (by decide) ?_
        refine rr_aload_n (i := 0) C dX7_settle_58 rfl rfl ?_
        refine rr_iload_n (i := 1) C dX7_settle_59 rfl rfl ?_
        replace hr := Option.bind_eq_some_iff.mp hr
        obtain ⟨u28, e29, hr⟩ := hr
        replace hr := Option.bind_eq_some_iff.mp hr
        obtain ⟨v30, e31, hr⟩ := hr
        refine rr_callVq (as := [.int l1]) (st := []) (mc' := 0) (ms' := 0) C dX7_settle_60 iv_X7_106 (by decide) e29 rfl (Nat.le_of_ble_eq_true rfl) (c_X7_findWords l0 l1 (by omega) e31) (fun v_ h_ n_ q_ => ?_)
        obtain ⟨q1_, q2_, q3_⟩ := q_
        subst v_; subst h_; subst n_
        show WW W0 G 8 _ _ _ 63 [some (.ref l0), some (.int l1), some (va_rf v5), some (.ref a17), some (.ref a27), none, none, none] [] v30 n _ _
        refine rr_iconst (v := 0) C dX7_settle_63 (by decide) ?_
        refine rr_istore C dX7_settle_64 (by decide) ?_
        show WW W0 G 8 _ _ _ 66 [some (.ref l0), some (.int l1), some (va_rf v5), some (.ref a17), some (.ref a27), some (.int 0), none, none] [] v30 n _ _
        replace hr := Option.bind_eq_some_iff.mp hr
        obtain ⟨v63, e64, hr⟩ := hr
        refine rr_keep [true, false, true, true, true, true, false, false] (w_X7_settle_66 C (by omega) l0 v5 a17 a27 K 0 v30 e64 ?_)
        show WW W0 G 8 _ _ _ 166 [none, none, none, none, none, none, none, none] [] v63 n _ _
        obtain rfl := Option.some.inj hr
        exact rr_vret C dX7_settle_166 rfl ⟨rfl, rfl, rfl⟩
    · replace hr := (if_neg c7_).symm.trans hr
      obtain rfl := Option.some.inj hr
      exact rr_vret C dX7_settle_10 rfl ⟨rfl, rfl, rfl⟩
def q_X7_numberAt (K : Nat) (h : mm_H) (n : Nat) (l0 : Nat) (l1 : Int32) (l2 : Int32) : Option (Int32) :=
  if l1 < 0 then
    some 0
  else
  if 15 ≤ l1 then
    some 0
  else
  if l2 < 3 then
    some 0
  else
  if 9 ≤ l2 then
    some 0
  else
  (rdR h n l0 7 4).bind fun v1 =>
  v1.bind fun a3 =>
  (ldR h n a3 6 l1).bind fun v5 =>
  v5.bind fun a7 =>
  (ldI h n a7 l2).bind fun v9 =>
  some v9
set_option maxRecDepth 100000 in
set_option maxHeartbeats 4000000 in
theorem c_X7_numberAt {K : Nat} {G : mm_G} {l : Launch} {h : mm_H} {n : Nat} (l0 : Nat) (l1 : Int32) (l2 : Int32) {r_ : Int32} (hn : 48 ≤ n) (hr : q_X7_numberAt K h n l0 l1 l2 = some r_) : Sp G l yX7_numberAt cX7_numberAt 4 (some .int) 0 0 0 [.ref l0, .int l1, .int l2] h n (fun v h' n' => v = some (.int r_) ∧ h' = h ∧ n' = n) := by
  refine Sp_of (by decide +kernel) (Nat.le_of_ble_eq_true rfl) hn ?_
  intro W0 hwl C
  subst hwl
  unfold q_X7_numberAt at hr
  show WW W0 G 4 0 0 _ 0 [some (.ref l0), some (.int l1), some (.int l2), none] [] h n 0 0
  refine rr_iload_n (i := 1) C dX7_numberAt_0 rfl rfl ?_
  refine rr_if_lt (tgt := 25) C dX7_numberAt_1 (by decide) (fun c1_ => ?_) (fun c1_ => ?_)
  · replace hr := (if_pos c1_).symm.trans hr
    refine rr_iconst (v := 0) C dX7_numberAt_25 (by decide) ?_
    refine rr_istore_n (i := 3) C dX7_numberAt_26 rfl (by decide) ?_
    show WW W0 G 4 _ _ _ 27 [some (.ref l0), some (.int l1), some (.int l2), some (.int 0)] [] h n _ _
    refine rr_iload_n (i := 3) C dX7_numberAt_27 rfl rfl ?_
    refine rr_if_eq (tgt := 42) C dX7_numberAt_28 (by decide) (fun _ => ?_) (fun q_ => absurd rfl q_)
    refine rr_iconst (v := 0) C dX7_numberAt_42 (by decide) ?_
    obtain rfl := Option.some.inj hr
    exact rr_iret (ty := .int) C dX7_numberAt_43 rfl rfl ⟨rfl, rfl, rfl⟩
  · replace hr := (if_neg c1_).symm.trans hr
    refine rr_iload_n (i := 1) C dX7_numberAt_4 rfl rfl ?_
    refine rr_bipush (v := 15) C dX7_numberAt_5 (by decide) ?_
    refine rr_icmp_ge (tgt := 25) C dX7_numberAt_7 (by decide) (fun c7_ => ?_) (fun c7_ => ?_)
    · replace hr := (if_pos c7_).symm.trans hr
      refine rr_iconst (v := 0) C dX7_numberAt_25 (by decide) ?_
      refine rr_istore_n (i := 3) C dX7_numberAt_26 rfl (by decide) ?_
      show WW W0 G 4 _ _ _ 27 [some (.ref l0), some (.int l1), some (.int l2), some (.int 0)] [] h n _ _
      refine rr_iload_n (i := 3) C dX7_numberAt_27 rfl rfl ?_
      refine rr_if_eq (tgt := 42) C dX7_numberAt_28 (by decide) (fun _ => ?_) (fun q_ => absurd rfl q_)
      refine rr_iconst (v := 0) C dX7_numberAt_42 (by decide) ?_
      obtain rfl := Option.some.inj hr
      exact rr_iret (ty := .int) C dX7_numberAt_43 rfl rfl ⟨rfl, rfl, rfl⟩
    · replace hr := (if_neg c7_).symm.trans hr
      refine rr_iload_n (i := 2) C dX7_numberAt_10 rfl rfl ?_
      refine rr_iconst (v := 3) C dX7_numberAt_11 (by decide) ?_
      refine rr_icmp_lt (tgt := 25) C dX7_numberAt_12 (by decide) (fun c12_ => ?_) (fun c12_ => ?_)
      · replace hr := (if_pos c12_).symm.trans hr
        refine rr_iconst (v := 0) C dX7_numberAt_25 (by decide) ?_
        refine rr_istore_n (i := 3) C dX7_numberAt_26 rfl (by decide) ?_
        show WW W0 G 4 _ _ _ 27 [some (.ref l0), some (.int l1), some (.int l2), some (.int 0)] [] h n _ _
        refine rr_iload_n (i := 3) C dX7_numberAt_27 rfl rfl ?_
        refine rr_if_eq (tgt := 42) C dX7_numberAt_28 (by decide) (fun _ => ?_) (fun q_ => absurd rfl q_)
        refine rr_iconst (v := 0) C dX7_numberAt_42 (by decide) ?_
        obtain rfl := Option.some.inj hr
        exact rr_iret (ty := .int) C dX7_numberAt_43 rfl rfl ⟨rfl, rfl, rfl⟩
      · replace hr := (if_neg c12_).symm.trans hr
        refine rr_iload_n (i := 2) C dX7_numberAt_15 rfl rfl ?_
        refine rr_bipush (v := 9) C dX7_numberAt_16 (by decide) ?_
        refine rr_icmp_ge (tgt := 25) C dX7_numberAt_18 (by decide) (fun c18_ => ?_) (fun c18_ => ?_)
        · replace hr := (if_pos c18_).symm.trans hr
          refine rr_iconst (v := 0) C dX7_numberAt_25 (by decide) ?_
          refine rr_istore_n (i := 3) C dX7_numberAt_26 rfl (by decide) ?_
          show WW W0 G 4 _ _ _ 27 [some (.ref l0), some (.int l1), some (.int l2), some (.int 0)] [] h n _ _
          refine rr_iload_n (i := 3) C dX7_numberAt_27 rfl rfl ?_
          refine rr_if_eq (tgt := 42) C dX7_numberAt_28 (by decide) (fun _ => ?_) (fun q_ => absurd rfl q_)
          refine rr_iconst (v := 0) C dX7_numberAt_42 (by decide) ?_
          obtain rfl := Option.some.inj hr
          exact rr_iret (ty := .int) C dX7_numberAt_43 rfl rfl ⟨rfl, rfl, rfl⟩
        · replace hr := (if_neg c18_).symm.trans hr
          refine rr_iconst (v := 1) C dX7_numberAt_21 (by decide) ?_
          refine rr_goto (tgt := 26) C dX7_numberAt_22 (by decide) ?_
          refine rr_istore_n (i := 3) C dX7_numberAt_26 rfl (by decide) ?_
          show WW W0 G 4 _ _ _ 27 [some (.ref l0), some (.int l1), some (.int l2), some (.int 1)] [] h n _ _
          refine rr_iload_n (i := 3) C dX7_numberAt_27 rfl rfl ?_
          refine rr_if_eq (tgt := 42) C dX7_numberAt_28 (by decide) (fun q_ => absurd q_ (by decide)) (fun _ => ?_)
          refine rr_aload_n (i := 0) C dX7_numberAt_31 rfl rfl ?_
          replace hr := Option.bind_eq_some_iff.mp hr
          obtain ⟨v1, e2, hr⟩ := hr
          refine rr_rdR C dX7_numberAt_32 fl_X7_22 e2 ?_
          refine rr_iload_n (i := 1) C dX7_numberAt_35 rfl rfl ?_
          replace hr := Option.bind_eq_some_iff.mp hr
          obtain ⟨a3, e4, hr⟩ := hr
          subst e4
          replace hr := Option.bind_eq_some_iff.mp hr
          obtain ⟨v5, e6, hr⟩ := hr
          refine rr_ldR C dX7_numberAt_36 e6 ?_
          refine rr_iload_n (i := 2) C dX7_numberAt_37 rfl rfl ?_
          replace hr := Option.bind_eq_some_iff.mp hr
          obtain ⟨a7, e8, hr⟩ := hr
          subst e8
          replace hr := Option.bind_eq_some_iff.mp hr
          obtain ⟨v9, e10, hr⟩ := hr
          refine rr_ldI C dX7_numberAt_38 e10 ?_
          refine rr_goto (tgt := 43) C dX7_numberAt_39 (by decide) ?_
          obtain rfl := Option.some.inj hr
          exact rr_iret (ty := .int) C dX7_numberAt_43 rfl rfl ⟨rfl, rfl, rfl⟩
def q_X8_hundredths (K : Nat) (h : mm_H) (n : Nat) (l0 : Int64) (l2 : Int64) : Option (Int64) :=
  some ((l0 * l2) / 100)
set_option maxRecDepth 100000 in
set_option maxHeartbeats 4000000 in
theorem c_X8_hundredths {K : Nat} {G : mm_G} {l : Launch} {h : mm_H} {n : Nat} (l0 : Int64) (l2 : Int64) {r_ : Int64} (hn : 48 ≤ n) (hr : q_X8_hundredths K h n l0 l2 = some r_) : Sp G l yX8_hundredths cX8_hundredths 4 (some .long) 0 0 0 [.long l0, .long l2] h n (fun v h' n' => v = some (.long r_) ∧ h' = h ∧ n' = n) := by
  refine Sp_of (by decide +kernel) (Nat.le_of_ble_eq_true rfl) hn ?_
  intro W0 hwl C
  subst hwl
  unfold q_X8_hundredths at hr
  show WW W0 G 4 0 0 _ 0 [some (.long l0), none, some (.long l2), none] [] h n 0 0
  refine rr_lload_n (i := 0) C dX8_hundredths_0 rfl rfl ?_
  refine rr_lload_n (i := 2) C dX8_hundredths_1 rfl rfl ?_
  refine rr_lmul C dX8_hundredths_2 ?_
  refine rr_ldc2 C dX8_hundredths_3 ct_X8_9 ?_
  refine rr_ldiv C dX8_hundredths_6 (by decide) ?_
  obtain rfl := Option.some.inj hr
  exact rr_lret C dX8_hundredths_7 rfl ⟨rfl, rfl, rfl⟩
def lp_X9_coinsDone_5 (K : Nat) (h : mm_H) (n : Nat) (l0 : Nat) (l1 : Int32) (l2 : Int32) : Nat → Int64 → Int32 → Option (Int64)
  | 0, _, _ => none
  | k_ + 1, l3, l5 =>
    (rdI h n l0 8 4).bind fun v1 =>
    if v1 ≤ l5 then
      some (l3)
    else
    if 40 ≤ l5 then
      some (l3)
    else
    (rdR h n l0 8 0).bind fun v3 =>
    v3.bind fun a5 =>
    (ldI h n a5 l5).bind fun v7 =>
    if v7 = l1 then
      (rdR h n l0 8 3).bind fun v9 =>
      v9.bind fun a11 =>
      (ldI h n a11 l5).bind fun v13 =>
      if v13 = (-1) then
        lp_X9_coinsDone_5 K h n l0 l1 l2 k_ l3 (l5 + 1)
      else
      (rdR h n l0 8 3).bind fun v15 =>
      v15.bind fun a17 =>
      (ldI h n a17 l5).bind fun v19 =>
      if (v19 / 100) = l2 then
        (rdR h n l0 8 1).bind fun v21 =>
        v21.bind fun a23 =>
        (ldI h n a23 l5).bind fun v25 =>
        lp_X9_coinsDone_5 K h n l0 l1 l2 k_ (l3 + (Int32.toInt64 v25)) (l5 + 1)
      else
      lp_X9_coinsDone_5 K h n l0 l1 l2 k_ l3 (l5 + 1)
    else
    lp_X9_coinsDone_5 K h n l0 l1 l2 k_ l3 (l5 + 1)
def q_X9_coinsDone (K : Nat) (h : mm_H) (n : Nat) (l0 : Nat) (l1 : Int32) (l2 : Int32) : Option (Int64) :=
  (lp_X9_coinsDone_5 K h n l0 l1 l2 K 0 0).bind fun v28 =>
  some v28
set_option maxRecDepth 100000 in
set_option maxHeartbeats 4000000 in
theorem w_X9_coinsDone_5 {K : Nat} {W0 : mm_X} {G : mm_G} {mc ms kc ks : Nat} {Q_ : State → Prop} {h : mm_H} {n : Nat} (C : mm_C W0 G cX9_coinsDone yX9_coinsDone.cls 6 mc ms (some .long) 0 yX9_coinsDone.name) (hn : 48 ≤ n) (l0 : Nat) (l1 : Int32) (l2 : Int32) : ∀ (k_ : Nat) (l3 : Int64) (l5 : Int32) {r_ : Int64} (hr : lp_X9_coinsDone_5 K h n l0 l1 l2 k_ l3 l5 = some r_) (hx0 : WW W0 G 6 mc ms Q_ 74 [none, none, none, some (.long r_), none, none] [] h n kc ks), WW W0 G 6 mc ms Q_ 5 [some (.ref l0), some (.int l1), some (.int l2), some (.long l3), none, some (.int l5)] [] h n kc ks := by
  intro k_
  induction k_ with
  | zero =>
    intro l3 l5 r_ hr
    cases hr
  | succ k_ ih_ =>
    intro l3 l5 r_ hr hx0
    unfold lp_X9_coinsDone_5 at hr
    refine rr_iload C dX9_coinsDone_5 rfl ?_
    refine rr_aload_n (i := 0) C dX9_coinsDone_7 rfl rfl ?_
    replace hr := Option.bind_eq_some_iff.mp hr
    obtain ⟨v1, e2, hr⟩ := hr
    refine rr_rdI C dX9_coinsDone_8 fl_X9_24 e2 ?_
    refine rr_icmp_ge (tgt := 74) C dX9_coinsDone_11 (by decide) (fun c11_ => ?_) (fun c11_ => ?_)
    · replace hr := (if_pos c11_).symm.trans hr
      obtain rfl := Option.some.inj hr
      exact rr_keep [false, false, false, true, false, false] (hx0)
    · replace hr := (if_neg c11_).symm.trans hr
      refine rr_iload C dX9_coinsDone_14 rfl ?_
      refine rr_bipush (v := 40) C dX9_coinsDone_16 (by decide) ?_
      refine rr_icmp_ge (tgt := 74) C dX9_coinsDone_18 (by decide) (fun c18_ => ?_) (fun c18_ => ?_)
      · replace hr := (if_pos c18_).symm.trans hr
        obtain rfl := Option.some.inj hr
        exact rr_keep [false, false, false, true, false, false] (hx0)
      · replace hr := (if_neg c18_).symm.trans hr
        refine rr_aload_n (i := 0) C dX9_coinsDone_21 rfl rfl ?_
        replace hr := Option.bind_eq_some_iff.mp hr
        obtain ⟨v3, e4, hr⟩ := hr
        refine rr_rdR C dX9_coinsDone_22 fl_X9_9 e4 ?_
        refine rr_iload C dX9_coinsDone_25 rfl ?_
        replace hr := Option.bind_eq_some_iff.mp hr
        obtain ⟨a5, e6, hr⟩ := hr
        subst e6
        replace hr := Option.bind_eq_some_iff.mp hr
        obtain ⟨v7, e8, hr⟩ := hr
        refine rr_ldI C dX9_coinsDone_27 e8 ?_
        refine rr_iload_n (i := 1) C dX9_coinsDone_28 rfl rfl ?_
        refine rr_icmp_ne (tgt := 68) C dX9_coinsDone_29 (by decide) (fun c29_ => ?_) (fun c29_ => ?_)
        · replace hr := (if_neg c29_).symm.trans hr
          refine rr_iinc (v := l5 + 1) C dX9_coinsDone_68 rfl rfl ?_
          show WW W0 G 6 _ _ _ 71 [some (.ref l0), some (.int l1), some (.int l2), some (.long l3), none, some (.int (l5 + 1))] [] h n _ _
          refine rr_goto (tgt := 5) C dX9_coinsDone_71 (by decide) ?_
          exact rr_keep [true, true, true, true, false, true] (ih_ _ _ hr hx0)
        · replace hr := (if_pos c29_).symm.trans hr
          refine rr_aload_n (i := 0) C dX9_coinsDone_32 rfl rfl ?_
          replace hr := Option.bind_eq_some_iff.mp hr
          obtain ⟨v9, e10, hr⟩ := hr
          refine rr_rdR C dX9_coinsDone_33 fl_X9_21 e10 ?_
          refine rr_iload C dX9_coinsDone_36 rfl ?_
          replace hr := Option.bind_eq_some_iff.mp hr
          obtain ⟨a11, e12, hr⟩ := hr
          subst e12
          replace hr := Option.bind_eq_some_iff.mp hr
          obtain ⟨v13, e14, hr⟩ := hr
          refine rr_ldI C dX9_coinsDone_38 e14 ?_
          refine rr_iconst (v := (-1)) C dX9_coinsDone_39 (by decide) ?_
          refine rr_icmp_eq (tgt := 68) C dX9_coinsDone_40 (by decide) (fun c40_ => ?_) (fun c40_ => ?_)
          · replace hr := (if_pos c40_).symm.trans hr
            refine rr_iinc (v := l5 + 1) C dX9_coinsDone_68 rfl rfl ?_
            show WW W0 G 6 _ _ _ 71 [some (.ref l0), some (.int l1), some (.int l2), some (.long l3), none, some (.int (l5 + 1))] [] h n _ _
            refine rr_goto (tgt := 5) C dX9_coinsDone_71 (by decide) ?_
            exact rr_keep [true, true, true, true, false, true] (ih_ _ _ hr hx0)
          · replace hr := (if_neg c40_).symm.trans hr
            refine rr_aload_n (i := 0) C dX9_coinsDone_43 rfl rfl ?_
            replace hr := Option.bind_eq_some_iff.mp hr
            obtain ⟨v15, e16, hr⟩ := hr
            refine rr_rdR C dX9_coinsDone_44 fl_X9_21 e16 ?_
            refine rr_iload C dX9_coinsDone_47 rfl ?_
            replace hr := Option.bind_eq_some_iff.mp hr
            obtain ⟨a17, e18, hr⟩ := hr
            subst e18
            replace hr := Option.bind_eq_some_iff.mp hr
            obtain ⟨v19, e20, hr⟩ := hr
            refine rr_ldI C dX9_coinsDone_49 e20 ?_
            refine rr_bipush (v := 100) C dX9_coinsDone_50 (by decide) ?_
            refine rr_idiv C dX9_coinsDone_52 (by decide) ?_
            refine rr_iload_n (i := 2) C dX9_coinsDone_53 rfl rfl ?_
            refine rr_icmp_ne (tgt := 68) C dX9_coinsDone_54 (by decide) (fun c54_ => ?_) (fun c54_ => ?_)
            · replace hr := (if_neg c54_).symm.trans hr
              refine rr_iinc (v := l5 + 1) C dX9_coinsDone_68 rfl rfl ?_
              show WW W0 G 6 _ _ _ 71 [some (.ref l0), some (.int l1), some (.int l2), some (.long l3), none, some (.int (l5 + 1))] [] h n _ _
              refine rr_goto (tgt := 5) C dX9_coinsDone_71 (by decide) ?_
              exact rr_keep [true, true, true, true, false, true] (ih_ _ _ hr hx0)
            · replace hr := (if_pos c54_).symm.trans hr
              refine rr_lload_n (i := 3) C dX9_coinsDone_57 rfl rfl ?_
              refine rr_aload_n (i := 0) C dX9_coinsDone_58 rfl rfl ?_
              replace hr := Option.bind_eq_some_iff.mp hr
              obtain ⟨v21, e22, hr⟩ := hr
              refine rr_rdR C dX9_coinsDone_59 fl_X9_15 e22 ?_
              refine rr_iload C dX9_coinsDone_62 rfl ?_
              replace hr := Option.bind_eq_some_iff.mp hr
              obtain ⟨a23, e24, hr⟩ := hr
              subst e24
              replace hr := Option.bind_eq_some_iff.mp hr
              obtain ⟨v25, e26, hr⟩ := hr
              refine rr_ldI C dX9_coinsDone_64 e26 ?_
              refine rr_i2l C dX9_coinsDone_65 ?_
              refine rr_ladd C dX9_coinsDone_66 ?_
              refine rr_lstore_n (i := 3) C dX9_coinsDone_67 rfl (by decide) ?_
              show WW W0 G 6 _ _ _ 68 [some (.ref l0), some (.int l1), some (.int l2), some (.long (l3 + (Int32.toInt64 v25))), none, some (.int l5)] [] h n _ _
              refine rr_iinc (v := l5 + 1) C dX9_coinsDone_68 rfl rfl ?_
              show WW W0 G 6 _ _ _ 71 [some (.ref l0), some (.int l1), some (.int l2), some (.long (l3 + (Int32.toInt64 v25))), none, some (.int (l5 + 1))] [] h n _ _
              refine rr_goto (tgt := 5) C dX9_coinsDone_71 (by decide) ?_
              exact rr_keep [true, true, true, true, false, true] (ih_ _ _ hr hx0)
set_option maxRecDepth 100000 in
set_option maxHeartbeats 4000000 in
theorem c_X9_coinsDone {K : Nat} {G : mm_G} {l : Launch} {h : mm_H} {n : Nat} (l0 : Nat) (l1 : Int32) (l2 : Int32) {r_ : Int64} (hn : 48 ≤ n) (hr : q_X9_coinsDone K h n l0 l1 l2 = some r_) : Sp G l yX9_coinsDone cX9_coinsDone 6 (some .long) 0 0 0 [.ref l0, .int l1, .int l2] h n (fun v h' n' => v = some (.long r_) ∧ h' = h ∧ n' = n) := by
  refine Sp_of (by decide +kernel) (Nat.le_of_ble_eq_true rfl) hn ?_
  intro W0 hwl C
  subst hwl
  unfold q_X9_coinsDone at hr
  show WW W0 G 6 0 0 _ 0 [some (.ref l0), some (.int l1), some (.int l2), none, none, none] [] h n 0 0
  refine rr_lconst (v := 0) C dX9_coinsDone_0 (by decide) ?_
  refine rr_lstore_n (i := 3) C dX9_coinsDone_1 rfl (by decide) ?_
  show WW W0 G 6 _ _ _ 2 [some (.ref l0), some (.int l1), some (.int l2), some (.long 0), none, none] [] h n _ _
  refine rr_iconst (v := 0) C dX9_coinsDone_2 (by decide) ?_
  refine rr_istore C dX9_coinsDone_3 (by decide) ?_
  show WW W0 G 6 _ _ _ 5 [some (.ref l0), some (.int l1), some (.int l2), some (.long 0), none, some (.int 0)] [] h n _ _
  replace hr := Option.bind_eq_some_iff.mp hr
  obtain ⟨v28, e29, hr⟩ := hr
  refine rr_keep [true, true, true, true, false, true] (w_X9_coinsDone_5 C (by omega) l0 l1 l2 K 0 0 e29 ?_)
  show WW W0 G 6 _ _ _ 74 [none, none, none, some (.long v28), none, none] [] h n _ _
  refine rr_lload_n (i := 3) C dX9_coinsDone_74 rfl rfl ?_
  obtain rfl := Option.some.inj hr
  exact rr_lret C dX9_coinsDone_75 rfl ⟨rfl, rfl, rfl⟩
def lp_X7_open_31 (K : Nat) (n : Nat) (l0 : Nat) (l2 : Int32) : Nat → Int32 → mm_H → Option (mm_H)
  | 0, _, _ => none
  | k_ + 1, l4, h =>
    if l2 < l4 then
      some (h)
    else
    if 15 ≤ l4 then
      some (h)
    else
    (ckq h n l0 7).bind fun u21 =>
    (q_X7_settle K h n l0 l4).bind fun v23 =>
    (rdR v23 n l0 7 5).bind fun v25 =>
    v25.bind fun a27 =>
    (ldJ v23 n a27 l4).bind fun v29 =>
    (ckq v23 n l0 7).bind fun u31 =>
    (q_X7_numberAt K v23 n l0 l4 4).bind fun v33 =>
    (q_X8_hundredths K v23 n v29 (Int32.toInt64 v33)).bind fun v35 =>
    (rdR v23 n l0 7 5).bind fun v37 =>
    v37.bind fun a39 =>
    (ldJ v23 n a39 l4).bind fun v41 =>
    (ckq v23 n l0 7).bind fun u43 =>
    (q_X7_numberAt K v23 n l0 l4 5).bind fun v45 =>
    (q_X8_hundredths K v23 n v41 (Int32.toInt64 v45)).bind fun v47 =>
    (rdR v23 n l0 7 5).bind fun v49 =>
    (rdR v23 n l0 7 0).bind fun v51 =>
    v51.bind fun a53 =>
    (rdR v23 n a53 4 2).bind fun v55 =>
    (rdI v23 n l0 7 11).bind fun v57 =>
    v55.bind fun a59 =>
    (ckq v23 n a59 8).bind fun u61 =>
    (q_X9_coinsDone K v23 n a59 v57 l4).bind fun v63 =>
    v49.bind fun a65 =>
    (stJ v23 n a65 (l4 + 1) ((v35 + v63) - v47)).bind fun h67 =>
    lp_X7_open_31 K n l0 l2 k_ (l4 + 1) h67
def q_X7_open (K : Nat) (h : mm_H) (n : Nat) (l0 : Nat) (l1 : Int32) (l2 : Int32) (l3 : Int32) : Option (mm_H) :=
  (wrF h n l0 7 11 (.int l1)).bind fun h1 =>
  (wrF h1 n l0 7 12 (.int l3)).bind fun h3 =>
  (rdR h3 n l0 7 5).bind fun v5 =>
  (rdR h3 n l0 7 0).bind fun v7 =>
  (rdI h3 n l0 7 11).bind fun v9 =>
  v7.bind fun a11 =>
  (ckq h3 n a11 4).bind fun u13 =>
  (q_X4_firstWorthOf K h3 n a11 v9).bind fun v15 =>
  v5.bind fun a17 =>
  (stJ h3 n a17 0 (Int32.toInt64 v15)).bind fun h19 =>
  (lp_X7_open_31 K n l0 l2 K 0 h19).bind fun v69 =>
  some v69
set_option maxRecDepth 100000 in
set_option maxHeartbeats 4000000 in
theorem w_X7_open_31 {K : Nat} {W0 : mm_X} {G : mm_G} {mc ms kc ks : Nat} {Q_ : State → Prop} {n : Nat} (C : mm_C W0 G cX7_open yX7_open.cls 9 mc ms none 5 yX7_open.name) (hn : 48 ≤ n) (l0 : Nat) (l2 : Int32) : ∀ (k_ : Nat) (l4 : Int32) (h : mm_H) {r_ : mm_H} (hr : lp_X7_open_31 K n l0 l2 k_ l4 h = some r_) (hx0 : WW W0 G 9 mc ms Q_ 127 [none, none, none, none, none, none, none, none, none] [] r_ n kc ks), WW W0 G 9 mc ms Q_ 31 [some (.ref l0), none, some (.int l2), none, some (.int l4), none, none, none, none] [] h n kc ks := by
  intro k_
  induction k_ with
  | zero =>
    intro l4 h r_ hr
    cases hr
  | succ k_ ih_ =>
    intro l4 h r_ hr hx0
    unfold lp_X7_open_31 at hr
    refine rr_iload C dX7_open_31 rfl ?_
    refine rr_iload_n (i := 2) C dX7_open_33 rfl rfl ?_
    refine rr_icmp_gt (tgt := 127) C dX7_open_34 (by decide) (fun c34_ => ?_) (fun c34_ => ?_)
    · replace hr := (if_pos c34_).symm.trans hr
      obtain rfl := Option.some.inj hr
      exact rr_keep [false, false, false, false, false, false, false, false, false] (hx0)
    · replace hr := (if_neg c34_).symm.trans hr
      refine rr_iload C dX7_open_37 rfl ?_
      refine rr_bipush (v := 15) C dX7_open_39 (by decide) ?_
      refine rr_icmp_ge (tgt := 127) C dX7_open_41 (by decide) (fun c41_ => ?_) (fun c41_ => ?_)
      · replace hr := (if_pos c41_).symm.trans hr
        obtain rfl := Option.some.inj hr
        exact rr_keep [false, false, false, false, false, false, false, false, false] (hx0)
      · replace hr := (if_neg c41_).symm.trans hr
        refine rr_aload_n (i := 0) C dX7_open_44 rfl rfl ?_
        refine rr_iload C dX7_open_45 rfl ?_
        replace hr := Option.bind_eq_some_iff.mp hr
        obtain ⟨u21, e22, hr⟩ := hr
        replace hr := Option.bind_eq_some_iff.mp hr
        obtain ⟨v23, e24, hr⟩ := hr
        refine rr_callVq (as := [.int l4]) (st := []) (mc' := 0) (ms' := 0) C dX7_open_47 iv_X7_72 (by decide) e22 rfl (Nat.le_of_ble_eq_true rfl) (c_X7_settle l0 l4 (by omega) e24) (fun v_ h_ n_ q_ => ?_)
        obtain ⟨q1_, q2_, q3_⟩ := q_
        subst v_; subst h_; subst n_
        show WW W0 G 9 _ _ _ 50 [some (.ref l0), none, some (.int l2), none, some (.int l4), none, none, none, none] [] v23 n _ _
        refine rr_aload_n (i := 0) C dX7_open_50 rfl rfl ?_
        replace hr := Option.bind_eq_some_iff.mp hr
        obtain ⟨v25, e26, hr⟩ := hr
        refine rr_rdR C dX7_open_51 fl_X7_25 e26 ?_
        refine rr_iload C dX7_open_54 rfl ?_
        replace hr := Option.bind_eq_some_iff.mp hr
        obtain ⟨a27, e28, hr⟩ := hr
        subst e28
        replace hr := Option.bind_eq_some_iff.mp hr
        obtain ⟨v29, e30, hr⟩ := hr
        refine rr_ldJ C dX7_open_56 e30 ?_
        refine rr_aload_n (i := 0) C dX7_open_57 rfl rfl ?_
        refine rr_iload C dX7_open_58 rfl ?_
        refine rr_iconst (v := 4) C dX7_open_60 (by decide) ?_
        replace hr := Option.bind_eq_some_iff.mp hr
        obtain ⟨u31, e32, hr⟩ := hr
        replace hr := Option.bind_eq_some_iff.mp hr
        obtain ⟨v33, e34, hr⟩ := hr
        refine rr_callVq (as := [.int l4, .int 4]) (st := [.long v29]) (mc' := 0) (ms' := 0) C dX7_open_61 iv_X7_76 (by decide) e32 rfl (Nat.le_of_ble_eq_true rfl) (c_X7_numberAt l0 l4 4 (by omega) e34) (fun v_ h_ n_ q_ => ?_)
        obtain ⟨q1_, q2_, q3_⟩ := q_
        subst v_; subst h_; subst n_
        show WW W0 G 9 _ _ _ 64 [some (.ref l0), none, some (.int l2), none, some (.int l4), none, none, none, none] [.int v33, .long v29] v23 n _ _
        refine rr_i2l C dX7_open_64 ?_
        replace hr := Option.bind_eq_some_iff.mp hr
        obtain ⟨v35, e36, hr⟩ := hr
        refine rr_callS (as := [.long v29, .long (Int32.toInt64 v33)]) (st := []) (mc' := 0) (ms' := 0) C dX7_open_65 it_X7_80 (by decide) (Nat.le_of_ble_eq_true rfl) (c_X8_hundredths v29 (Int32.toInt64 v33) (by omega) e36) (fun v_ h_ n_ q_ => ?_)
        obtain ⟨q1_, q2_, q3_⟩ := q_
        subst v_; subst h_; subst n_
        show WW W0 G 9 _ _ _ 68 [some (.ref l0), none, some (.int l2), none, some (.int l4), none, none, none, none] [.long v35] v23 n _ _
        refine rr_lstore C dX7_open_68 (by decide) ?_
        show WW W0 G 9 _ _ _ 70 [some (.ref l0), none, some (.int l2), none, some (.int l4), some (.long v35), none, none, none] [] v23 n _ _
        refine rr_aload_n (i := 0) C dX7_open_70 rfl rfl ?_
        replace hr := Option.bind_eq_some_iff.mp hr
        obtain ⟨v37, e38, hr⟩ := hr
        refine rr_rdR C dX7_open_71 fl_X7_25 e38 ?_
        refine rr_iload C dX7_open_74 rfl ?_
        replace hr := Option.bind_eq_some_iff.mp hr
        obtain ⟨a39, e40, hr⟩ := hr
        subst e40
        replace hr := Option.bind_eq_some_iff.mp hr
        obtain ⟨v41, e42, hr⟩ := hr
        refine rr_ldJ C dX7_open_76 e42 ?_
        refine rr_aload_n (i := 0) C dX7_open_77 rfl rfl ?_
        refine rr_iload C dX7_open_78 rfl ?_
        refine rr_iconst (v := 5) C dX7_open_80 (by decide) ?_
        replace hr := Option.bind_eq_some_iff.mp hr
        obtain ⟨u43, e44, hr⟩ := hr
        replace hr := Option.bind_eq_some_iff.mp hr
        obtain ⟨v45, e46, hr⟩ := hr
        refine rr_callVq (as := [.int l4, .int 5]) (st := [.long v41]) (mc' := 0) (ms' := 0) C dX7_open_81 iv_X7_76 (by decide) e44 rfl (Nat.le_of_ble_eq_true rfl) (c_X7_numberAt l0 l4 5 (by omega) e46) (fun v_ h_ n_ q_ => ?_)
        obtain ⟨q1_, q2_, q3_⟩ := q_
        subst v_; subst h_; subst n_
        show WW W0 G 9 _ _ _ 84 [some (.ref l0), none, some (.int l2), none, some (.int l4), some (.long v35), none, none, none] [.int v45, .long v41] v23 n _ _
        refine rr_i2l C dX7_open_84 ?_
        replace hr := Option.bind_eq_some_iff.mp hr
        obtain ⟨v47, e48, hr⟩ := hr
        refine rr_callS (as := [.long v41, .long (Int32.toInt64 v45)]) (st := []) (mc' := 0) (ms' := 0) C dX7_open_85 it_X7_80 (by decide) (Nat.le_of_ble_eq_true rfl) (c_X8_hundredths v41 (Int32.toInt64 v45) (by omega) e48) (fun v_ h_ n_ q_ => ?_)
        obtain ⟨q1_, q2_, q3_⟩ := q_
        subst v_; subst h_; subst n_
        show WW W0 G 9 _ _ _ 88 [some (.ref l0), none, some (.int l2), none, some (.int l4), some (.long v35), none, none, none] [.long v47] v23 n _ _
        refine rr_lstore C dX7_open_88 (by decide) ?_
        show WW W0 G 9 _ _ _ 90 [some (.ref l0), none, some (.int l2), none, some (.int l4), some (.long v35), none, some (.long v47), none] [] v23 n _ _
        refine rr_aload_n (i := 0) C dX7_open_90 rfl rfl ?_
        replace hr := Option.bind_eq_some_iff.mp hr
        obtain ⟨v49, e50, hr⟩ := hr
        refine rr_rdR C dX7_open_91 fl_X7_25 e50 ?_
        refine rr_iload C dX7_open_94 rfl ?_
        refine rr_iconst (v := 1) C dX7_open_96 (by decide) ?_
        refine rr_iadd C dX7_open_97 ?_
        refine rr_lload C dX7_open_98 rfl ?_
        refine rr_aload_n (i := 0) C dX7_open_100 rfl rfl ?_
        replace hr := Option.bind_eq_some_iff.mp hr
        obtain ⟨v51, e52, hr⟩ := hr
        refine rr_rdR C dX7_open_101 fl_X7_46 e52 ?_
        replace hr := Option.bind_eq_some_iff.mp hr
        obtain ⟨a53, e54, hr⟩ := hr
        subst e54
        replace hr := Option.bind_eq_some_iff.mp hr
        obtain ⟨v55, e56, hr⟩ := hr
        refine rr_rdR C dX7_open_104 fl_X7_86 e56 ?_
        refine rr_aload_n (i := 0) C dX7_open_107 rfl rfl ?_
        replace hr := Option.bind_eq_some_iff.mp hr
        obtain ⟨v57, e58, hr⟩ := hr
        refine rr_rdI C dX7_open_108 fl_X7_59 e58 ?_
        refine rr_iload C dX7_open_111 rfl ?_
        replace hr := Option.bind_eq_some_iff.mp hr
        obtain ⟨a59, e60, hr⟩ := hr
        subst e60
        replace hr := Option.bind_eq_some_iff.mp hr
        obtain ⟨u61, e62, hr⟩ := hr
        replace hr := Option.bind_eq_some_iff.mp hr
        obtain ⟨v63, e64, hr⟩ := hr
        refine rr_callVq (as := [.int v57, .int l4]) (st := [.long v35, .int (l4 + 1), va_rf v49]) (mc' := 0) (ms' := 0) C dX7_open_113 iv_X7_90 (by decide) e62 rfl (by rcases v49 with _ | _ <;> exact Nat.le_of_ble_eq_true rfl) (c_X9_coinsDone a59 v57 l4 (by omega) e64) (fun v_ h_ n_ q_ => ?_)
        obtain ⟨q1_, q2_, q3_⟩ := q_
        subst v_; subst h_; subst n_
        show WW W0 G 9 _ _ _ 116 [some (.ref l0), none, some (.int l2), none, some (.int l4), some (.long v35), none, some (.long v47), none] [.long v63, .long v35, .int (l4 + 1), va_rf v49] v23 n _ _
        refine rr_ladd C dX7_open_116 ?_
        refine rr_lload C dX7_open_117 rfl ?_
        refine rr_lsub C dX7_open_119 ?_
        replace hr := Option.bind_eq_some_iff.mp hr
        obtain ⟨a65, e66, hr⟩ := hr
        subst e66
        replace hr := Option.bind_eq_some_iff.mp hr
        obtain ⟨h67, e68, hr⟩ := hr
        refine rr_stJ C dX7_open_120 e68 ?_
        refine rr_iinc (v := l4 + 1) C dX7_open_121 rfl rfl ?_
        show WW W0 G 9 _ _ _ 124 [some (.ref l0), none, some (.int l2), none, some (.int (l4 + 1)), some (.long v35), none, some (.long v47), none] [] h67 n _ _
        refine rr_goto (tgt := 31) C dX7_open_124 (by decide) ?_
        exact rr_keep [true, false, true, false, true, false, false, false, false] (ih_ _ _ hr hx0)
set_option maxRecDepth 100000 in
set_option maxHeartbeats 4000000 in
theorem c_X7_open {K : Nat} {G : mm_G} {l : Launch} {h : mm_H} {n : Nat} (l0 : Nat) (l1 : Int32) (l2 : Int32) (l3 : Int32) {r_ : mm_H} (hn : 48 ≤ n) (hr : q_X7_open K h n l0 l1 l2 l3 = some r_) : Sp G l yX7_open cX7_open 9 none 5 0 0 [.ref l0, .int l1, .int l2, .int l3] h n (fun v h' n' => v = none ∧ h' = r_ ∧ n' = n) := by
  refine Sp_of (by decide +kernel) (Nat.le_of_ble_eq_true rfl) hn ?_
  intro W0 hwl C
  subst hwl
  unfold q_X7_open at hr
  show WW W0 G 9 0 0 _ 0 [some (.ref l0), some (.int l1), some (.int l2), some (.int l3), none, none, none, none, none] [] h n 0 0
  refine rr_aload_n (i := 0) C dX7_open_0 rfl rfl ?_
  refine rr_iload_n (i := 1) C dX7_open_1 rfl rfl ?_
  replace hr := Option.bind_eq_some_iff.mp hr
  obtain ⟨h1, e2, hr⟩ := hr
  refine rr_wrF C dX7_open_2 fp_X7_59 rfl rfl e2 ?_
  refine rr_aload_n (i := 0) C dX7_open_5 rfl rfl ?_
  refine rr_iload_n (i := 3) C dX7_open_6 rfl rfl ?_
  replace hr := Option.bind_eq_some_iff.mp hr
  obtain ⟨h3, e4, hr⟩ := hr
  refine rr_wrF C dX7_open_7 fp_X7_63 rfl rfl e4 ?_
  refine rr_aload_n (i := 0) C dX7_open_10 rfl rfl ?_
  replace hr := Option.bind_eq_some_iff.mp hr
  obtain ⟨v5, e6, hr⟩ := hr
  refine rr_rdR C dX7_open_11 fl_X7_25 e6 ?_
  refine rr_iconst (v := 0) C dX7_open_14 (by decide) ?_
  refine rr_aload_n (i := 0) C dX7_open_15 rfl rfl ?_
  replace hr := Option.bind_eq_some_iff.mp hr
  obtain ⟨v7, e8, hr⟩ := hr
  refine rr_rdR C dX7_open_16 fl_X7_46 e8 ?_
  refine rr_aload_n (i := 0) C dX7_open_19 rfl rfl ?_
  replace hr := Option.bind_eq_some_iff.mp hr
  obtain ⟨v9, e10, hr⟩ := hr
  refine rr_rdI C dX7_open_20 fl_X7_59 e10 ?_
  replace hr := Option.bind_eq_some_iff.mp hr
  obtain ⟨a11, e12, hr⟩ := hr
  subst e12
  replace hr := Option.bind_eq_some_iff.mp hr
  obtain ⟨u13, e14, hr⟩ := hr
  replace hr := Option.bind_eq_some_iff.mp hr
  obtain ⟨v15, e16, hr⟩ := hr
  refine rr_callVq (as := [.int v9]) (st := [.int 0, va_rf v5]) (mc' := 0) (ms' := 0) C dX7_open_23 iv_X7_66 (by decide) e14 rfl (by rcases v5 with _ | _ <;> exact Nat.le_of_ble_eq_true rfl) (c_X4_firstWorthOf a11 v9 (by omega) e16) (fun v_ h_ n_ q_ => ?_)
  obtain ⟨q1_, q2_, q3_⟩ := q_
  subst v_; subst h_; subst n_
  show WW W0 G 9 _ _ _ 26 [some (.ref l0), some (.int l1), some (.int l2), some (.int l3), none, none, none, none, none] [.int v15, .int 0, va_rf v5] h3 n _ _
  refine rr_i2l C dX7_open_26 ?_
  replace hr := Option.bind_eq_some_iff.mp hr
  obtain ⟨a17, e18, hr⟩ := hr
  subst e18
  replace hr := Option.bind_eq_some_iff.mp hr
  obtain ⟨h19, e20, hr⟩ := hr
  refine rr_stJ C dX7_open_27 e20 ?_
  refine rr_iconst (v := 0) C dX7_open_28 (by decide) ?_
  refine rr_istore C dX7_open_29 (by decide) ?_
  show WW W0 G 9 _ _ _ 31 [some (.ref l0), some (.int l1), some (.int l2), some (.int l3), some (.int 0), none, none, none, none] [] h19 n _ _
  replace hr := Option.bind_eq_some_iff.mp hr
  obtain ⟨v69, e70, hr⟩ := hr
  refine rr_keep [true, false, true, false, true, false, false, false, false] (w_X7_open_31 C (by omega) l0 l2 K 0 h19 e70 ?_)
  show WW W0 G 9 _ _ _ 127 [none, none, none, none, none, none, none, none, none] [] v69 n _ _
  obtain rfl := Option.some.inj hr
  exact rr_vret C dX7_open_127 rfl ⟨rfl, rfl, rfl⟩
def q_X7_standsAt (K : Nat) (h : mm_H) (n : Nat) (l0 : Nat) (l1 : Int32) (l2 : Int32) : Option (Int32) :=
  if l1 < 0 then
    some (-1)
  else
  if 15 ≤ l1 then
    some (-1)
  else
  if l2 < 0 then
    some (-1)
  else
  if l2 < 17 then
    (rdR h n l0 7 3).bind fun v1 =>
    v1.bind fun a3 =>
    (ldR h n a3 6 l1).bind fun v5 =>
    v5.bind fun a7 =>
    (ldI h n a7 l2).bind fun v9 =>
    some v9
  else
  some (-1)
set_option maxRecDepth 100000 in
set_option maxHeartbeats 4000000 in
theorem c_X7_standsAt {K : Nat} {G : mm_G} {l : Launch} {h : mm_H} {n : Nat} (l0 : Nat) (l1 : Int32) (l2 : Int32) {r_ : Int32} (hn : 48 ≤ n) (hr : q_X7_standsAt K h n l0 l1 l2 = some r_) : Sp G l yX7_standsAt cX7_standsAt 3 (some .int) 0 0 0 [.ref l0, .int l1, .int l2] h n (fun v h' n' => v = some (.int r_) ∧ h' = h ∧ n' = n) := by
  refine Sp_of (by decide +kernel) (Nat.le_of_ble_eq_true rfl) hn ?_
  intro W0 hwl C
  subst hwl
  unfold q_X7_standsAt at hr
  show WW W0 G 3 0 0 _ 0 [some (.ref l0), some (.int l1), some (.int l2)] [] h n 0 0
  refine rr_iload_n (i := 1) C dX7_standsAt_0 rfl rfl ?_
  refine rr_if_lt (tgt := 20) C dX7_standsAt_1 (by decide) (fun c1_ => ?_) (fun c1_ => ?_)
  · replace hr := (if_pos c1_).symm.trans hr
    refine rr_iconst (v := (-1)) C dX7_standsAt_20 (by decide) ?_
    obtain rfl := Option.some.inj hr
    exact rr_iret (ty := .int) C dX7_standsAt_21 rfl rfl ⟨rfl, rfl, rfl⟩
  · replace hr := (if_neg c1_).symm.trans hr
    refine rr_iload_n (i := 1) C dX7_standsAt_4 rfl rfl ?_
    refine rr_bipush (v := 15) C dX7_standsAt_5 (by decide) ?_
    refine rr_icmp_ge (tgt := 20) C dX7_standsAt_7 (by decide) (fun c7_ => ?_) (fun c7_ => ?_)
    · replace hr := (if_pos c7_).symm.trans hr
      refine rr_iconst (v := (-1)) C dX7_standsAt_20 (by decide) ?_
      obtain rfl := Option.some.inj hr
      exact rr_iret (ty := .int) C dX7_standsAt_21 rfl rfl ⟨rfl, rfl, rfl⟩
    · replace hr := (if_neg c7_).symm.trans hr
      refine rr_iload_n (i := 2) C dX7_standsAt_10 rfl rfl ?_
      refine rr_if_lt (tgt := 20) C dX7_standsAt_11 (by decide) (fun c11_ => ?_) (fun c11_ => ?_)
      · replace hr := (if_pos c11_).symm.trans hr
        refine rr_iconst (v := (-1)) C dX7_standsAt_20 (by decide) ?_
        obtain rfl := Option.some.inj hr
        exact rr_iret (ty := .int) C dX7_standsAt_21 rfl rfl ⟨rfl, rfl, rfl⟩
      · replace hr := (if_neg c11_).symm.trans hr
        refine rr_iload_n (i := 2) C dX7_standsAt_14 rfl rfl ?_
        refine rr_bipush (v := 17) C dX7_standsAt_15 (by decide) ?_
        refine rr_icmp_lt (tgt := 22) C dX7_standsAt_17 (by decide) (fun c17_ => ?_) (fun c17_ => ?_)
        · replace hr := (if_pos c17_).symm.trans hr
          refine rr_aload_n (i := 0) C dX7_standsAt_22 rfl rfl ?_
          replace hr := Option.bind_eq_some_iff.mp hr
          obtain ⟨v1, e2, hr⟩ := hr
          refine rr_rdR C dX7_standsAt_23 fl_X7_19 e2 ?_
          refine rr_iload_n (i := 1) C dX7_standsAt_26 rfl rfl ?_
          replace hr := Option.bind_eq_some_iff.mp hr
          obtain ⟨a3, e4, hr⟩ := hr
          subst e4
          replace hr := Option.bind_eq_some_iff.mp hr
          obtain ⟨v5, e6, hr⟩ := hr
          refine rr_ldR C dX7_standsAt_27 e6 ?_
          refine rr_iload_n (i := 2) C dX7_standsAt_28 rfl rfl ?_
          replace hr := Option.bind_eq_some_iff.mp hr
          obtain ⟨a7, e8, hr⟩ := hr
          subst e8
          replace hr := Option.bind_eq_some_iff.mp hr
          obtain ⟨v9, e10, hr⟩ := hr
          refine rr_ldI C dX7_standsAt_29 e10 ?_
          obtain rfl := Option.some.inj hr
          exact rr_iret (ty := .int) C dX7_standsAt_30 rfl rfl ⟨rfl, rfl, rfl⟩
        · replace hr := (if_neg c17_).symm.trans hr
          refine rr_iconst (v := (-1)) C dX7_standsAt_20 (by decide) ?_
          obtain rfl := Option.some.inj hr
          exact rr_iret (ty := .int) C dX7_standsAt_21 rfl rfl ⟨rfl, rfl, rfl⟩
def q_X7_ruleAt (K : Nat) (h : mm_H) (n : Nat) (l0 : Nat) (l1 : Int32) (l2 : Int32) (l3 : Int32) : Option (Option Nat) :=
  (ckq h n l0 7).bind fun u1 =>
  (q_X7_bookOf K h n l0 l1).bind fun v3 =>
  match v3 with
  | none =>
    some none
  | some a5 =>
    (q_X5_slotOf K h n l2 l3).bind fun v6 =>
    (ckq h n l0 7).bind fun u8 =>
    (q_X7_standsAt K h n l0 l1 v6).bind fun v10 =>
    (ckq h n a5 6).bind fun u12 =>
    (q_X6_at K h n a5 v10).bind fun v14 =>
    some v14
set_option maxRecDepth 100000 in
set_option maxHeartbeats 4000000 in
theorem c_X7_ruleAt {K : Nat} {G : mm_G} {l : Launch} {h : mm_H} {n : Nat} (l0 : Nat) (l1 : Int32) (l2 : Int32) (l3 : Int32) {r_ : Option Nat} (hn : 48 ≤ n) (hr : q_X7_ruleAt K h n l0 l1 l2 l3 = some r_) : Sp G l yX7_ruleAt cX7_ruleAt 5 (some (.object "WaterReview$Rule")) 1 0 0 [.ref l0, .int l1, .int l2, .int l3] h n (fun v h' n' => v = some (va_rf r_) ∧ h' = h ∧ n' = n) := by
  refine Sp_of (by decide +kernel) (Nat.le_of_ble_eq_true rfl) hn ?_
  intro W0 hwl C
  subst hwl
  unfold q_X7_ruleAt at hr
  show WW W0 G 5 0 0 _ 0 [some (.ref l0), some (.int l1), some (.int l2), some (.int l3), none] [] h n 0 0
  refine rr_aload_n (i := 0) C dX7_ruleAt_0 rfl rfl ?_
  refine rr_iload_n (i := 1) C dX7_ruleAt_1 rfl rfl ?_
  replace hr := Option.bind_eq_some_iff.mp hr
  obtain ⟨u1, e2, hr⟩ := hr
  replace hr := Option.bind_eq_some_iff.mp hr
  obtain ⟨v3, e4, hr⟩ := hr
  refine rr_callVq (as := [.int l1]) (st := []) (mc' := 0) (ms' := 0) C dX7_ruleAt_2 iv_X7_102 (by decide) e2 rfl (Nat.le_of_ble_eq_true rfl) (c_X7_bookOf l0 l1 (by omega) e4) (fun v_ h_ n_ q_ => ?_)
  obtain ⟨q1_, q2_, q3_⟩ := q_
  subst v_; subst h_; subst n_
  show WW W0 G 5 _ _ _ 5 [some (.ref l0), some (.int l1), some (.int l2), some (.int l3), none] [va_rf v3] h n _ _
  refine rr_astoreO C dX7_ruleAt_5 (by decide) ?_
  show WW W0 G 5 _ _ _ 7 [some (.ref l0), some (.int l1), some (.int l2), some (.int l3), some (va_rf v3)] [] h n _ _
  refine rr_aloadO C dX7_ruleAt_7 rfl ?_
  rcases v3 with _ | a5
  · dsimp only at hr
    refine rr_ifnonnullN C dX7_ruleAt_9 ?_
    refine rr_null C dX7_ruleAt_12 ?_
    refine rr_goto (tgt := 31) C dX7_ruleAt_13 (by decide) ?_
    obtain rfl := Option.some.inj hr
    exact rr_aret (r := none) C dX7_ruleAt_31 rfl (Or.inl ⟨_, rfl⟩) ⟨rfl, rfl, rfl⟩
  · dsimp only at hr
    refine rr_ifnonnull (tgt := 16) C dX7_ruleAt_9 (by decide) ?_
    refine rr_aload C dX7_ruleAt_16 rfl ?_
    refine rr_aload_n (i := 0) C dX7_ruleAt_18 rfl rfl ?_
    refine rr_iload_n (i := 1) C dX7_ruleAt_19 rfl rfl ?_
    refine rr_iload_n (i := 2) C dX7_ruleAt_20 rfl rfl ?_
    refine rr_iload_n (i := 3) C dX7_ruleAt_21 rfl rfl ?_
    replace hr := Option.bind_eq_some_iff.mp hr
    obtain ⟨v6, e7, hr⟩ := hr
    refine rr_callS (as := [.int l2, .int l3]) (st := [.int l1, .ref l0, .ref a5]) (mc' := 0) (ms' := 0) C dX7_ruleAt_22 it_X7_148 (by decide) (Nat.le_of_ble_eq_true rfl) (c_X5_slotOf l2 l3 (by omega) e7) (fun v_ h_ n_ q_ => ?_)
    obtain ⟨q1_, q2_, q3_⟩ := q_
    subst v_; subst h_; subst n_
    show WW W0 G 5 _ _ _ 25 [some (.ref l0), some (.int l1), some (.int l2), some (.int l3), some (.ref a5)] [.int v6, .int l1, .ref l0, .ref a5] h n _ _
    replace hr := Option.bind_eq_some_iff.mp hr
    obtain ⟨u8, e9, hr⟩ := hr
    replace hr := Option.bind_eq_some_iff.mp hr
    obtain ⟨v10, e11, hr⟩ := hr
    refine rr_callVq (as := [.int l1, .int v6]) (st := [.ref a5]) (mc' := 0) (ms' := 0) C dX7_ruleAt_25 iv_X7_151 (by decide) e9 rfl (Nat.le_of_ble_eq_true rfl) (c_X7_standsAt l0 l1 v6 (by omega) e11) (fun v_ h_ n_ q_ => ?_)
    obtain ⟨q1_, q2_, q3_⟩ := q_
    subst v_; subst h_; subst n_
    show WW W0 G 5 _ _ _ 28 [some (.ref l0), some (.int l1), some (.int l2), some (.int l3), some (.ref a5)] [.int v10, .ref a5] h n _ _
    replace hr := Option.bind_eq_some_iff.mp hr
    obtain ⟨u12, e13, hr⟩ := hr
    replace hr := Option.bind_eq_some_iff.mp hr
    obtain ⟨v14, e15, hr⟩ := hr
    refine rr_callVq (as := [.int v10]) (st := []) (mc' := 0) (ms' := 0) C dX7_ruleAt_28 iv_X7_112 (by decide) e13 rfl (Nat.le_of_ble_eq_true rfl) (c_X6_at a5 v10 (by omega) e15) (fun v_ h_ n_ q_ => ?_)
    obtain ⟨q1_, q2_, q3_⟩ := q_
    subst v_; subst h_; subst n_
    show WW W0 G 5 _ _ _ 31 [some (.ref l0), some (.int l1), some (.int l2), some (.int l3), some (.ref a5)] [va_rf v14] h n _ _
    obtain rfl := Option.some.inj hr
    exact rr_aret (r := v14) C dX7_ruleAt_31 rfl (Or.inl ⟨_, rfl⟩) ⟨rfl, rfl, rfl⟩
def q_X7_worthAt (K : Nat) (h : mm_H) (n : Nat) (l0 : Nat) (l1 : Int32) : Option (Int64) :=
  if l1 < 0 then
    some 0
  else
  if 15 ≤ l1 then
    some 0
  else
  (rdR h n l0 7 5).bind fun v1 =>
  v1.bind fun a3 =>
  (ldJ h n a3 l1).bind fun v5 =>
  some v5
set_option maxRecDepth 100000 in
set_option maxHeartbeats 4000000 in
theorem c_X7_worthAt {K : Nat} {G : mm_G} {l : Launch} {h : mm_H} {n : Nat} (l0 : Nat) (l1 : Int32) {r_ : Int64} (hn : 48 ≤ n) (hr : q_X7_worthAt K h n l0 l1 = some r_) : Sp G l yX7_worthAt cX7_worthAt 2 (some .long) 0 0 0 [.ref l0, .int l1] h n (fun v h' n' => v = some (.long r_) ∧ h' = h ∧ n' = n) := by
  refine Sp_of (by decide +kernel) (Nat.le_of_ble_eq_true rfl) hn ?_
  intro W0 hwl C
  subst hwl
  unfold q_X7_worthAt at hr
  show WW W0 G 2 0 0 _ 0 [some (.ref l0), some (.int l1)] [] h n 0 0
  refine rr_iload_n (i := 1) C dX7_worthAt_0 rfl rfl ?_
  refine rr_if_lt (tgt := 19) C dX7_worthAt_1 (by decide) (fun c1_ => ?_) (fun c1_ => ?_)
  · replace hr := (if_pos c1_).symm.trans hr
    refine rr_lconst (v := 0) C dX7_worthAt_19 (by decide) ?_
    obtain rfl := Option.some.inj hr
    exact rr_lret C dX7_worthAt_20 rfl ⟨rfl, rfl, rfl⟩
  · replace hr := (if_neg c1_).symm.trans hr
    refine rr_iload_n (i := 1) C dX7_worthAt_4 rfl rfl ?_
    refine rr_bipush (v := 15) C dX7_worthAt_5 (by decide) ?_
    refine rr_icmp_ge (tgt := 19) C dX7_worthAt_7 (by decide) (fun c7_ => ?_) (fun c7_ => ?_)
    · replace hr := (if_pos c7_).symm.trans hr
      refine rr_lconst (v := 0) C dX7_worthAt_19 (by decide) ?_
      obtain rfl := Option.some.inj hr
      exact rr_lret C dX7_worthAt_20 rfl ⟨rfl, rfl, rfl⟩
    · replace hr := (if_neg c7_).symm.trans hr
      refine rr_aload_n (i := 0) C dX7_worthAt_10 rfl rfl ?_
      replace hr := Option.bind_eq_some_iff.mp hr
      obtain ⟨v1, e2, hr⟩ := hr
      refine rr_rdR C dX7_worthAt_11 fl_X7_25 e2 ?_
      refine rr_iload_n (i := 1) C dX7_worthAt_14 rfl rfl ?_
      replace hr := Option.bind_eq_some_iff.mp hr
      obtain ⟨a3, e4, hr⟩ := hr
      subst e4
      replace hr := Option.bind_eq_some_iff.mp hr
      obtain ⟨v5, e6, hr⟩ := hr
      refine rr_ldJ C dX7_worthAt_15 e6 ?_
      refine rr_goto (tgt := 20) C dX7_worthAt_16 (by decide) ?_
      obtain rfl := Option.some.inj hr
      exact rr_lret C dX7_worthAt_20 rfl ⟨rfl, rfl, rfl⟩
def q_X7_toldBy (K : Nat) (h : mm_H) (n : Nat) (l0 : Nat) (l1 : Option Nat) (l2 : Int32) : Option (Int64 × mm_H) :=
  (q_X7_decidedOn K h n l2).bind fun v1 =>
  l1.bind fun a3 =>
  (rdI h n a3 5 2).bind fun v5 =>
  if v5 = 3 then
    (rdR h n l0 7 0).bind fun v7 =>
    v7.bind fun a9 =>
    (rdR h n a9 4 1).bind fun v11 =>
    (rdI h n l0 7 11).bind fun v13 =>
    (rdI h n a3 5 1).bind fun v15 =>
    v11.bind fun a17 =>
    (ckq h n a17 0).bind fun u19 =>
    (q_X0_knownBy K h n a17 v13 l2 (7 + v15) v1).bind fun v21 =>
    if v21 = (-1) then
      some (0, h)
    else
    some (Int32.toInt64 v21, h)
  else
  (rdR h n l0 7 1).bind fun v23 =>
  (rdI h n l0 7 11).bind fun v25 =>
  (rdI h n a3 5 1).bind fun v27 =>
  (rdI h n a3 5 3).bind fun v29 =>
  v23.bind fun a31 =>
  (ckq h n a31 2).bind fun u33 =>
  (q_X2_gather K h n a31 v25 v27 (l2 / 5) v29).bind fun v35 =>
  (rdR v35 n l0 7 0).bind fun v37 =>
  v37.bind fun a39 =>
  (rdR v35 n a39 4 1).bind fun v41 =>
  (rdI v35 n l0 7 11).bind fun v43 =>
  (rdI v35 n a3 5 3).bind fun v45 =>
  v41.bind fun a47 =>
  (ckq v35 n a47 0).bind fun u49 =>
  (q_X0_latestUpTo K v35 n a47 v43 l2 v45 v1).bind fun v51 =>
  (rdI v35 n a3 5 2).bind fun v53 =>
  if v53 = 0 then
    (rdR v35 n l0 7 1).bind fun v55 =>
    v55.bind fun a57 =>
    (ckq v35 n a57 2).bind fun u59 =>
    (q_X2_lineTells K v35 n a57 (Int32.toInt64 v51)).bind fun v61 =>
    some (v61, v35)
  else
  if v53 = 1 then
    (rdR v35 n l0 7 1).bind fun v63 =>
    v63.bind fun a65 =>
    (ckq v35 n a65 2).bind fun u67 =>
    (q_X2_meanTells K v35 n a65 (Int32.toInt64 v51)).bind fun v69 =>
    some (v69, v35)
  else
  (rdR v35 n l0 7 1).bind fun v71 =>
  v71.bind fun a73 =>
  (ckq v35 n a73 2).bind fun u75 =>
  (q_X2_bestTells K v35 n a73 (Int32.toInt64 v51)).bind fun v77 =>
  some (v77, v35)
set_option maxRecDepth 100000 in
set_option maxHeartbeats 4000000 in
theorem c_X7_toldBy {K : Nat} {G : mm_G} {l : Launch} {h : mm_H} {n : Nat} (l0 : Nat) (l1 : Option Nat) (l2 : Int32) {r_ : Int64 × mm_H} (hn : 48 ≤ n) (hr : q_X7_toldBy K h n l0 l1 l2 = some r_) : Sp G l yX7_toldBy cX7_toldBy 5 (some .long) 3 0 0 [.ref l0, va_rf l1, .int l2] h n (fun v h' n' => v = some (.long r_.1) ∧ h' = r_.2 ∧ n' = n) := by
  refine Sp_of (by decide +kernel) (by rcases l1 with _ | _ <;> exact Nat.le_of_ble_eq_true rfl) hn ?_
  intro W0 hwl C
  subst hwl
  unfold q_X7_toldBy at hr
  rw [show mm_en 5 [.ref l0, va_rf l1, .int l2] = [some (.ref l0), some (va_rf l1), some (.int l2), none, none] from by rcases l1 with _ | _ <;> rfl]
  show WW W0 G 5 0 0 _ 0 [some (.ref l0), some (va_rf l1), some (.int l2), none, none] [] h n 0 0
  refine rr_iload_n (i := 2) C dX7_toldBy_0 rfl rfl ?_
  replace hr := Option.bind_eq_some_iff.mp hr
  obtain ⟨v1, e2, hr⟩ := hr
  refine rr_callS (as := [.int l2]) (st := []) (mc' := 0) (ms' := 0) C dX7_toldBy_1 it_X7_136 (by decide) (Nat.le_of_ble_eq_true rfl) (c_X7_decidedOn l2 (by omega) e2) (fun v_ h_ n_ q_ => ?_)
  obtain ⟨q1_, q2_, q3_⟩ := q_
  subst v_; subst h_; subst n_
  show WW W0 G 5 _ _ _ 4 [some (.ref l0), some (va_rf l1), some (.int l2), none, none] [.int v1] h n _ _
  refine rr_istore_n (i := 3) C dX7_toldBy_4 rfl (by decide) ?_
  show WW W0 G 5 _ _ _ 5 [some (.ref l0), some (va_rf l1), some (.int l2), some (.int v1), none] [] h n _ _
  refine rr_aload_nO (i := 1) C dX7_toldBy_5 rfl rfl ?_
  replace hr := Option.bind_eq_some_iff.mp hr
  obtain ⟨a3, e4, hr⟩ := hr
  subst e4
  replace hr := Option.bind_eq_some_iff.mp hr
  obtain ⟨v5, e6, hr⟩ := hr
  refine rr_rdI C dX7_toldBy_6 fl_X7_172 e6 ?_
  refine rr_iconst (v := 3) C dX7_toldBy_9 (by decide) ?_
  refine rr_icmp_ne (tgt := 52) C dX7_toldBy_10 (by decide) (fun c10_ => ?_) (fun c10_ => ?_)
  · replace hr := (if_neg c10_).symm.trans hr
    refine rr_aload_n (i := 0) C dX7_toldBy_52 rfl rfl ?_
    replace hr := Option.bind_eq_some_iff.mp hr
    obtain ⟨v23, e24, hr⟩ := hr
    refine rr_rdR C dX7_toldBy_53 fl_X7_55 e24 ?_
    refine rr_aload_n (i := 0) C dX7_toldBy_56 rfl rfl ?_
    replace hr := Option.bind_eq_some_iff.mp hr
    obtain ⟨v25, e26, hr⟩ := hr
    refine rr_rdI C dX7_toldBy_57 fl_X7_59 e26 ?_
    refine rr_aload_n (i := 1) C dX7_toldBy_60 rfl rfl ?_
    replace hr := Option.bind_eq_some_iff.mp hr
    obtain ⟨v27, e28, hr⟩ := hr
    refine rr_rdI C dX7_toldBy_61 fl_X7_175 e28 ?_
    refine rr_iload_n (i := 2) C dX7_toldBy_64 rfl rfl ?_
    refine rr_iconst (v := 5) C dX7_toldBy_65 (by decide) ?_
    refine rr_idiv C dX7_toldBy_66 (by decide) ?_
    refine rr_aload_n (i := 1) C dX7_toldBy_67 rfl rfl ?_
    replace hr := Option.bind_eq_some_iff.mp hr
    obtain ⟨v29, e30, hr⟩ := hr
    refine rr_rdI C dX7_toldBy_68 fl_X7_181 e30 ?_
    replace hr := Option.bind_eq_some_iff.mp hr
    obtain ⟨a31, e32, hr⟩ := hr
    subst e32
    replace hr := Option.bind_eq_some_iff.mp hr
    obtain ⟨u33, e34, hr⟩ := hr
    replace hr := Option.bind_eq_some_iff.mp hr
    obtain ⟨v35, e36, hr⟩ := hr
    refine rr_callVq (as := [.int v25, .int v27, .int (l2 / 5), .int v29]) (st := []) (mc' := 0) (ms' := 0) C dX7_toldBy_71 iv_X7_184 (by decide) e34 rfl (Nat.le_of_ble_eq_true rfl) (c_X2_gather a31 v25 v27 (l2 / 5) v29 (by omega) e36) (fun v_ h_ n_ q_ => ?_)
    obtain ⟨q1_, q2_, q3_⟩ := q_
    subst v_; subst h_; subst n_
    show WW W0 G 5 _ _ _ 74 [some (.ref l0), some (.ref a3), some (.int l2), some (.int v1), none] [] v35 n _ _
    refine rr_aload_n (i := 0) C dX7_toldBy_74 rfl rfl ?_
    replace hr := Option.bind_eq_some_iff.mp hr
    obtain ⟨v37, e38, hr⟩ := hr
    refine rr_rdR C dX7_toldBy_75 fl_X7_46 e38 ?_
    replace hr := Option.bind_eq_some_iff.mp hr
    obtain ⟨a39, e40, hr⟩ := hr
    subst e40
    replace hr := Option.bind_eq_some_iff.mp hr
    obtain ⟨v41, e42, hr⟩ := hr
    refine rr_rdR C dX7_toldBy_78 fl_X7_132 e42 ?_
    refine rr_aload_n (i := 0) C dX7_toldBy_81 rfl rfl ?_
    replace hr := Option.bind_eq_some_iff.mp hr
    obtain ⟨v43, e44, hr⟩ := hr
    refine rr_rdI C dX7_toldBy_82 fl_X7_59 e44 ?_
    refine rr_iload_n (i := 2) C dX7_toldBy_85 rfl rfl ?_
    refine rr_aload_n (i := 1) C dX7_toldBy_86 rfl rfl ?_
    replace hr := Option.bind_eq_some_iff.mp hr
    obtain ⟨v45, e46, hr⟩ := hr
    refine rr_rdI C dX7_toldBy_87 fl_X7_181 e46 ?_
    refine rr_iload_n (i := 3) C dX7_toldBy_90 rfl rfl ?_
    replace hr := Option.bind_eq_some_iff.mp hr
    obtain ⟨a47, e48, hr⟩ := hr
    subst e48
    replace hr := Option.bind_eq_some_iff.mp hr
    obtain ⟨u49, e50, hr⟩ := hr
    replace hr := Option.bind_eq_some_iff.mp hr
    obtain ⟨v51, e52, hr⟩ := hr
    refine rr_callVq (as := [.int v43, .int l2, .int v45, .int v1]) (st := []) (mc' := 0) (ms' := 0) C dX7_toldBy_91 iv_X7_188 (by decide) e50 rfl (Nat.le_of_ble_eq_true rfl) (c_X0_latestUpTo a47 v43 l2 v45 v1 (by omega) e52) (fun v_ h_ n_ q_ => ?_)
    obtain ⟨q1_, q2_, q3_⟩ := q_
    subst v_; subst h_; subst n_
    show WW W0 G 5 _ _ _ 94 [some (.ref l0), some (.ref a3), some (.int l2), some (.int v1), none] [.int v51] v35 n _ _
    refine rr_istore C dX7_toldBy_94 (by decide) ?_
    show WW W0 G 5 _ _ _ 96 [some (.ref l0), some (.ref a3), some (.int l2), some (.int v1), some (.int v51)] [] v35 n _ _
    refine rr_aload_n (i := 1) C dX7_toldBy_96 rfl rfl ?_
    replace hr := Option.bind_eq_some_iff.mp hr
    obtain ⟨v53, e54, hr⟩ := hr
    refine rr_rdI C dX7_toldBy_97 fl_X7_172 e54 ?_
    by_cases s100_0 : v53 = 0
    · replace hr := (if_pos s100_0).symm.trans hr
      refine rr_lookup (off := 28) (tgt := 128) C dX7_toldBy_100 (by decide) (by rw [s100_0]; rfl) (by decide) ?_
      refine rr_aload_n (i := 0) C dX7_toldBy_128 rfl rfl ?_
      replace hr := Option.bind_eq_some_iff.mp hr
      obtain ⟨v55, e56, hr⟩ := hr
      refine rr_rdR C dX7_toldBy_129 fl_X7_55 e56 ?_
      refine rr_iload C dX7_toldBy_132 rfl ?_
      refine rr_i2l C dX7_toldBy_134 ?_
      replace hr := Option.bind_eq_some_iff.mp hr
      obtain ⟨a57, e58, hr⟩ := hr
      subst e58
      replace hr := Option.bind_eq_some_iff.mp hr
      obtain ⟨u59, e60, hr⟩ := hr
      replace hr := Option.bind_eq_some_iff.mp hr
      obtain ⟨v61, e62, hr⟩ := hr
      refine rr_callVq (as := [.long (Int32.toInt64 v51)]) (st := []) (mc' := 0) (ms' := 0) C dX7_toldBy_135 iv_X7_191 (by decide) e60 rfl (Nat.le_of_ble_eq_true rfl) (c_X2_lineTells a57 (Int32.toInt64 v51) (by omega) e62) (fun v_ h_ n_ q_ => ?_)
      obtain ⟨q1_, q2_, q3_⟩ := q_
      subst v_; subst h_; subst n_
      show WW W0 G 5 _ _ _ 138 [some (.ref l0), some (.ref a3), some (.int l2), some (.int v1), some (.int v51)] [.long v61] v35 n _ _
      obtain rfl := Option.some.inj hr
      exact rr_lret C dX7_toldBy_138 rfl ⟨rfl, rfl, rfl⟩
    replace hr := (if_neg s100_0).symm.trans hr
    by_cases s100_1 : v53 = 1
    · replace hr := (if_pos s100_1).symm.trans hr
      refine rr_lookup (off := 39) (tgt := 139) C dX7_toldBy_100 (by decide) (by rw [s100_1]; rfl) (by decide) ?_
      refine rr_aload_n (i := 0) C dX7_toldBy_139 rfl rfl ?_
      replace hr := Option.bind_eq_some_iff.mp hr
      obtain ⟨v63, e64, hr⟩ := hr
      refine rr_rdR C dX7_toldBy_140 fl_X7_55 e64 ?_
      refine rr_iload C dX7_toldBy_143 rfl ?_
      refine rr_i2l C dX7_toldBy_145 ?_
      replace hr := Option.bind_eq_some_iff.mp hr
      obtain ⟨a65, e66, hr⟩ := hr
      subst e66
      replace hr := Option.bind_eq_some_iff.mp hr
      obtain ⟨u67, e68, hr⟩ := hr
      replace hr := Option.bind_eq_some_iff.mp hr
      obtain ⟨v69, e70, hr⟩ := hr
      refine rr_callVq (as := [.long (Int32.toInt64 v51)]) (st := []) (mc' := 0) (ms' := 0) C dX7_toldBy_146 iv_X7_195 (by decide) e68 rfl (Nat.le_of_ble_eq_true rfl) (c_X2_meanTells a65 (Int32.toInt64 v51) (by omega) e70) (fun v_ h_ n_ q_ => ?_)
      obtain ⟨q1_, q2_, q3_⟩ := q_
      subst v_; subst h_; subst n_
      show WW W0 G 5 _ _ _ 149 [some (.ref l0), some (.ref a3), some (.int l2), some (.int v1), some (.int v51)] [.long v69] v35 n _ _
      obtain rfl := Option.some.inj hr
      exact rr_lret C dX7_toldBy_149 rfl ⟨rfl, rfl, rfl⟩
    replace hr := (if_neg s100_1).symm.trans hr
    refine rr_lookup (off := 50) (tgt := 150) C dX7_toldBy_100 (by decide) ((lv_osw s100_0 rfl).trans ((lv_osw s100_1 rfl).trans rfl)) (by decide) ?_
    refine rr_aload_n (i := 0) C dX7_toldBy_150 rfl rfl ?_
    replace hr := Option.bind_eq_some_iff.mp hr
    obtain ⟨v71, e72, hr⟩ := hr
    refine rr_rdR C dX7_toldBy_151 fl_X7_55 e72 ?_
    refine rr_iload C dX7_toldBy_154 rfl ?_
    refine rr_i2l C dX7_toldBy_156 ?_
    replace hr := Option.bind_eq_some_iff.mp hr
    obtain ⟨a73, e74, hr⟩ := hr
    subst e74
    replace hr := Option.bind_eq_some_iff.mp hr
    obtain ⟨u75, e76, hr⟩ := hr
    replace hr := Option.bind_eq_some_iff.mp hr
    obtain ⟨v77, e78, hr⟩ := hr
    refine rr_callVq (as := [.long (Int32.toInt64 v51)]) (st := []) (mc' := 0) (ms' := 0) C dX7_toldBy_157 iv_X7_198 (by decide) e76 rfl (Nat.le_of_ble_eq_true rfl) (c_X2_bestTells a73 (Int32.toInt64 v51) (by omega) e78) (fun v_ h_ n_ q_ => ?_)
    obtain ⟨q1_, q2_, q3_⟩ := q_
    subst v_; subst h_; subst n_
    show WW W0 G 5 _ _ _ 160 [some (.ref l0), some (.ref a3), some (.int l2), some (.int v1), some (.int v51)] [.long v77] v35 n _ _
    obtain rfl := Option.some.inj hr
    exact rr_lret C dX7_toldBy_160 rfl ⟨rfl, rfl, rfl⟩
  · replace hr := (if_pos c10_).symm.trans hr
    refine rr_aload_n (i := 0) C dX7_toldBy_13 rfl rfl ?_
    replace hr := Option.bind_eq_some_iff.mp hr
    obtain ⟨v7, e8, hr⟩ := hr
    refine rr_rdR C dX7_toldBy_14 fl_X7_46 e8 ?_
    replace hr := Option.bind_eq_some_iff.mp hr
    obtain ⟨a9, e10, hr⟩ := hr
    subst e10
    replace hr := Option.bind_eq_some_iff.mp hr
    obtain ⟨v11, e12, hr⟩ := hr
    refine rr_rdR C dX7_toldBy_17 fl_X7_132 e12 ?_
    refine rr_aload_n (i := 0) C dX7_toldBy_20 rfl rfl ?_
    replace hr := Option.bind_eq_some_iff.mp hr
    obtain ⟨v13, e14, hr⟩ := hr
    refine rr_rdI C dX7_toldBy_21 fl_X7_59 e14 ?_
    refine rr_iload_n (i := 2) C dX7_toldBy_24 rfl rfl ?_
    refine rr_bipush (v := 7) C dX7_toldBy_25 (by decide) ?_
    refine rr_aload_n (i := 1) C dX7_toldBy_27 rfl rfl ?_
    replace hr := Option.bind_eq_some_iff.mp hr
    obtain ⟨v15, e16, hr⟩ := hr
    refine rr_rdI C dX7_toldBy_28 fl_X7_175 e16 ?_
    refine rr_iadd C dX7_toldBy_31 ?_
    refine rr_iload_n (i := 3) C dX7_toldBy_32 rfl rfl ?_
    replace hr := Option.bind_eq_some_iff.mp hr
    obtain ⟨a17, e18, hr⟩ := hr
    subst e18
    replace hr := Option.bind_eq_some_iff.mp hr
    obtain ⟨u19, e20, hr⟩ := hr
    replace hr := Option.bind_eq_some_iff.mp hr
    obtain ⟨v21, e22, hr⟩ := hr
    refine rr_callVq (as := [.int v13, .int l2, .int (7 + v15), .int v1]) (st := []) (mc' := 0) (ms' := 0) C dX7_toldBy_33 iv_X7_178 (by decide) e20 rfl (Nat.le_of_ble_eq_true rfl) (c_X0_knownBy a17 v13 l2 (7 + v15) v1 (by omega) e22) (fun v_ h_ n_ q_ => ?_)
    obtain ⟨q1_, q2_, q3_⟩ := q_
    subst v_; subst h_; subst n_
    show WW W0 G 5 _ _ _ 36 [some (.ref l0), some (.ref a3), some (.int l2), some (.int v1), none] [.int v21] h n _ _
    refine rr_istore C dX7_toldBy_36 (by decide) ?_
    show WW W0 G 5 _ _ _ 38 [some (.ref l0), some (.ref a3), some (.int l2), some (.int v1), some (.int v21)] [] h n _ _
    refine rr_iload C dX7_toldBy_38 rfl ?_
    refine rr_iconst (v := (-1)) C dX7_toldBy_40 (by decide) ?_
    refine rr_icmp_ne (tgt := 48) C dX7_toldBy_41 (by decide) (fun c41_ => ?_) (fun c41_ => ?_)
    · replace hr := (if_neg c41_).symm.trans hr
      refine rr_iload C dX7_toldBy_48 rfl ?_
      refine rr_i2l C dX7_toldBy_50 ?_
      obtain rfl := Option.some.inj hr
      exact rr_lret C dX7_toldBy_51 rfl ⟨rfl, rfl, rfl⟩
    · replace hr := (if_pos c41_).symm.trans hr
      refine rr_lconst (v := 0) C dX7_toldBy_44 (by decide) ?_
      refine rr_goto (tgt := 51) C dX7_toldBy_45 (by decide) ?_
      obtain rfl := Option.some.inj hr
      exact rr_lret C dX7_toldBy_51 rfl ⟨rfl, rfl, rfl⟩
def q_X7_allowedFor (K : Nat) (h : mm_H) (n : Nat) (l0 : Nat) (l1 : Int32) (l2 : Int32) : Option (Int64 × mm_H) :=
  (rdR h n l0 7 0).bind fun v1 =>
  v1.bind fun a3 =>
  (rdR h n a3 4 3).bind fun v5 =>
  (rdI h n l0 7 11).bind fun v7 =>
  (rdI h n l0 7 12).bind fun v9 =>
  v5.bind fun a11 =>
  (ckq h n a11 1).bind fun u13 =>
  (q_X1_lastKnown K h n a11 v7 l2 l1 v9).bind fun v15 =>
  if v15 = (-1) then
    (ckq h n l0 7).bind fun u17 =>
    (q_X7_ruleAt K h n l0 l1 0 l2).bind fun v19 =>
    match v19 with
    | none =>
      some (0, h)
    | some a21 =>
      (ckq h n l0 7).bind fun u22 =>
      (q_X7_toldBy K h n l0 (some a21) l1).bind fun v24 =>
      (rdI v24.2 n a21 5 4).bind fun v26 =>
      (q_X8_hundredths K v24.2 n v24.1 (Int32.toInt64 v26)).bind fun v28 =>
      some (v28, v24.2)
  else
  some (Int32.toInt64 v15, h)
set_option maxRecDepth 100000 in
set_option maxHeartbeats 4000000 in
theorem c_X7_allowedFor {K : Nat} {G : mm_G} {l : Launch} {h : mm_H} {n : Nat} (l0 : Nat) (l1 : Int32) (l2 : Int32) {r_ : Int64 × mm_H} (hn : 48 ≤ n) (hr : q_X7_allowedFor K h n l0 l1 l2 = some r_) : Sp G l yX7_allowedFor cX7_allowedFor 5 (some .long) 4 0 0 [.ref l0, .int l1, .int l2] h n (fun v h' n' => v = some (.long r_.1) ∧ h' = r_.2 ∧ n' = n) := by
  refine Sp_of (by decide +kernel) (Nat.le_of_ble_eq_true rfl) hn ?_
  intro W0 hwl C
  subst hwl
  unfold q_X7_allowedFor at hr
  show WW W0 G 5 0 0 _ 0 [some (.ref l0), some (.int l1), some (.int l2), none, none] [] h n 0 0
  refine rr_aload_n (i := 0) C dX7_allowedFor_0 rfl rfl ?_
  replace hr := Option.bind_eq_some_iff.mp hr
  obtain ⟨v1, e2, hr⟩ := hr
  refine rr_rdR C dX7_allowedFor_1 fl_X7_46 e2 ?_
  replace hr := Option.bind_eq_some_iff.mp hr
  obtain ⟨a3, e4, hr⟩ := hr
  subst e4
  replace hr := Option.bind_eq_some_iff.mp hr
  obtain ⟨v5, e6, hr⟩ := hr
  refine rr_rdR C dX7_allowedFor_4 fl_X7_154 e6 ?_
  refine rr_aload_n (i := 0) C dX7_allowedFor_7 rfl rfl ?_
  replace hr := Option.bind_eq_some_iff.mp hr
  obtain ⟨v7, e8, hr⟩ := hr
  refine rr_rdI C dX7_allowedFor_8 fl_X7_59 e8 ?_
  refine rr_iload_n (i := 2) C dX7_allowedFor_11 rfl rfl ?_
  refine rr_iload_n (i := 1) C dX7_allowedFor_12 rfl rfl ?_
  refine rr_aload_n (i := 0) C dX7_allowedFor_13 rfl rfl ?_
  replace hr := Option.bind_eq_some_iff.mp hr
  obtain ⟨v9, e10, hr⟩ := hr
  refine rr_rdI C dX7_allowedFor_14 fl_X7_63 e10 ?_
  replace hr := Option.bind_eq_some_iff.mp hr
  obtain ⟨a11, e12, hr⟩ := hr
  subst e12
  replace hr := Option.bind_eq_some_iff.mp hr
  obtain ⟨u13, e14, hr⟩ := hr
  replace hr := Option.bind_eq_some_iff.mp hr
  obtain ⟨v15, e16, hr⟩ := hr
  refine rr_callVq (as := [.int v7, .int l2, .int l1, .int v9]) (st := []) (mc' := 0) (ms' := 0) C dX7_allowedFor_17 iv_X7_158 (by decide) e14 rfl (Nat.le_of_ble_eq_true rfl) (c_X1_lastKnown a11 v7 l2 l1 v9 (by omega) e16) (fun v_ h_ n_ q_ => ?_)
  obtain ⟨q1_, q2_, q3_⟩ := q_
  subst v_; subst h_; subst n_
  show WW W0 G 5 _ _ _ 20 [some (.ref l0), some (.int l1), some (.int l2), none, none] [.int v15] h n _ _
  refine rr_istore_n (i := 3) C dX7_allowedFor_20 rfl (by decide) ?_
  show WW W0 G 5 _ _ _ 21 [some (.ref l0), some (.int l1), some (.int l2), some (.int v15), none] [] h n _ _
  refine rr_iload_n (i := 3) C dX7_allowedFor_21 rfl rfl ?_
  refine rr_iconst (v := (-1)) C dX7_allowedFor_22 (by decide) ?_
  refine rr_icmp_eq (tgt := 29) C dX7_allowedFor_23 (by decide) (fun c23_ => ?_) (fun c23_ => ?_)
  · replace hr := (if_pos c23_).symm.trans hr
    refine rr_aload_n (i := 0) C dX7_allowedFor_29 rfl rfl ?_
    refine rr_iload_n (i := 1) C dX7_allowedFor_30 rfl rfl ?_
    refine rr_iconst (v := 0) C dX7_allowedFor_31 (by decide) ?_
    refine rr_iload_n (i := 2) C dX7_allowedFor_32 rfl rfl ?_
    replace hr := Option.bind_eq_some_iff.mp hr
    obtain ⟨u17, e18, hr⟩ := hr
    replace hr := Option.bind_eq_some_iff.mp hr
    obtain ⟨v19, e20, hr⟩ := hr
    refine rr_callVq (as := [.int l1, .int 0, .int l2]) (st := []) (mc' := 0) (ms' := 0) C dX7_allowedFor_33 iv_X7_164 (by decide) e18 rfl (Nat.le_of_ble_eq_true rfl) (c_X7_ruleAt l0 l1 0 l2 (by omega) e20) (fun v_ h_ n_ q_ => ?_)
    obtain ⟨q1_, q2_, q3_⟩ := q_
    subst v_; subst h_; subst n_
    show WW W0 G 5 _ _ _ 36 [some (.ref l0), some (.int l1), some (.int l2), some (.int v15), none] [va_rf v19] h n _ _
    refine rr_astoreO C dX7_allowedFor_36 (by decide) ?_
    show WW W0 G 5 _ _ _ 38 [some (.ref l0), some (.int l1), some (.int l2), some (.int v15), some (va_rf v19)] [] h n _ _
    refine rr_aloadO C dX7_allowedFor_38 rfl ?_
    rcases v19 with _ | a21
    · dsimp only at hr
      refine rr_ifnonnullN C dX7_allowedFor_40 ?_
      refine rr_lconst (v := 0) C dX7_allowedFor_43 (by decide) ?_
      refine rr_goto (tgt := 63) C dX7_allowedFor_44 (by decide) ?_
      obtain rfl := Option.some.inj hr
      exact rr_lret C dX7_allowedFor_63 rfl ⟨rfl, rfl, rfl⟩
    · dsimp only at hr
      refine rr_ifnonnull (tgt := 47) C dX7_allowedFor_40 (by decide) ?_
      refine rr_aload_n (i := 0) C dX7_allowedFor_47 rfl rfl ?_
      refine rr_aload C dX7_allowedFor_48 rfl ?_
      refine rr_iload_n (i := 1) C dX7_allowedFor_50 rfl rfl ?_
      replace hr := Option.bind_eq_some_iff.mp hr
      obtain ⟨u22, e23, hr⟩ := hr
      replace hr := Option.bind_eq_some_iff.mp hr
      obtain ⟨v24, e25, hr⟩ := hr
      refine rr_callVq (as := [.ref a21, .int l1]) (st := []) (mc' := 0) (ms' := 0) C dX7_allowedFor_51 iv_X7_168 (by decide) e23 rfl (Nat.le_of_ble_eq_true rfl) (c_X7_toldBy l0 (some a21) l1 (by omega) e25) (fun v_ h_ n_ q_ => ?_)
      obtain ⟨q1_, q2_, q3_⟩ := q_
      subst v_; subst h_; subst n_
      show WW W0 G 5 _ _ _ 54 [some (.ref l0), some (.int l1), some (.int l2), some (.int v15), some (.ref a21)] [.long v24.1] v24.2 n _ _
      refine rr_aload C dX7_allowedFor_54 rfl ?_
      replace hr := Option.bind_eq_some_iff.mp hr
      obtain ⟨v26, e27, hr⟩ := hr
      refine rr_rdI C dX7_allowedFor_56 fl_X7_129 e27 ?_
      refine rr_i2l C dX7_allowedFor_59 ?_
      replace hr := Option.bind_eq_some_iff.mp hr
      obtain ⟨v28, e29, hr⟩ := hr
      refine rr_callS (as := [.long v24.1, .long (Int32.toInt64 v26)]) (st := []) (mc' := 0) (ms' := 0) C dX7_allowedFor_60 it_X7_80 (by decide) (Nat.le_of_ble_eq_true rfl) (c_X8_hundredths v24.1 (Int32.toInt64 v26) (by omega) e29) (fun v_ h_ n_ q_ => ?_)
      obtain ⟨q1_, q2_, q3_⟩ := q_
      subst v_; subst h_; subst n_
      show WW W0 G 5 _ _ _ 63 [some (.ref l0), some (.int l1), some (.int l2), some (.int v15), some (.ref a21)] [.long v28] v24.2 n _ _
      obtain rfl := Option.some.inj hr
      exact rr_lret C dX7_allowedFor_63 rfl ⟨rfl, rfl, rfl⟩
  · replace hr := (if_neg c23_).symm.trans hr
    refine rr_iload_n (i := 3) C dX7_allowedFor_26 rfl rfl ?_
    refine rr_i2l C dX7_allowedFor_27 ?_
    obtain rfl := Option.some.inj hr
    exact rr_lret C dX7_allowedFor_28 rfl ⟨rfl, rfl, rfl⟩
def lp_J7_fill_d0a16_6 (K : Nat) (n : Nat) (l0 : Nat) (l1 : Int64) (l4 : Int32) : Nat → Int32 → mm_H → Option (mm_H)
  | 0, _, _ => none
  | k_ + 1, l3, h =>
    if l4 ≤ l3 then
      some (h)
    else
    (stJ h n l0 l3 l1).bind fun h5 =>
    lp_J7_fill_d0a16_6 K n l0 l1 l4 k_ (l3 + 1) h5
def q_J7_fill_d0a16 (K : Nat) (h : mm_H) (n : Nat) (l0 : Option Nat) (l1 : Int64) : Option (mm_H) :=
  l0.bind fun a1 =>
  (lenA h n a1 1).bind fun v3 =>
  (lp_J7_fill_d0a16_6 K n a1 l1 v3 K 0 h).bind fun v7 =>
  some v7
set_option maxRecDepth 100000 in
set_option maxHeartbeats 4000000 in
theorem w_J7_fill_d0a16_6 {K : Nat} {W0 : mm_X} {G : mm_G} {mc ms kc ks : Nat} {Q_ : State → Prop} {n : Nat} (C : mm_C W0 G cJ7_fill_d0a16 yJ7_fill_d0a16.cls 5 mc ms none 0 yJ7_fill_d0a16.name) (hn : 48 ≤ n) (l0 : Nat) (l1 : Int64) (l4 : Int32) : ∀ (k_ : Nat) (l3 : Int32) (h : mm_H) {r_ : mm_H} (hr : lp_J7_fill_d0a16_6 K n l0 l1 l4 k_ l3 h = some r_) (hx0 : WW W0 G 5 mc ms Q_ 22 [none, none, none, none, none] [] r_ n kc ks), WW W0 G 5 mc ms Q_ 6 [some (.ref l0), some (.long l1), none, some (.int l3), some (.int l4)] [] h n kc ks := by
  intro k_
  induction k_ with
  | zero =>
    intro l3 h r_ hr
    cases hr
  | succ k_ ih_ =>
    intro l3 h r_ hr hx0
    unfold lp_J7_fill_d0a16_6 at hr
    refine rr_iload_n (i := 3) C dJ7_fill_d0a16_6 rfl rfl ?_
    refine rr_iload C dJ7_fill_d0a16_7 rfl ?_
    refine rr_icmp_ge (tgt := 22) C dJ7_fill_d0a16_9 (by decide) (fun c9_ => ?_) (fun c9_ => ?_)
    · replace hr := (if_pos c9_).symm.trans hr
      obtain rfl := Option.some.inj hr
      exact rr_keep [false, false, false, false, false] (hx0)
    · replace hr := (if_neg c9_).symm.trans hr
      refine rr_aload_n (i := 0) C dJ7_fill_d0a16_12 rfl rfl ?_
      refine rr_iload_n (i := 3) C dJ7_fill_d0a16_13 rfl rfl ?_
      refine rr_lload_n (i := 1) C dJ7_fill_d0a16_14 rfl rfl ?_
      replace hr := Option.bind_eq_some_iff.mp hr
      obtain ⟨h5, e6, hr⟩ := hr
      refine rr_stJ C dJ7_fill_d0a16_15 e6 ?_
      refine rr_iinc (v := l3 + 1) C dJ7_fill_d0a16_16 rfl rfl ?_
      show WW W0 G 5 _ _ _ 19 [some (.ref l0), some (.long l1), none, some (.int (l3 + 1)), some (.int l4)] [] h5 n _ _
      refine rr_goto (tgt := 6) C dJ7_fill_d0a16_19 (by decide) ?_
      exact rr_keep [true, true, false, true, true] (ih_ _ _ hr hx0)
set_option maxRecDepth 100000 in
set_option maxHeartbeats 4000000 in
theorem c_J7_fill_d0a16 {K : Nat} {G : mm_G} {l : Launch} {h : mm_H} {n : Nat} (l0 : Option Nat) (l1 : Int64) {r_ : mm_H} (hn : 48 ≤ n) (hr : q_J7_fill_d0a16 K h n l0 l1 = some r_) : Sp G l yJ7_fill_d0a16 cJ7_fill_d0a16 5 none 0 0 0 [va_rf l0, .long l1] h n (fun v h' n' => v = none ∧ h' = r_ ∧ n' = n) := by
  refine Sp_of (by decide +kernel) (by rcases l0 with _ | _ <;> exact Nat.le_of_ble_eq_true rfl) hn ?_
  intro W0 hwl C
  subst hwl
  unfold q_J7_fill_d0a16 at hr
  rw [show mm_en 5 [va_rf l0, .long l1] = [some (va_rf l0), some (.long l1), none, none, none] from by rcases l0 with _ | _ <;> rfl]
  show WW W0 G 5 0 0 _ 0 [some (va_rf l0), some (.long l1), none, none, none] [] h n 0 0
  refine rr_iconst (v := 0) C dJ7_fill_d0a16_0 (by decide) ?_
  refine rr_istore_n (i := 3) C dJ7_fill_d0a16_1 rfl (by decide) ?_
  show WW W0 G 5 _ _ _ 2 [some (va_rf l0), some (.long l1), none, some (.int 0), none] [] h n _ _
  refine rr_aload_nO (i := 0) C dJ7_fill_d0a16_2 rfl rfl ?_
  replace hr := Option.bind_eq_some_iff.mp hr
  obtain ⟨a1, e2, hr⟩ := hr
  subst e2
  replace hr := Option.bind_eq_some_iff.mp hr
  obtain ⟨v3, e4, hr⟩ := hr
  refine rr_lenA C dJ7_fill_d0a16_3 e4 ?_
  refine rr_istore C dJ7_fill_d0a16_4 (by decide) ?_
  show WW W0 G 5 _ _ _ 6 [some (.ref a1), some (.long l1), none, some (.int 0), some (.int v3)] [] h n _ _
  replace hr := Option.bind_eq_some_iff.mp hr
  obtain ⟨v7, e8, hr⟩ := hr
  refine rr_keep [true, true, false, true, true] (w_J7_fill_d0a16_6 C (by omega) a1 l1 v3 K 0 h e8 ?_)
  show WW W0 G 5 _ _ _ 22 [none, none, none, none, none] [] v7 n _ _
  obtain rfl := Option.some.inj hr
  exact rr_vret C dJ7_fill_d0a16_22 rfl ⟨rfl, rfl, rfl⟩
def lp_X9_coinsDue_5 (K : Nat) (h : mm_H) (n : Nat) (l0 : Nat) (l1 : Int32) (l2 : Int32) : Nat → Int64 → Int32 → Option (Int64)
  | 0, _, _ => none
  | k_ + 1, l3, l5 =>
    (rdI h n l0 8 4).bind fun v1 =>
    if v1 ≤ l5 then
      some (l3)
    else
    if 40 ≤ l5 then
      some (l3)
    else
    (rdR h n l0 8 0).bind fun v3 =>
    v3.bind fun a5 =>
    (ldI h n a5 l5).bind fun v7 =>
    if v7 = l1 then
      (rdR h n l0 8 2).bind fun v9 =>
      v9.bind fun a11 =>
      (ldI h n a11 l5).bind fun v13 =>
      if v13 = l2 then
        (rdR h n l0 8 1).bind fun v15 =>
        v15.bind fun a17 =>
        (ldI h n a17 l5).bind fun v19 =>
        lp_X9_coinsDue_5 K h n l0 l1 l2 k_ (l3 + (Int32.toInt64 v19)) (l5 + 1)
      else
      lp_X9_coinsDue_5 K h n l0 l1 l2 k_ l3 (l5 + 1)
    else
    lp_X9_coinsDue_5 K h n l0 l1 l2 k_ l3 (l5 + 1)
def q_X9_coinsDue (K : Nat) (h : mm_H) (n : Nat) (l0 : Nat) (l1 : Int32) (l2 : Int32) : Option (Int64) :=
  (lp_X9_coinsDue_5 K h n l0 l1 l2 K 0 0).bind fun v22 =>
  some v22
set_option maxRecDepth 100000 in
set_option maxHeartbeats 4000000 in
theorem w_X9_coinsDue_5 {K : Nat} {W0 : mm_X} {G : mm_G} {mc ms kc ks : Nat} {Q_ : State → Prop} {h : mm_H} {n : Nat} (C : mm_C W0 G cX9_coinsDue yX9_coinsDue.cls 6 mc ms (some .long) 0 yX9_coinsDue.name) (hn : 48 ≤ n) (l0 : Nat) (l1 : Int32) (l2 : Int32) : ∀ (k_ : Nat) (l3 : Int64) (l5 : Int32) {r_ : Int64} (hr : lp_X9_coinsDue_5 K h n l0 l1 l2 k_ l3 l5 = some r_) (hx0 : WW W0 G 6 mc ms Q_ 60 [none, none, none, some (.long r_), none, none] [] h n kc ks), WW W0 G 6 mc ms Q_ 5 [some (.ref l0), some (.int l1), some (.int l2), some (.long l3), none, some (.int l5)] [] h n kc ks := by
  intro k_
  induction k_ with
  | zero =>
    intro l3 l5 r_ hr
    cases hr
  | succ k_ ih_ =>
    intro l3 l5 r_ hr hx0
    unfold lp_X9_coinsDue_5 at hr
    refine rr_iload C dX9_coinsDue_5 rfl ?_
    refine rr_aload_n (i := 0) C dX9_coinsDue_7 rfl rfl ?_
    replace hr := Option.bind_eq_some_iff.mp hr
    obtain ⟨v1, e2, hr⟩ := hr
    refine rr_rdI C dX9_coinsDue_8 fl_X9_24 e2 ?_
    refine rr_icmp_ge (tgt := 60) C dX9_coinsDue_11 (by decide) (fun c11_ => ?_) (fun c11_ => ?_)
    · replace hr := (if_pos c11_).symm.trans hr
      obtain rfl := Option.some.inj hr
      exact rr_keep [false, false, false, true, false, false] (hx0)
    · replace hr := (if_neg c11_).symm.trans hr
      refine rr_iload C dX9_coinsDue_14 rfl ?_
      refine rr_bipush (v := 40) C dX9_coinsDue_16 (by decide) ?_
      refine rr_icmp_ge (tgt := 60) C dX9_coinsDue_18 (by decide) (fun c18_ => ?_) (fun c18_ => ?_)
      · replace hr := (if_pos c18_).symm.trans hr
        obtain rfl := Option.some.inj hr
        exact rr_keep [false, false, false, true, false, false] (hx0)
      · replace hr := (if_neg c18_).symm.trans hr
        refine rr_aload_n (i := 0) C dX9_coinsDue_21 rfl rfl ?_
        replace hr := Option.bind_eq_some_iff.mp hr
        obtain ⟨v3, e4, hr⟩ := hr
        refine rr_rdR C dX9_coinsDue_22 fl_X9_9 e4 ?_
        refine rr_iload C dX9_coinsDue_25 rfl ?_
        replace hr := Option.bind_eq_some_iff.mp hr
        obtain ⟨a5, e6, hr⟩ := hr
        subst e6
        replace hr := Option.bind_eq_some_iff.mp hr
        obtain ⟨v7, e8, hr⟩ := hr
        refine rr_ldI C dX9_coinsDue_27 e8 ?_
        refine rr_iload_n (i := 1) C dX9_coinsDue_28 rfl rfl ?_
        refine rr_icmp_ne (tgt := 54) C dX9_coinsDue_29 (by decide) (fun c29_ => ?_) (fun c29_ => ?_)
        · replace hr := (if_neg c29_).symm.trans hr
          refine rr_iinc (v := l5 + 1) C dX9_coinsDue_54 rfl rfl ?_
          show WW W0 G 6 _ _ _ 57 [some (.ref l0), some (.int l1), some (.int l2), some (.long l3), none, some (.int (l5 + 1))] [] h n _ _
          refine rr_goto (tgt := 5) C dX9_coinsDue_57 (by decide) ?_
          exact rr_keep [true, true, true, true, false, true] (ih_ _ _ hr hx0)
        · replace hr := (if_pos c29_).symm.trans hr
          refine rr_aload_n (i := 0) C dX9_coinsDue_32 rfl rfl ?_
          replace hr := Option.bind_eq_some_iff.mp hr
          obtain ⟨v9, e10, hr⟩ := hr
          refine rr_rdR C dX9_coinsDue_33 fl_X9_18 e10 ?_
          refine rr_iload C dX9_coinsDue_36 rfl ?_
          replace hr := Option.bind_eq_some_iff.mp hr
          obtain ⟨a11, e12, hr⟩ := hr
          subst e12
          replace hr := Option.bind_eq_some_iff.mp hr
          obtain ⟨v13, e14, hr⟩ := hr
          refine rr_ldI C dX9_coinsDue_38 e14 ?_
          refine rr_iload_n (i := 2) C dX9_coinsDue_39 rfl rfl ?_
          refine rr_icmp_ne (tgt := 54) C dX9_coinsDue_40 (by decide) (fun c40_ => ?_) (fun c40_ => ?_)
          · replace hr := (if_neg c40_).symm.trans hr
            refine rr_iinc (v := l5 + 1) C dX9_coinsDue_54 rfl rfl ?_
            show WW W0 G 6 _ _ _ 57 [some (.ref l0), some (.int l1), some (.int l2), some (.long l3), none, some (.int (l5 + 1))] [] h n _ _
            refine rr_goto (tgt := 5) C dX9_coinsDue_57 (by decide) ?_
            exact rr_keep [true, true, true, true, false, true] (ih_ _ _ hr hx0)
          · replace hr := (if_pos c40_).symm.trans hr
            refine rr_lload_n (i := 3) C dX9_coinsDue_43 rfl rfl ?_
            refine rr_aload_n (i := 0) C dX9_coinsDue_44 rfl rfl ?_
            replace hr := Option.bind_eq_some_iff.mp hr
            obtain ⟨v15, e16, hr⟩ := hr
            refine rr_rdR C dX9_coinsDue_45 fl_X9_15 e16 ?_
            refine rr_iload C dX9_coinsDue_48 rfl ?_
            replace hr := Option.bind_eq_some_iff.mp hr
            obtain ⟨a17, e18, hr⟩ := hr
            subst e18
            replace hr := Option.bind_eq_some_iff.mp hr
            obtain ⟨v19, e20, hr⟩ := hr
            refine rr_ldI C dX9_coinsDue_50 e20 ?_
            refine rr_i2l C dX9_coinsDue_51 ?_
            refine rr_ladd C dX9_coinsDue_52 ?_
            refine rr_lstore_n (i := 3) C dX9_coinsDue_53 rfl (by decide) ?_
            show WW W0 G 6 _ _ _ 54 [some (.ref l0), some (.int l1), some (.int l2), some (.long (l3 + (Int32.toInt64 v19))), none, some (.int l5)] [] h n _ _
            refine rr_iinc (v := l5 + 1) C dX9_coinsDue_54 rfl rfl ?_
            show WW W0 G 6 _ _ _ 57 [some (.ref l0), some (.int l1), some (.int l2), some (.long (l3 + (Int32.toInt64 v19))), none, some (.int (l5 + 1))] [] h n _ _
            refine rr_goto (tgt := 5) C dX9_coinsDue_57 (by decide) ?_
            exact rr_keep [true, true, true, true, false, true] (ih_ _ _ hr hx0)
set_option maxRecDepth 100000 in
set_option maxHeartbeats 4000000 in
theorem c_X9_coinsDue {K : Nat} {G : mm_G} {l : Launch} {h : mm_H} {n : Nat} (l0 : Nat) (l1 : Int32) (l2 : Int32) {r_ : Int64} (hn : 48 ≤ n) (hr : q_X9_coinsDue K h n l0 l1 l2 = some r_) : Sp G l yX9_coinsDue cX9_coinsDue 6 (some .long) 0 0 0 [.ref l0, .int l1, .int l2] h n (fun v h' n' => v = some (.long r_) ∧ h' = h ∧ n' = n) := by
  refine Sp_of (by decide +kernel) (Nat.le_of_ble_eq_true rfl) hn ?_
  intro W0 hwl C
  subst hwl
  unfold q_X9_coinsDue at hr
  show WW W0 G 6 0 0 _ 0 [some (.ref l0), some (.int l1), some (.int l2), none, none, none] [] h n 0 0
  refine rr_lconst (v := 0) C dX9_coinsDue_0 (by decide) ?_
  refine rr_lstore_n (i := 3) C dX9_coinsDue_1 rfl (by decide) ?_
  show WW W0 G 6 _ _ _ 2 [some (.ref l0), some (.int l1), some (.int l2), some (.long 0), none, none] [] h n _ _
  refine rr_iconst (v := 0) C dX9_coinsDue_2 (by decide) ?_
  refine rr_istore C dX9_coinsDue_3 (by decide) ?_
  show WW W0 G 6 _ _ _ 5 [some (.ref l0), some (.int l1), some (.int l2), some (.long 0), none, some (.int 0)] [] h n _ _
  replace hr := Option.bind_eq_some_iff.mp hr
  obtain ⟨v22, e23, hr⟩ := hr
  refine rr_keep [true, true, true, true, false, true] (w_X9_coinsDue_5 C (by omega) l0 l1 l2 K 0 0 e23 ?_)
  show WW W0 G 6 _ _ _ 60 [none, none, none, some (.long v22), none, none] [] h n _ _
  refine rr_lload_n (i := 3) C dX9_coinsDue_60 rfl rfl ?_
  obtain rfl := Option.some.inj hr
  exact rr_lret C dX9_coinsDue_61 rfl ⟨rfl, rfl, rfl⟩
def q_X9_coinsOf (K : Nat) (h : mm_H) (n : Nat) (l0 : Nat) (l1 : Int32) : Option (Int32) :=
  (ckq h n l0 8).bind fun u1 =>
  (q_X9_isThere K h n l0 l1).bind fun v3 =>
  if v3 = 0 then
    some 0
  else
  (rdR h n l0 8 1).bind fun v5 =>
  v5.bind fun a7 =>
  (ldI h n a7 l1).bind fun v9 =>
  some v9
set_option maxRecDepth 100000 in
set_option maxHeartbeats 4000000 in
theorem c_X9_coinsOf {K : Nat} {G : mm_G} {l : Launch} {h : mm_H} {n : Nat} (l0 : Nat) (l1 : Int32) {r_ : Int32} (hn : 48 ≤ n) (hr : q_X9_coinsOf K h n l0 l1 = some r_) : Sp G l yX9_coinsOf cX9_coinsOf 2 (some .int) 1 0 0 [.ref l0, .int l1] h n (fun v h' n' => v = some (.int r_) ∧ h' = h ∧ n' = n) := by
  refine Sp_of (by decide +kernel) (Nat.le_of_ble_eq_true rfl) hn ?_
  intro W0 hwl C
  subst hwl
  unfold q_X9_coinsOf at hr
  show WW W0 G 2 0 0 _ 0 [some (.ref l0), some (.int l1)] [] h n 0 0
  refine rr_aload_n (i := 0) C dX9_coinsOf_0 rfl rfl ?_
  refine rr_iload_n (i := 1) C dX9_coinsOf_1 rfl rfl ?_
  replace hr := Option.bind_eq_some_iff.mp hr
  obtain ⟨u1, e2, hr⟩ := hr
  replace hr := Option.bind_eq_some_iff.mp hr
  obtain ⟨v3, e4, hr⟩ := hr
  refine rr_callVq (as := [.int l1]) (st := []) (mc' := 0) (ms' := 0) C dX9_coinsOf_2 iv_X9_28 (by decide) e2 rfl (Nat.le_of_ble_eq_true rfl) (c_X9_isThere l0 l1 (by omega) e4) (fun v_ h_ n_ q_ => ?_)
  obtain ⟨q1_, q2_, q3_⟩ := q_
  subst v_; subst h_; subst n_
  show WW W0 G 2 _ _ _ 5 [some (.ref l0), some (.int l1)] [.int v3] h n _ _
  refine rr_if_eq (tgt := 17) C dX9_coinsOf_5 (by decide) (fun c5_ => ?_) (fun c5_ => ?_)
  · replace hr := (if_pos c5_).symm.trans hr
    refine rr_iconst (v := 0) C dX9_coinsOf_17 (by decide) ?_
    obtain rfl := Option.some.inj hr
    exact rr_iret (ty := .int) C dX9_coinsOf_18 rfl rfl ⟨rfl, rfl, rfl⟩
  · replace hr := (if_neg c5_).symm.trans hr
    refine rr_aload_n (i := 0) C dX9_coinsOf_8 rfl rfl ?_
    replace hr := Option.bind_eq_some_iff.mp hr
    obtain ⟨v5, e6, hr⟩ := hr
    refine rr_rdR C dX9_coinsOf_9 fl_X9_15 e6 ?_
    refine rr_iload_n (i := 1) C dX9_coinsOf_12 rfl rfl ?_
    replace hr := Option.bind_eq_some_iff.mp hr
    obtain ⟨a7, e8, hr⟩ := hr
    subst e8
    replace hr := Option.bind_eq_some_iff.mp hr
    obtain ⟨v9, e10, hr⟩ := hr
    refine rr_ldI C dX9_coinsOf_13 e10 ?_
    refine rr_goto (tgt := 18) C dX9_coinsOf_14 (by decide) ?_
    obtain rfl := Option.some.inj hr
    exact rr_iret (ty := .int) C dX9_coinsOf_18 rfl rfl ⟨rfl, rfl, rfl⟩
def q_X9_dueOf (K : Nat) (h : mm_H) (n : Nat) (l0 : Nat) (l1 : Int32) : Option (Int32) :=
  (ckq h n l0 8).bind fun u1 =>
  (q_X9_isThere K h n l0 l1).bind fun v3 =>
  if v3 = 0 then
    some (-1)
  else
  (rdR h n l0 8 2).bind fun v5 =>
  v5.bind fun a7 =>
  (ldI h n a7 l1).bind fun v9 =>
  some v9
set_option maxRecDepth 100000 in
set_option maxHeartbeats 4000000 in
theorem c_X9_dueOf {K : Nat} {G : mm_G} {l : Launch} {h : mm_H} {n : Nat} (l0 : Nat) (l1 : Int32) {r_ : Int32} (hn : 48 ≤ n) (hr : q_X9_dueOf K h n l0 l1 = some r_) : Sp G l yX9_dueOf cX9_dueOf 2 (some .int) 1 0 0 [.ref l0, .int l1] h n (fun v h' n' => v = some (.int r_) ∧ h' = h ∧ n' = n) := by
  refine Sp_of (by decide +kernel) (Nat.le_of_ble_eq_true rfl) hn ?_
  intro W0 hwl C
  subst hwl
  unfold q_X9_dueOf at hr
  show WW W0 G 2 0 0 _ 0 [some (.ref l0), some (.int l1)] [] h n 0 0
  refine rr_aload_n (i := 0) C dX9_dueOf_0 rfl rfl ?_
  refine rr_iload_n (i := 1) C dX9_dueOf_1 rfl rfl ?_
  replace hr := Option.bind_eq_some_iff.mp hr
  obtain ⟨u1, e2, hr⟩ := hr
  replace hr := Option.bind_eq_some_iff.mp hr
  obtain ⟨v3, e4, hr⟩ := hr
  refine rr_callVq (as := [.int l1]) (st := []) (mc' := 0) (ms' := 0) C dX9_dueOf_2 iv_X9_28 (by decide) e2 rfl (Nat.le_of_ble_eq_true rfl) (c_X9_isThere l0 l1 (by omega) e4) (fun v_ h_ n_ q_ => ?_)
  obtain ⟨q1_, q2_, q3_⟩ := q_
  subst v_; subst h_; subst n_
  show WW W0 G 2 _ _ _ 5 [some (.ref l0), some (.int l1)] [.int v3] h n _ _
  refine rr_if_eq (tgt := 17) C dX9_dueOf_5 (by decide) (fun c5_ => ?_) (fun c5_ => ?_)
  · replace hr := (if_pos c5_).symm.trans hr
    refine rr_iconst (v := (-1)) C dX9_dueOf_17 (by decide) ?_
    obtain rfl := Option.some.inj hr
    exact rr_iret (ty := .int) C dX9_dueOf_18 rfl rfl ⟨rfl, rfl, rfl⟩
  · replace hr := (if_neg c5_).symm.trans hr
    refine rr_aload_n (i := 0) C dX9_dueOf_8 rfl rfl ?_
    replace hr := Option.bind_eq_some_iff.mp hr
    obtain ⟨v5, e6, hr⟩ := hr
    refine rr_rdR C dX9_dueOf_9 fl_X9_18 e6 ?_
    refine rr_iload_n (i := 1) C dX9_dueOf_12 rfl rfl ?_
    replace hr := Option.bind_eq_some_iff.mp hr
    obtain ⟨a7, e8, hr⟩ := hr
    subst e8
    replace hr := Option.bind_eq_some_iff.mp hr
    obtain ⟨v9, e10, hr⟩ := hr
    refine rr_ldI C dX9_dueOf_13 e10 ?_
    refine rr_goto (tgt := 18) C dX9_dueOf_14 (by decide) ?_
    obtain rfl := Option.some.inj hr
    exact rr_iret (ty := .int) C dX9_dueOf_18 rfl rfl ⟨rfl, rfl, rfl⟩
def lp_X7_takenBackOf_34 (K : Nat) (h : mm_H) (n : Nat) (l0 : Nat) (l2 : Int32) (l3 : Int64) : Nat → Int64 → Int64 → Int32 → Option (Int64)
  | 0, _, _, _ => none
  | k_ + 1, l5, l7, l9 =>
    if l2 < l9 then
      some (l7)
    else
    (ckq h n l0 7).bind fun u28 =>
    (q_X7_numberAt K h n l0 l9 6).bind fun v30 =>
    (q_X8_hundredths K h n l3 (Int32.toInt64 v30)).bind fun v32 =>
    lp_X7_takenBackOf_34 K h n l0 l2 l3 k_ (l5 - (j_min l5 v32)) (j_min l5 v32) (l9 + 1)
def q_X7_takenBackOf (K : Nat) (h : mm_H) (n : Nat) (l0 : Nat) (l1 : Int32) (l2 : Int32) : Option (Int64) :=
  (rdR h n l0 7 0).bind fun v1 =>
  v1.bind fun a3 =>
  (rdR h n a3 4 2).bind fun v5 =>
  v5.bind fun a7 =>
  (ckq h n a7 8).bind fun u9 =>
  (q_X9_coinsOf K h n a7 l1).bind fun v11 =>
  (rdR h n l0 7 0).bind fun v15 =>
  v15.bind fun a17 =>
  (rdR h n a17 4 2).bind fun v19 =>
  v19.bind fun a21 =>
  (ckq h n a21 8).bind fun u23 =>
  (q_X9_dueOf K h n a21 l1).bind fun v25 =>
  (lp_X7_takenBackOf_34 K h n l0 l2 (Int32.toInt64 v11) K (Int32.toInt64 v11) 0 (v25 + 1)).bind fun v36 =>
  some v36
set_option maxRecDepth 100000 in
set_option maxHeartbeats 4000000 in
theorem w_X7_takenBackOf_34 {K : Nat} {W0 : mm_X} {G : mm_G} {mc ms kc ks : Nat} {Q_ : State → Prop} {h : mm_H} {n : Nat} (C : mm_C W0 G cX7_takenBackOf yX7_takenBackOf.cls 10 mc ms (some .long) 2 yX7_takenBackOf.name) (hn : 48 ≤ n) (l0 : Nat) (l2 : Int32) (l3 : Int64) : ∀ (k_ : Nat) (l5 : Int64) (l7 : Int64) (l9 : Int32) {r_ : Int64} (hr : lp_X7_takenBackOf_34 K h n l0 l2 l3 k_ l5 l7 l9 = some r_) (hx0 : WW W0 G 10 mc ms Q_ 73 [none, none, none, none, none, none, none, some (.long r_), none, none] [] h n kc ks), WW W0 G 10 mc ms Q_ 34 [some (.ref l0), none, some (.int l2), some (.long l3), none, some (.long l5), none, some (.long l7), none, some (.int l9)] [] h n kc ks := by
  intro k_
  induction k_ with
  | zero =>
    intro l5 l7 l9 r_ hr
    cases hr
  | succ k_ ih_ =>
    intro l5 l7 l9 r_ hr hx0
    unfold lp_X7_takenBackOf_34 at hr
    refine rr_iload C dX7_takenBackOf_34 rfl ?_
    refine rr_iload_n (i := 2) C dX7_takenBackOf_36 rfl rfl ?_
    refine rr_icmp_gt (tgt := 73) C dX7_takenBackOf_37 (by decide) (fun c37_ => ?_) (fun c37_ => ?_)
    · replace hr := (if_pos c37_).symm.trans hr
      obtain rfl := Option.some.inj hr
      exact rr_keep [false, false, false, false, false, false, false, true, false, false] (hx0)
    · replace hr := (if_neg c37_).symm.trans hr
      refine rr_lload C dX7_takenBackOf_40 rfl ?_
      refine rr_lload_n (i := 3) C dX7_takenBackOf_42 rfl rfl ?_
      refine rr_aload_n (i := 0) C dX7_takenBackOf_43 rfl rfl ?_
      refine rr_iload C dX7_takenBackOf_44 rfl ?_
      refine rr_bipush (v := 6) C dX7_takenBackOf_46 (by decide) ?_
      replace hr := Option.bind_eq_some_iff.mp hr
      obtain ⟨u28, e29, hr⟩ := hr
      replace hr := Option.bind_eq_some_iff.mp hr
      obtain ⟨v30, e31, hr⟩ := hr
      refine rr_callVq (as := [.int l9, .int 6]) (st := [.long l3, .long l5]) (mc' := 0) (ms' := 0) C dX7_takenBackOf_48 iv_X7_76 (by decide) e29 rfl (Nat.le_of_ble_eq_true rfl) (c_X7_numberAt l0 l9 6 (by omega) e31) (fun v_ h_ n_ q_ => ?_)
      obtain ⟨q1_, q2_, q3_⟩ := q_
      subst v_; subst h_; subst n_
      show WW W0 G 10 _ _ _ 51 [some (.ref l0), none, some (.int l2), some (.long l3), none, some (.long l5), none, some (.long l7), none, some (.int l9)] [.int v30, .long l3, .long l5] h n _ _
      refine rr_i2l C dX7_takenBackOf_51 ?_
      replace hr := Option.bind_eq_some_iff.mp hr
      obtain ⟨v32, e33, hr⟩ := hr
      refine rr_callS (as := [.long l3, .long (Int32.toInt64 v30)]) (st := [.long l5]) (mc' := 0) (ms' := 0) C dX7_takenBackOf_52 it_X7_80 (by decide) (Nat.le_of_ble_eq_true rfl) (c_X8_hundredths l3 (Int32.toInt64 v30) (by omega) e33) (fun v_ h_ n_ q_ => ?_)
      obtain ⟨q1_, q2_, q3_⟩ := q_
      subst v_; subst h_; subst n_
      show WW W0 G 10 _ _ _ 55 [some (.ref l0), none, some (.int l2), some (.long l3), none, some (.long l5), none, some (.long l7), none, some (.int l9)] [.long v32, .long l5] h n _ _
      refine rr_mmin_long C dX7_takenBackOf_55 ma_X7_256 (by decide) (Nat.le_of_ble_eq_true rfl) ?_
      refine rr_lstore C dX7_takenBackOf_58 (by decide) ?_
      show WW W0 G 10 _ _ _ 60 [some (.ref l0), none, some (.int l2), some (.long l3), none, some (.long l5), none, some (.long (j_min l5 v32)), none, some (.int l9)] [] h n _ _
      refine rr_lload C dX7_takenBackOf_60 rfl ?_
      refine rr_lload C dX7_takenBackOf_62 rfl ?_
      refine rr_lsub C dX7_takenBackOf_64 ?_
      refine rr_lstore C dX7_takenBackOf_65 (by decide) ?_
      show WW W0 G 10 _ _ _ 67 [some (.ref l0), none, some (.int l2), some (.long l3), none, some (.long (l5 - (j_min l5 v32))), none, some (.long (j_min l5 v32)), none, some (.int l9)] [] h n _ _
      refine rr_iinc (v := l9 + 1) C dX7_takenBackOf_67 rfl rfl ?_
      show WW W0 G 10 _ _ _ 70 [some (.ref l0), none, some (.int l2), some (.long l3), none, some (.long (l5 - (j_min l5 v32))), none, some (.long (j_min l5 v32)), none, some (.int (l9 + 1))] [] h n _ _
      refine rr_goto (tgt := 34) C dX7_takenBackOf_70 (by decide) ?_
      exact rr_keep [true, false, true, true, false, true, false, true, false, true] (ih_ _ _ _ hr hx0)
set_option maxRecDepth 100000 in
set_option maxHeartbeats 4000000 in
theorem c_X7_takenBackOf {K : Nat} {G : mm_G} {l : Launch} {h : mm_H} {n : Nat} (l0 : Nat) (l1 : Int32) (l2 : Int32) {r_ : Int64} (hn : 48 ≤ n) (hr : q_X7_takenBackOf K h n l0 l1 l2 = some r_) : Sp G l yX7_takenBackOf cX7_takenBackOf 10 (some .long) 2 0 0 [.ref l0, .int l1, .int l2] h n (fun v h' n' => v = some (.long r_) ∧ h' = h ∧ n' = n) := by
  refine Sp_of (by decide +kernel) (Nat.le_of_ble_eq_true rfl) hn ?_
  intro W0 hwl C
  subst hwl
  unfold q_X7_takenBackOf at hr
  show WW W0 G 10 0 0 _ 0 [some (.ref l0), some (.int l1), some (.int l2), none, none, none, none, none, none, none] [] h n 0 0
  refine rr_aload_n (i := 0) C dX7_takenBackOf_0 rfl rfl ?_
  replace hr := Option.bind_eq_some_iff.mp hr
  obtain ⟨v1, e2, hr⟩ := hr
  refine rr_rdR C dX7_takenBackOf_1 fl_X7_46 e2 ?_
  replace hr := Option.bind_eq_some_iff.mp hr
  obtain ⟨a3, e4, hr⟩ := hr
  subst e4
  replace hr := Option.bind_eq_some_iff.mp hr
  obtain ⟨v5, e6, hr⟩ := hr
  refine rr_rdR C dX7_takenBackOf_4 fl_X7_86 e6 ?_
  refine rr_iload_n (i := 1) C dX7_takenBackOf_7 rfl rfl ?_
  replace hr := Option.bind_eq_some_iff.mp hr
  obtain ⟨a7, e8, hr⟩ := hr
  subst e8
  replace hr := Option.bind_eq_some_iff.mp hr
  obtain ⟨u9, e10, hr⟩ := hr
  replace hr := Option.bind_eq_some_iff.mp hr
  obtain ⟨v11, e12, hr⟩ := hr
  refine rr_callVq (as := [.int l1]) (st := []) (mc' := 0) (ms' := 0) C dX7_takenBackOf_8 iv_X7_250 (by decide) e10 rfl (Nat.le_of_ble_eq_true rfl) (c_X9_coinsOf a7 l1 (by omega) e12) (fun v_ h_ n_ q_ => ?_)
  obtain ⟨q1_, q2_, q3_⟩ := q_
  subst v_; subst h_; subst n_
  show WW W0 G 10 _ _ _ 11 [some (.ref l0), some (.int l1), some (.int l2), none, none, none, none, none, none, none] [.int v11] h n _ _
  refine rr_i2l C dX7_takenBackOf_11 ?_
  refine rr_lstore_n (i := 3) C dX7_takenBackOf_12 rfl (by decide) ?_
  show WW W0 G 10 _ _ _ 13 [some (.ref l0), some (.int l1), some (.int l2), some (.long (Int32.toInt64 v11)), none, none, none, none, none, none] [] h n _ _
  refine rr_lload_n (i := 3) C dX7_takenBackOf_13 rfl rfl ?_
  refine rr_lstore C dX7_takenBackOf_14 (by decide) ?_
  show WW W0 G 10 _ _ _ 16 [some (.ref l0), some (.int l1), some (.int l2), some (.long (Int32.toInt64 v11)), none, some (.long (Int32.toInt64 v11)), none, none, none, none] [] h n _ _
  refine rr_lconst (v := 0) C dX7_takenBackOf_16 (by decide) ?_
  refine rr_lstore C dX7_takenBackOf_17 (by decide) ?_
  show WW W0 G 10 _ _ _ 19 [some (.ref l0), some (.int l1), some (.int l2), some (.long (Int32.toInt64 v11)), none, some (.long (Int32.toInt64 v11)), none, some (.long 0), none, none] [] h n _ _
  refine rr_aload_n (i := 0) C dX7_takenBackOf_19 rfl rfl ?_
  replace hr := Option.bind_eq_some_iff.mp hr
  obtain ⟨v15, e16, hr⟩ := hr
  refine rr_rdR C dX7_takenBackOf_20 fl_X7_46 e16 ?_
  replace hr := Option.bind_eq_some_iff.mp hr
  obtain ⟨a17, e18, hr⟩ := hr
  subst e18
  replace hr := Option.bind_eq_some_iff.mp hr
  obtain ⟨v19, e20, hr⟩ := hr
  refine rr_rdR C dX7_takenBackOf_23 fl_X7_86 e20 ?_
  refine rr_iload_n (i := 1) C dX7_takenBackOf_26 rfl rfl ?_
  replace hr := Option.bind_eq_some_iff.mp hr
  obtain ⟨a21, e22, hr⟩ := hr
  subst e22
  replace hr := Option.bind_eq_some_iff.mp hr
  obtain ⟨u23, e24, hr⟩ := hr
  replace hr := Option.bind_eq_some_iff.mp hr
  obtain ⟨v25, e26, hr⟩ := hr
  refine rr_callVq (as := [.int l1]) (st := []) (mc' := 0) (ms' := 0) C dX7_takenBackOf_27 iv_X7_253 (by decide) e24 rfl (Nat.le_of_ble_eq_true rfl) (c_X9_dueOf a21 l1 (by omega) e26) (fun v_ h_ n_ q_ => ?_)
  obtain ⟨q1_, q2_, q3_⟩ := q_
  subst v_; subst h_; subst n_
  show WW W0 G 10 _ _ _ 30 [some (.ref l0), some (.int l1), some (.int l2), some (.long (Int32.toInt64 v11)), none, some (.long (Int32.toInt64 v11)), none, some (.long 0), none, none] [.int v25] h n _ _
  refine rr_iconst (v := 1) C dX7_takenBackOf_30 (by decide) ?_
  refine rr_iadd C dX7_takenBackOf_31 ?_
  refine rr_istore C dX7_takenBackOf_32 (by decide) ?_
  show WW W0 G 10 _ _ _ 34 [some (.ref l0), some (.int l1), some (.int l2), some (.long (Int32.toInt64 v11)), none, some (.long (Int32.toInt64 v11)), none, some (.long 0), none, some (.int (v25 + 1))] [] h n _ _
  replace hr := Option.bind_eq_some_iff.mp hr
  obtain ⟨v36, e37, hr⟩ := hr
  refine rr_keep [true, false, true, true, false, true, false, true, false, true] (w_X7_takenBackOf_34 C (by omega) l0 l2 (Int32.toInt64 v11) K (Int32.toInt64 v11) 0 (v25 + 1) e37 ?_)
  show WW W0 G 10 _ _ _ 73 [none, none, none, none, none, none, none, some (.long v36), none, none] [] h n _ _
  refine rr_lload C dX7_takenBackOf_73 rfl ?_
  obtain rfl := Option.some.inj hr
  exact rr_lret C dX7_takenBackOf_75 rfl ⟨rfl, rfl, rfl⟩
def lp_X7_takenBackIn_5 (K : Nat) (h : mm_H) (n : Nat) (l0 : Nat) (l1 : Int32) : Nat → Int64 → Int32 → Option (Int64)
  | 0, _, _ => none
  | k_ + 1, l2, l4 =>
    (rdR h n l0 7 0).bind fun v1 =>
    v1.bind fun a3 =>
    (rdR h n a3 4 2).bind fun v5 =>
    v5.bind fun a7 =>
    (rdI h n a7 8 4).bind fun v9 =>
    if v9 ≤ l4 then
      some (l2)
    else
    (rdR h n l0 7 0).bind fun v11 =>
    v11.bind fun a13 =>
    (rdR h n a13 4 2).bind fun v15 =>
    (rdI h n l0 7 11).bind fun v17 =>
    v15.bind fun a19 =>
    (ckq h n a19 8).bind fun u21 =>
    (q_X9_isLate K h n a19 l4 v17 l1).bind fun v23 =>
    if v23 = 0 then
      lp_X7_takenBackIn_5 K h n l0 l1 k_ l2 (l4 + 1)
    else
    (ckq h n l0 7).bind fun u25 =>
    (q_X7_takenBackOf K h n l0 l4 l1).bind fun v27 =>
    lp_X7_takenBackIn_5 K h n l0 l1 k_ (l2 + v27) (l4 + 1)
def q_X7_takenBackIn (K : Nat) (h : mm_H) (n : Nat) (l0 : Nat) (l1 : Int32) : Option (Int64) :=
  (lp_X7_takenBackIn_5 K h n l0 l1 K 0 0).bind fun v30 =>
  some v30
set_option maxRecDepth 100000 in
set_option maxHeartbeats 4000000 in
theorem w_X7_takenBackIn_5 {K : Nat} {W0 : mm_X} {G : mm_G} {mc ms kc ks : Nat} {Q_ : State → Prop} {h : mm_H} {n : Nat} (C : mm_C W0 G cX7_takenBackIn yX7_takenBackIn.cls 5 mc ms (some .long) 3 yX7_takenBackIn.name) (hn : 48 ≤ n) (l0 : Nat) (l1 : Int32) : ∀ (k_ : Nat) (l2 : Int64) (l4 : Int32) {r_ : Int64} (hr : lp_X7_takenBackIn_5 K h n l0 l1 k_ l2 l4 = some r_) (hx0 : WW W0 G 5 mc ms Q_ 56 [none, none, some (.long r_), none, none] [] h n kc ks), WW W0 G 5 mc ms Q_ 5 [some (.ref l0), some (.int l1), some (.long l2), none, some (.int l4)] [] h n kc ks := by
  intro k_
  induction k_ with
  | zero =>
    intro l2 l4 r_ hr
    cases hr
  | succ k_ ih_ =>
    intro l2 l4 r_ hr hx0
    unfold lp_X7_takenBackIn_5 at hr
    refine rr_iload C dX7_takenBackIn_5 rfl ?_
    refine rr_aload_n (i := 0) C dX7_takenBackIn_7 rfl rfl ?_
    replace hr := Option.bind_eq_some_iff.mp hr
    obtain ⟨v1, e2, hr⟩ := hr
    refine rr_rdR C dX7_takenBackIn_8 fl_X7_46 e2 ?_
    replace hr := Option.bind_eq_some_iff.mp hr
    obtain ⟨a3, e4, hr⟩ := hr
    subst e4
    replace hr := Option.bind_eq_some_iff.mp hr
    obtain ⟨v5, e6, hr⟩ := hr
    refine rr_rdR C dX7_takenBackIn_11 fl_X7_86 e6 ?_
    replace hr := Option.bind_eq_some_iff.mp hr
    obtain ⟨a7, e8, hr⟩ := hr
    subst e8
    replace hr := Option.bind_eq_some_iff.mp hr
    obtain ⟨v9, e10, hr⟩ := hr
    refine rr_rdI C dX7_takenBackIn_14 fl_X7_240 e10 ?_
    refine rr_icmp_ge (tgt := 56) C dX7_takenBackIn_17 (by decide) (fun c17_ => ?_) (fun c17_ => ?_)
    · replace hr := (if_pos c17_).symm.trans hr
      obtain rfl := Option.some.inj hr
      exact rr_keep [false, false, true, false, false] (hx0)
    · replace hr := (if_neg c17_).symm.trans hr
      refine rr_aload_n (i := 0) C dX7_takenBackIn_20 rfl rfl ?_
      replace hr := Option.bind_eq_some_iff.mp hr
      obtain ⟨v11, e12, hr⟩ := hr
      refine rr_rdR C dX7_takenBackIn_21 fl_X7_46 e12 ?_
      replace hr := Option.bind_eq_some_iff.mp hr
      obtain ⟨a13, e14, hr⟩ := hr
      subst e14
      replace hr := Option.bind_eq_some_iff.mp hr
      obtain ⟨v15, e16, hr⟩ := hr
      refine rr_rdR C dX7_takenBackIn_24 fl_X7_86 e16 ?_
      refine rr_iload C dX7_takenBackIn_27 rfl ?_
      refine rr_aload_n (i := 0) C dX7_takenBackIn_29 rfl rfl ?_
      replace hr := Option.bind_eq_some_iff.mp hr
      obtain ⟨v17, e18, hr⟩ := hr
      refine rr_rdI C dX7_takenBackIn_30 fl_X7_59 e18 ?_
      refine rr_iload_n (i := 1) C dX7_takenBackIn_33 rfl rfl ?_
      replace hr := Option.bind_eq_some_iff.mp hr
      obtain ⟨a19, e20, hr⟩ := hr
      subst e20
      replace hr := Option.bind_eq_some_iff.mp hr
      obtain ⟨u21, e22, hr⟩ := hr
      replace hr := Option.bind_eq_some_iff.mp hr
      obtain ⟨v23, e24, hr⟩ := hr
      refine rr_callVq (as := [.int l4, .int v17, .int l1]) (st := []) (mc' := 0) (ms' := 0) C dX7_takenBackIn_34 iv_X7_243 (by decide) e22 rfl (Nat.le_of_ble_eq_true rfl) (c_X9_isLate a19 l4 v17 l1 (by omega) e24) (fun v_ h_ n_ q_ => ?_)
      obtain ⟨q1_, q2_, q3_⟩ := q_
      subst v_; subst h_; subst n_
      show WW W0 G 5 _ _ _ 37 [some (.ref l0), some (.int l1), some (.long l2), none, some (.int l4)] [.int v23] h n _ _
      refine rr_if_eq (tgt := 50) C dX7_takenBackIn_37 (by decide) (fun c37_ => ?_) (fun c37_ => ?_)
      · replace hr := (if_pos c37_).symm.trans hr
        refine rr_iinc (v := l4 + 1) C dX7_takenBackIn_50 rfl rfl ?_
        show WW W0 G 5 _ _ _ 53 [some (.ref l0), some (.int l1), some (.long l2), none, some (.int (l4 + 1))] [] h n _ _
        refine rr_goto (tgt := 5) C dX7_takenBackIn_53 (by decide) ?_
        exact rr_keep [true, true, true, false, true] (ih_ _ _ hr hx0)
      · replace hr := (if_neg c37_).symm.trans hr
        refine rr_lload_n (i := 2) C dX7_takenBackIn_40 rfl rfl ?_
        refine rr_aload_n (i := 0) C dX7_takenBackIn_41 rfl rfl ?_
        refine rr_iload C dX7_takenBackIn_42 rfl ?_
        refine rr_iload_n (i := 1) C dX7_takenBackIn_44 rfl rfl ?_
        replace hr := Option.bind_eq_some_iff.mp hr
        obtain ⟨u25, e26, hr⟩ := hr
        replace hr := Option.bind_eq_some_iff.mp hr
        obtain ⟨v27, e28, hr⟩ := hr
        refine rr_callVq (as := [.int l4, .int l1]) (st := [.long l2]) (mc' := 0) (ms' := 0) C dX7_takenBackIn_45 iv_X7_247 (by decide) e26 rfl (Nat.le_of_ble_eq_true rfl) (c_X7_takenBackOf l0 l4 l1 (by omega) e28) (fun v_ h_ n_ q_ => ?_)
        obtain ⟨q1_, q2_, q3_⟩ := q_
        subst v_; subst h_; subst n_
        show WW W0 G 5 _ _ _ 48 [some (.ref l0), some (.int l1), some (.long l2), none, some (.int l4)] [.long v27, .long l2] h n _ _
        refine rr_ladd C dX7_takenBackIn_48 ?_
        refine rr_lstore_n (i := 2) C dX7_takenBackIn_49 rfl (by decide) ?_
        show WW W0 G 5 _ _ _ 50 [some (.ref l0), some (.int l1), some (.long (l2 + v27)), none, some (.int l4)] [] h n _ _
        refine rr_iinc (v := l4 + 1) C dX7_takenBackIn_50 rfl rfl ?_
        show WW W0 G 5 _ _ _ 53 [some (.ref l0), some (.int l1), some (.long (l2 + v27)), none, some (.int (l4 + 1))] [] h n _ _
        refine rr_goto (tgt := 5) C dX7_takenBackIn_53 (by decide) ?_
        exact rr_keep [true, true, true, false, true] (ih_ _ _ hr hx0)
set_option maxRecDepth 100000 in
set_option maxHeartbeats 4000000 in
theorem c_X7_takenBackIn {K : Nat} {G : mm_G} {l : Launch} {h : mm_H} {n : Nat} (l0 : Nat) (l1 : Int32) {r_ : Int64} (hn : 48 ≤ n) (hr : q_X7_takenBackIn K h n l0 l1 = some r_) : Sp G l yX7_takenBackIn cX7_takenBackIn 5 (some .long) 3 0 0 [.ref l0, .int l1] h n (fun v h' n' => v = some (.long r_) ∧ h' = h ∧ n' = n) := by
  refine Sp_of (by decide +kernel) (Nat.le_of_ble_eq_true rfl) hn ?_
  intro W0 hwl C
  subst hwl
  unfold q_X7_takenBackIn at hr
  show WW W0 G 5 0 0 _ 0 [some (.ref l0), some (.int l1), none, none, none] [] h n 0 0
  refine rr_lconst (v := 0) C dX7_takenBackIn_0 (by decide) ?_
  refine rr_lstore_n (i := 2) C dX7_takenBackIn_1 rfl (by decide) ?_
  show WW W0 G 5 _ _ _ 2 [some (.ref l0), some (.int l1), some (.long 0), none, none] [] h n _ _
  refine rr_iconst (v := 0) C dX7_takenBackIn_2 (by decide) ?_
  refine rr_istore C dX7_takenBackIn_3 (by decide) ?_
  show WW W0 G 5 _ _ _ 5 [some (.ref l0), some (.int l1), some (.long 0), none, some (.int 0)] [] h n _ _
  replace hr := Option.bind_eq_some_iff.mp hr
  obtain ⟨v30, e31, hr⟩ := hr
  refine rr_keep [true, true, true, false, true] (w_X7_takenBackIn_5 C (by omega) l0 l1 K 0 0 e31 ?_)
  show WW W0 G 5 _ _ _ 56 [none, none, some (.long v30), none, none] [] h n _ _
  refine rr_lload_n (i := 2) C dX7_takenBackIn_56 rfl rfl ?_
  obtain rfl := Option.some.inj hr
  exact rr_lret C dX7_takenBackIn_57 rfl ⟨rfl, rfl, rfl⟩
def q_X7_earnedIn (K : Nat) (h : mm_H) (n : Nat) (l0 : Nat) (l1 : Int32) (l2 : Int32) : Option (Int64) :=
  (ckq h n l0 7).bind fun u1 =>
  (q_X7_ruleAt K h n l0 l1 2 l2).bind fun v3 =>
  (rdR h n l0 7 0).bind fun v5 =>
  v5.bind fun a7 =>
  (rdR h n a7 4 1).bind fun v9 =>
  (rdI h n l0 7 11).bind fun v11 =>
  (rdI h n l0 7 12).bind fun v13 =>
  v9.bind fun a15 =>
  (ckq h n a15 0).bind fun u17 =>
  (q_X0_knownBy K h n a15 v11 l1 (14 + l2) v13).bind fun v19 =>
  match v3 with
  | none =>
    some 0
  | some a21 =>
    if v19 = (-1) then
      some 0
    else
    (ckq h n a21 5).bind fun u22 =>
    (q_X5_earns K h n a21 (Int32.toInt64 v19)).bind fun v24 =>
    some v24
set_option maxRecDepth 100000 in
set_option maxHeartbeats 4000000 in
theorem c_X7_earnedIn {K : Nat} {G : mm_G} {l : Launch} {h : mm_H} {n : Nat} (l0 : Nat) (l1 : Int32) (l2 : Int32) {r_ : Int64} (hn : 48 ≤ n) (hr : q_X7_earnedIn K h n l0 l1 l2 = some r_) : Sp G l yX7_earnedIn cX7_earnedIn 5 (some .long) 2 0 0 [.ref l0, .int l1, .int l2] h n (fun v h' n' => v = some (.long r_) ∧ h' = h ∧ n' = n) := by
  refine Sp_of (by decide +kernel) (Nat.le_of_ble_eq_true rfl) hn ?_
  intro W0 hwl C
  subst hwl
  unfold q_X7_earnedIn at hr
  show WW W0 G 5 0 0 _ 0 [some (.ref l0), some (.int l1), some (.int l2), none, none] [] h n 0 0
  refine rr_aload_n (i := 0) C dX7_earnedIn_0 rfl rfl ?_
  refine rr_iload_n (i := 1) C dX7_earnedIn_1 rfl rfl ?_
  refine rr_iconst (v := 2) C dX7_earnedIn_2 (by decide) ?_
  refine rr_iload_n (i := 2) C dX7_earnedIn_3 rfl rfl ?_
  replace hr := Option.bind_eq_some_iff.mp hr
  obtain ⟨u1, e2, hr⟩ := hr
  replace hr := Option.bind_eq_some_iff.mp hr
  obtain ⟨v3, e4, hr⟩ := hr
  refine rr_callVq (as := [.int l1, .int 2, .int l2]) (st := []) (mc' := 0) (ms' := 0) C dX7_earnedIn_4 iv_X7_164 (by decide) e2 rfl (Nat.le_of_ble_eq_true rfl) (c_X7_ruleAt l0 l1 2 l2 (by omega) e4) (fun v_ h_ n_ q_ => ?_)
  obtain ⟨q1_, q2_, q3_⟩ := q_
  subst v_; subst h_; subst n_
  show WW W0 G 5 _ _ _ 7 [some (.ref l0), some (.int l1), some (.int l2), none, none] [va_rf v3] h n _ _
  refine rr_astore_nO (i := 3) C dX7_earnedIn_7 rfl (by decide) ?_
  show WW W0 G 5 _ _ _ 8 [some (.ref l0), some (.int l1), some (.int l2), some (va_rf v3), none] [] h n _ _
  refine rr_aload_n (i := 0) C dX7_earnedIn_8 rfl rfl ?_
  replace hr := Option.bind_eq_some_iff.mp hr
  obtain ⟨v5, e6, hr⟩ := hr
  refine rr_rdR C dX7_earnedIn_9 fl_X7_46 e6 ?_
  replace hr := Option.bind_eq_some_iff.mp hr
  obtain ⟨a7, e8, hr⟩ := hr
  subst e8
  replace hr := Option.bind_eq_some_iff.mp hr
  obtain ⟨v9, e10, hr⟩ := hr
  refine rr_rdR C dX7_earnedIn_12 fl_X7_132 e10 ?_
  refine rr_aload_n (i := 0) C dX7_earnedIn_15 rfl rfl ?_
  replace hr := Option.bind_eq_some_iff.mp hr
  obtain ⟨v11, e12, hr⟩ := hr
  refine rr_rdI C dX7_earnedIn_16 fl_X7_59 e12 ?_
  refine rr_iload_n (i := 1) C dX7_earnedIn_19 rfl rfl ?_
  refine rr_bipush (v := 14) C dX7_earnedIn_20 (by decide) ?_
  refine rr_iload_n (i := 2) C dX7_earnedIn_22 rfl rfl ?_
  refine rr_iadd C dX7_earnedIn_23 ?_
  refine rr_aload_n (i := 0) C dX7_earnedIn_24 rfl rfl ?_
  replace hr := Option.bind_eq_some_iff.mp hr
  obtain ⟨v13, e14, hr⟩ := hr
  refine rr_rdI C dX7_earnedIn_25 fl_X7_63 e14 ?_
  replace hr := Option.bind_eq_some_iff.mp hr
  obtain ⟨a15, e16, hr⟩ := hr
  subst e16
  replace hr := Option.bind_eq_some_iff.mp hr
  obtain ⟨u17, e18, hr⟩ := hr
  replace hr := Option.bind_eq_some_iff.mp hr
  obtain ⟨v19, e20, hr⟩ := hr
  refine rr_callVq (as := [.int v11, .int l1, .int (14 + l2), .int v13]) (st := []) (mc' := 0) (ms' := 0) C dX7_earnedIn_28 iv_X7_178 (by decide) e18 rfl (Nat.le_of_ble_eq_true rfl) (c_X0_knownBy a15 v11 l1 (14 + l2) v13 (by omega) e20) (fun v_ h_ n_ q_ => ?_)
  obtain ⟨q1_, q2_, q3_⟩ := q_
  subst v_; subst h_; subst n_
  show WW W0 G 5 _ _ _ 31 [some (.ref l0), some (.int l1), some (.int l2), some (va_rf v3), none] [.int v19] h n _ _
  refine rr_istore C dX7_earnedIn_31 (by decide) ?_
  rw [mm_set1_rf (i := 3) (r := v3) rfl]
  show WW W0 G 5 _ _ _ 33 [some (.ref l0), some (.int l1), some (.int l2), some (va_rf v3), some (.int v19)] [] h n _ _
  refine rr_aload_nO (i := 3) C dX7_earnedIn_33 rfl rfl ?_
  rcases v3 with _ | a21
  · dsimp only at hr
    refine rr_ifnullN (tgt := 43) C dX7_earnedIn_34 (by decide) ?_
    refine rr_lconst (v := 0) C dX7_earnedIn_43 (by decide) ?_
    refine rr_goto (tgt := 54) C dX7_earnedIn_44 (by decide) ?_
    obtain rfl := Option.some.inj hr
    exact rr_lret C dX7_earnedIn_54 rfl ⟨rfl, rfl, rfl⟩
  · dsimp only at hr
    refine rr_ifnull C dX7_earnedIn_34 ?_
    refine rr_iload C dX7_earnedIn_37 rfl ?_
    refine rr_iconst (v := (-1)) C dX7_earnedIn_39 (by decide) ?_
    refine rr_icmp_ne (tgt := 47) C dX7_earnedIn_40 (by decide) (fun c40_ => ?_) (fun c40_ => ?_)
    · replace hr := (if_neg c40_).symm.trans hr
      refine rr_aload_n (i := 3) C dX7_earnedIn_47 rfl rfl ?_
      refine rr_iload C dX7_earnedIn_48 rfl ?_
      refine rr_i2l C dX7_earnedIn_50 ?_
      replace hr := Option.bind_eq_some_iff.mp hr
      obtain ⟨u22, e23, hr⟩ := hr
      replace hr := Option.bind_eq_some_iff.mp hr
      obtain ⟨v24, e25, hr⟩ := hr
      refine rr_callVq (as := [.long (Int32.toInt64 v19)]) (st := []) (mc' := 0) (ms' := 0) C dX7_earnedIn_51 iv_X7_259 (by decide) e23 rfl (Nat.le_of_ble_eq_true rfl) (c_X5_earns a21 (Int32.toInt64 v19) (by omega) e25) (fun v_ h_ n_ q_ => ?_)
      obtain ⟨q1_, q2_, q3_⟩ := q_
      subst v_; subst h_; subst n_
      show WW W0 G 5 _ _ _ 54 [some (.ref l0), some (.int l1), some (.int l2), some (.ref a21), some (.int v19)] [.long v24] h n _ _
      obtain rfl := Option.some.inj hr
      exact rr_lret C dX7_earnedIn_54 rfl ⟨rfl, rfl, rfl⟩
    · replace hr := (if_pos c40_).symm.trans hr
      refine rr_lconst (v := 0) C dX7_earnedIn_43 (by decide) ?_
      refine rr_goto (tgt := 54) C dX7_earnedIn_44 (by decide) ?_
      obtain rfl := Option.some.inj hr
      exact rr_lret C dX7_earnedIn_54 rfl ⟨rfl, rfl, rfl⟩
def q_X7_bornePart (K : Nat) (h : mm_H) (n : Nat) (l0 : Nat) (l1 : Int32) (l2 : Int32) (l3 : Int64) : Option (Int64) :=
  (ckq h n l0 7).bind fun u1 =>
  (q_X7_ruleAt K h n l0 l1 1 l2).bind fun v3 =>
  match v3 with
  | none =>
    some 0
  | some a5 =>
    if (lg_cmp l3 0) ≤ 0 then
      (rdI h n a5 5 5).bind fun v6 =>
      (q_X8_hundredths K h n l3 (Int32.toInt64 v6)).bind fun v8 =>
      some v8
    else
    (rdI h n a5 5 4).bind fun v10 =>
    (q_X8_hundredths K h n l3 (Int32.toInt64 v10)).bind fun v12 =>
    some v12
set_option maxRecDepth 100000 in
set_option maxHeartbeats 4000000 in
theorem c_X7_bornePart {K : Nat} {G : mm_G} {l : Launch} {h : mm_H} {n : Nat} (l0 : Nat) (l1 : Int32) (l2 : Int32) (l3 : Int64) {r_ : Int64} (hn : 48 ≤ n) (hr : q_X7_bornePart K h n l0 l1 l2 l3 = some r_) : Sp G l yX7_bornePart cX7_bornePart 6 (some .long) 2 0 0 [.ref l0, .int l1, .int l2, .long l3] h n (fun v h' n' => v = some (.long r_) ∧ h' = h ∧ n' = n) := by
  refine Sp_of (by decide +kernel) (Nat.le_of_ble_eq_true rfl) hn ?_
  intro W0 hwl C
  subst hwl
  unfold q_X7_bornePart at hr
  show WW W0 G 6 0 0 _ 0 [some (.ref l0), some (.int l1), some (.int l2), some (.long l3), none, none] [] h n 0 0
  refine rr_aload_n (i := 0) C dX7_bornePart_0 rfl rfl ?_
  refine rr_iload_n (i := 1) C dX7_bornePart_1 rfl rfl ?_
  refine rr_iconst (v := 1) C dX7_bornePart_2 (by decide) ?_
  refine rr_iload_n (i := 2) C dX7_bornePart_3 rfl rfl ?_
  replace hr := Option.bind_eq_some_iff.mp hr
  obtain ⟨u1, e2, hr⟩ := hr
  replace hr := Option.bind_eq_some_iff.mp hr
  obtain ⟨v3, e4, hr⟩ := hr
  refine rr_callVq (as := [.int l1, .int 1, .int l2]) (st := []) (mc' := 0) (ms' := 0) C dX7_bornePart_4 iv_X7_164 (by decide) e2 rfl (Nat.le_of_ble_eq_true rfl) (c_X7_ruleAt l0 l1 1 l2 (by omega) e4) (fun v_ h_ n_ q_ => ?_)
  obtain ⟨q1_, q2_, q3_⟩ := q_
  subst v_; subst h_; subst n_
  show WW W0 G 6 _ _ _ 7 [some (.ref l0), some (.int l1), some (.int l2), some (.long l3), none, none] [va_rf v3] h n _ _
  refine rr_astoreO C dX7_bornePart_7 (by decide) ?_
  show WW W0 G 6 _ _ _ 9 [some (.ref l0), some (.int l1), some (.int l2), some (.long l3), none, some (va_rf v3)] [] h n _ _
  refine rr_aloadO C dX7_bornePart_9 rfl ?_
  rcases v3 with _ | a5
  · dsimp only at hr
    refine rr_ifnonnullN C dX7_bornePart_11 ?_
    refine rr_lconst (v := 0) C dX7_bornePart_14 (by decide) ?_
    obtain rfl := Option.some.inj hr
    exact rr_lret C dX7_bornePart_15 rfl ⟨rfl, rfl, rfl⟩
  · dsimp only at hr
    refine rr_ifnonnull (tgt := 16) C dX7_bornePart_11 (by decide) ?_
    refine rr_lload_n (i := 3) C dX7_bornePart_16 rfl rfl ?_
    refine rr_lload_n (i := 3) C dX7_bornePart_17 rfl rfl ?_
    refine rr_lconst (v := 0) C dX7_bornePart_18 (by decide) ?_
    refine rr_lcmp C dX7_bornePart_19 ?_
    refine rr_if_le (tgt := 32) C dX7_bornePart_20 (by decide) (fun c20_ => ?_) (fun c20_ => ?_)
    · replace hr := (if_pos c20_).symm.trans hr
      refine rr_aload C dX7_bornePart_32 rfl ?_
      replace hr := Option.bind_eq_some_iff.mp hr
      obtain ⟨v6, e7, hr⟩ := hr
      refine rr_rdI C dX7_bornePart_34 fl_X7_266 e7 ?_
      refine rr_i2l C dX7_bornePart_37 ?_
      replace hr := Option.bind_eq_some_iff.mp hr
      obtain ⟨v8, e9, hr⟩ := hr
      refine rr_callS (as := [.long l3, .long (Int32.toInt64 v6)]) (st := []) (mc' := 0) (ms' := 0) C dX7_bornePart_38 it_X7_80 (by decide) (Nat.le_of_ble_eq_true rfl) (c_X8_hundredths l3 (Int32.toInt64 v6) (by omega) e9) (fun v_ h_ n_ q_ => ?_)
      obtain ⟨q1_, q2_, q3_⟩ := q_
      subst v_; subst h_; subst n_
      show WW W0 G 6 _ _ _ 41 [some (.ref l0), some (.int l1), some (.int l2), some (.long l3), none, some (.ref a5)] [.long v8] h n _ _
      obtain rfl := Option.some.inj hr
      exact rr_lret C dX7_bornePart_41 rfl ⟨rfl, rfl, rfl⟩
    · replace hr := (if_neg c20_).symm.trans hr
      refine rr_aload C dX7_bornePart_23 rfl ?_
      replace hr := Option.bind_eq_some_iff.mp hr
      obtain ⟨v10, e11, hr⟩ := hr
      refine rr_rdI C dX7_bornePart_25 fl_X7_129 e11 ?_
      refine rr_i2l C dX7_bornePart_28 ?_
      refine rr_goto (tgt := 38) C dX7_bornePart_29 (by decide) ?_
      replace hr := Option.bind_eq_some_iff.mp hr
      obtain ⟨v12, e13, hr⟩ := hr
      refine rr_callS (as := [.long l3, .long (Int32.toInt64 v10)]) (st := []) (mc' := 0) (ms' := 0) C dX7_bornePart_38 it_X7_80 (by decide) (Nat.le_of_ble_eq_true rfl) (c_X8_hundredths l3 (Int32.toInt64 v10) (by omega) e13) (fun v_ h_ n_ q_ => ?_)
      obtain ⟨q1_, q2_, q3_⟩ := q_
      subst v_; subst h_; subst n_
      show WW W0 G 6 _ _ _ 41 [some (.ref l0), some (.int l1), some (.int l2), some (.long l3), none, some (.ref a5)] [.long v12] h n _ _
      obtain rfl := Option.some.inj hr
      exact rr_lret C dX7_bornePart_41 rfl ⟨rfl, rfl, rfl⟩
def q_X7_sharedIn (K : Nat) (h : mm_H) (n : Nat) (l0 : Nat) (l1 : Int32) (l2 : Int32) : Option (Int64) :=
  (rdR h n l0 7 0).bind fun v1 =>
  v1.bind fun a3 =>
  (rdR h n a3 4 1).bind fun v5 =>
  (rdI h n l0 7 11).bind fun v7 =>
  (rdI h n l0 7 12).bind fun v9 =>
  v5.bind fun a11 =>
  (ckq h n a11 0).bind fun u13 =>
  (q_X0_knownBy K h n a11 v7 l1 (3 + l2) v9).bind fun v15 =>
  if v15 = (-1) then
    some 0
  else
  if l1 < 0 then
    some 0
  else
  if 15 ≤ l1 then
    some 0
  else
  if l2 < 0 then
    some 0
  else
  if l2 < 4 then
    (rdR h n l0 7 6).bind fun v17 =>
    v17.bind fun a19 =>
    (ldR h n a19 7 l1).bind fun v21 =>
    v21.bind fun a23 =>
    (ldJ h n a23 l2).bind fun v25 =>
    (ckq h n l0 7).bind fun u28 =>
    (q_X7_bornePart K h n l0 l1 l2 ((Int32.toInt64 v15) - v25)).bind fun v30 =>
    some (((Int32.toInt64 v15) - v25) - v30)
  else
  some 0
set_option maxRecDepth 100000 in
set_option maxHeartbeats 4000000 in
theorem c_X7_sharedIn {K : Nat} {G : mm_G} {l : Launch} {h : mm_H} {n : Nat} (l0 : Nat) (l1 : Int32) (l2 : Int32) {r_ : Int64} (hn : 48 ≤ n) (hr : q_X7_sharedIn K h n l0 l1 l2 = some r_) : Sp G l yX7_sharedIn cX7_sharedIn 6 (some .long) 3 0 0 [.ref l0, .int l1, .int l2] h n (fun v h' n' => v = some (.long r_) ∧ h' = h ∧ n' = n) := by
  refine Sp_of (by decide +kernel) (Nat.le_of_ble_eq_true rfl) hn ?_
  intro W0 hwl C
  subst hwl
  unfold q_X7_sharedIn at hr
  show WW W0 G 6 0 0 _ 0 [some (.ref l0), some (.int l1), some (.int l2), none, none, none] [] h n 0 0
  refine rr_aload_n (i := 0) C dX7_sharedIn_0 rfl rfl ?_
  replace hr := Option.bind_eq_some_iff.mp hr
  obtain ⟨v1, e2, hr⟩ := hr
  refine rr_rdR C dX7_sharedIn_1 fl_X7_46 e2 ?_
  replace hr := Option.bind_eq_some_iff.mp hr
  obtain ⟨a3, e4, hr⟩ := hr
  subst e4
  replace hr := Option.bind_eq_some_iff.mp hr
  obtain ⟨v5, e6, hr⟩ := hr
  refine rr_rdR C dX7_sharedIn_4 fl_X7_132 e6 ?_
  refine rr_aload_n (i := 0) C dX7_sharedIn_7 rfl rfl ?_
  replace hr := Option.bind_eq_some_iff.mp hr
  obtain ⟨v7, e8, hr⟩ := hr
  refine rr_rdI C dX7_sharedIn_8 fl_X7_59 e8 ?_
  refine rr_iload_n (i := 1) C dX7_sharedIn_11 rfl rfl ?_
  refine rr_iconst (v := 3) C dX7_sharedIn_12 (by decide) ?_
  refine rr_iload_n (i := 2) C dX7_sharedIn_13 rfl rfl ?_
  refine rr_iadd C dX7_sharedIn_14 ?_
  refine rr_aload_n (i := 0) C dX7_sharedIn_15 rfl rfl ?_
  replace hr := Option.bind_eq_some_iff.mp hr
  obtain ⟨v9, e10, hr⟩ := hr
  refine rr_rdI C dX7_sharedIn_16 fl_X7_63 e10 ?_
  replace hr := Option.bind_eq_some_iff.mp hr
  obtain ⟨a11, e12, hr⟩ := hr
  subst e12
  replace hr := Option.bind_eq_some_iff.mp hr
  obtain ⟨u13, e14, hr⟩ := hr
  replace hr := Option.bind_eq_some_iff.mp hr
  obtain ⟨v15, e16, hr⟩ := hr
  refine rr_callVq (as := [.int v7, .int l1, .int (3 + l2), .int v9]) (st := []) (mc' := 0) (ms' := 0) C dX7_sharedIn_19 iv_X7_178 (by decide) e14 rfl (Nat.le_of_ble_eq_true rfl) (c_X0_knownBy a11 v7 l1 (3 + l2) v9 (by omega) e16) (fun v_ h_ n_ q_ => ?_)
  obtain ⟨q1_, q2_, q3_⟩ := q_
  subst v_; subst h_; subst n_
  show WW W0 G 6 _ _ _ 22 [some (.ref l0), some (.int l1), some (.int l2), none, none, none] [.int v15] h n _ _
  refine rr_istore_n (i := 3) C dX7_sharedIn_22 rfl (by decide) ?_
  show WW W0 G 6 _ _ _ 23 [some (.ref l0), some (.int l1), some (.int l2), some (.int v15), none, none] [] h n _ _
  refine rr_iload_n (i := 3) C dX7_sharedIn_23 rfl rfl ?_
  refine rr_iconst (v := (-1)) C dX7_sharedIn_24 (by decide) ?_
  refine rr_icmp_eq (tgt := 47) C dX7_sharedIn_25 (by decide) (fun c25_ => ?_) (fun c25_ => ?_)
  · replace hr := (if_pos c25_).symm.trans hr
    refine rr_lconst (v := 0) C dX7_sharedIn_47 (by decide) ?_
    obtain rfl := Option.some.inj hr
    exact rr_lret C dX7_sharedIn_48 rfl ⟨rfl, rfl, rfl⟩
  · replace hr := (if_neg c25_).symm.trans hr
    refine rr_iload_n (i := 1) C dX7_sharedIn_28 rfl rfl ?_
    refine rr_if_lt (tgt := 47) C dX7_sharedIn_29 (by decide) (fun c29_ => ?_) (fun c29_ => ?_)
    · replace hr := (if_pos c29_).symm.trans hr
      refine rr_lconst (v := 0) C dX7_sharedIn_47 (by decide) ?_
      obtain rfl := Option.some.inj hr
      exact rr_lret C dX7_sharedIn_48 rfl ⟨rfl, rfl, rfl⟩
    · replace hr := (if_neg c29_).symm.trans hr
      refine rr_iload_n (i := 1) C dX7_sharedIn_32 rfl rfl ?_
      refine rr_bipush (v := 15) C dX7_sharedIn_33 (by decide) ?_
      refine rr_icmp_ge (tgt := 47) C dX7_sharedIn_35 (by decide) (fun c35_ => ?_) (fun c35_ => ?_)
      · replace hr := (if_pos c35_).symm.trans hr
        refine rr_lconst (v := 0) C dX7_sharedIn_47 (by decide) ?_
        obtain rfl := Option.some.inj hr
        exact rr_lret C dX7_sharedIn_48 rfl ⟨rfl, rfl, rfl⟩
      · replace hr := (if_neg c35_).symm.trans hr
        refine rr_iload_n (i := 2) C dX7_sharedIn_38 rfl rfl ?_
        refine rr_if_lt (tgt := 47) C dX7_sharedIn_39 (by decide) (fun c39_ => ?_) (fun c39_ => ?_)
        · replace hr := (if_pos c39_).symm.trans hr
          refine rr_lconst (v := 0) C dX7_sharedIn_47 (by decide) ?_
          obtain rfl := Option.some.inj hr
          exact rr_lret C dX7_sharedIn_48 rfl ⟨rfl, rfl, rfl⟩
        · replace hr := (if_neg c39_).symm.trans hr
          refine rr_iload_n (i := 2) C dX7_sharedIn_42 rfl rfl ?_
          refine rr_iconst (v := 4) C dX7_sharedIn_43 (by decide) ?_
          refine rr_icmp_lt (tgt := 49) C dX7_sharedIn_44 (by decide) (fun c44_ => ?_) (fun c44_ => ?_)
          · replace hr := (if_pos c44_).symm.trans hr
            refine rr_iload_n (i := 3) C dX7_sharedIn_49 rfl rfl ?_
            refine rr_i2l C dX7_sharedIn_50 ?_
            refine rr_aload_n (i := 0) C dX7_sharedIn_51 rfl rfl ?_
            replace hr := Option.bind_eq_some_iff.mp hr
            obtain ⟨v17, e18, hr⟩ := hr
            refine rr_rdR C dX7_sharedIn_52 fl_X7_31 e18 ?_
            refine rr_iload_n (i := 1) C dX7_sharedIn_55 rfl rfl ?_
            replace hr := Option.bind_eq_some_iff.mp hr
            obtain ⟨a19, e20, hr⟩ := hr
            subst e20
            replace hr := Option.bind_eq_some_iff.mp hr
            obtain ⟨v21, e22, hr⟩ := hr
            refine rr_ldR C dX7_sharedIn_56 e22 ?_
            refine rr_iload_n (i := 2) C dX7_sharedIn_57 rfl rfl ?_
            replace hr := Option.bind_eq_some_iff.mp hr
            obtain ⟨a23, e24, hr⟩ := hr
            subst e24
            replace hr := Option.bind_eq_some_iff.mp hr
            obtain ⟨v25, e26, hr⟩ := hr
            refine rr_ldJ C dX7_sharedIn_58 e26 ?_
            refine rr_lsub C dX7_sharedIn_59 ?_
            refine rr_lstore C dX7_sharedIn_60 (by decide) ?_
            show WW W0 G 6 _ _ _ 62 [some (.ref l0), some (.int l1), some (.int l2), some (.int v15), some (.long ((Int32.toInt64 v15) - v25)), none] [] h n _ _
            refine rr_lload C dX7_sharedIn_62 rfl ?_
            refine rr_aload_n (i := 0) C dX7_sharedIn_64 rfl rfl ?_
            refine rr_iload_n (i := 1) C dX7_sharedIn_65 rfl rfl ?_
            refine rr_iload_n (i := 2) C dX7_sharedIn_66 rfl rfl ?_
            refine rr_lload C dX7_sharedIn_67 rfl ?_
            replace hr := Option.bind_eq_some_iff.mp hr
            obtain ⟨u28, e29, hr⟩ := hr
            replace hr := Option.bind_eq_some_iff.mp hr
            obtain ⟨v30, e31, hr⟩ := hr
            refine rr_callVq (as := [.int l1, .int l2, .long ((Int32.toInt64 v15) - v25)]) (st := [.long ((Int32.toInt64 v15) - v25)]) (mc' := 0) (ms' := 0) C dX7_sharedIn_69 iv_X7_262 (by decide) e29 rfl (Nat.le_of_ble_eq_true rfl) (c_X7_bornePart l0 l1 l2 ((Int32.toInt64 v15) - v25) (by omega) e31) (fun v_ h_ n_ q_ => ?_)
            obtain ⟨q1_, q2_, q3_⟩ := q_
            subst v_; subst h_; subst n_
            show WW W0 G 6 _ _ _ 72 [some (.ref l0), some (.int l1), some (.int l2), some (.int v15), some (.long ((Int32.toInt64 v15) - v25)), none] [.long v30, .long ((Int32.toInt64 v15) - v25)] h n _ _
            refine rr_lsub C dX7_sharedIn_72 ?_
            obtain rfl := Option.some.inj hr
            exact rr_lret C dX7_sharedIn_73 rfl ⟨rfl, rfl, rfl⟩
          · replace hr := (if_neg c44_).symm.trans hr
            refine rr_lconst (v := 0) C dX7_sharedIn_47 (by decide) ?_
            obtain rfl := Option.some.inj hr
            exact rr_lret C dX7_sharedIn_48 rfl ⟨rfl, rfl, rfl⟩

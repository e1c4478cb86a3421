def q_X11_plain (K : Nat) (h : mm_H) (n : Nat) (l0 : Nat) (l1 : Int32) (l2 : Int32) (l3 : Int32) (l4 : Int32) : Option (Int32 × mm_H) :=
  (rdR h n l0 10 36).bind fun v1 =>
  v1.bind fun a3 =>
  (stI h n a3 l1 l2).bind fun h5 =>
  (rdR h5 n l0 10 37).bind fun v7 =>
  v7.bind fun a9 =>
  (stI h5 n a9 l1 0).bind fun h11 =>
  (ckq h11 n l0 10).bind fun u13 =>
  (q_X11_takesNumber K h11 n l0 l3 l4).bind fun v15 =>
  if v15.1 = 0 then
    some (0, v15.2)
  else
  (rdR v15.2 n l0 10 39).bind fun v17 =>
  (rdI v15.2 n l0 10 55).bind fun v19 =>
  v17.bind fun a21 =>
  (stI v15.2 n a21 l1 v19).bind fun h23 =>
  some (1, h23)
set_option maxRecDepth 100000 in
set_option maxHeartbeats 4000000 in
theorem c_X11_plain {K : Nat} {G : mm_G} {l : Launch} {h : mm_H} {n : Nat} (l0 : Nat) (l1 : Int32) (l2 : Int32) (l3 : Int32) (l4 : Int32) {r_ : Int32 × mm_H} (hn : 48 ≤ n) (hr : q_X11_plain K h n l0 l1 l2 l3 l4 = some r_) : Sp G l yX11_plain cX11_plain 5 (some .boolean) 2 0 0 [.ref l0, .int l1, .int l2, .int l3, .int l4] h n (fun v h' n' => v = some (.int r_.1) ∧ h' = r_.2 ∧ n' = n) := by
  refine Sp_of (by decide +kernel) (Nat.le_of_ble_eq_true rfl) hn ?_
  intro W0 hwl C
  subst hwl
  unfold q_X11_plain at hr
  show WW W0 G 5 0 0 _ 0 [some (.ref l0), some (.int l1), some (.int l2), some (.int l3), some (.int l4)] [] h n 0 0
  refine rr_aload_n (i := 0) C dX11_plain_0 rfl rfl ?_
  replace hr := Option.bind_eq_some_iff.mp hr
  obtain ⟨v1, e2, hr⟩ := hr
  refine rr_rdR C dX11_plain_1 fl_X11_81 e2 ?_
  refine rr_iload_n (i := 1) C dX11_plain_4 rfl rfl ?_
  refine rr_iload_n (i := 2) C dX11_plain_5 rfl rfl ?_
  replace hr := Option.bind_eq_some_iff.mp hr
  obtain ⟨a3, e4, hr⟩ := hr
  subst e4
  replace hr := Option.bind_eq_some_iff.mp hr
  obtain ⟨h5, e6, hr⟩ := hr
  refine rr_stI C dX11_plain_6 e6 ?_
  refine rr_aload_n (i := 0) C dX11_plain_7 rfl rfl ?_
  replace hr := Option.bind_eq_some_iff.mp hr
  obtain ⟨v7, e8, hr⟩ := hr
  refine rr_rdR C dX11_plain_8 fl_X11_84 e8 ?_
  refine rr_iload_n (i := 1) C dX11_plain_11 rfl rfl ?_
  refine rr_iconst (v := 0) C dX11_plain_12 (by decide) ?_
  replace hr := Option.bind_eq_some_iff.mp hr
  obtain ⟨a9, e10, hr⟩ := hr
  subst e10
  replace hr := Option.bind_eq_some_iff.mp hr
  obtain ⟨h11, e12, hr⟩ := hr
  refine rr_stI C dX11_plain_13 e12 ?_
  refine rr_aload_n (i := 0) C dX11_plain_14 rfl rfl ?_
  refine rr_iload_n (i := 3) C dX11_plain_15 rfl rfl ?_
  refine rr_iload C dX11_plain_16 rfl ?_
  replace hr := Option.bind_eq_some_iff.mp hr
  obtain ⟨u13, e14, hr⟩ := hr
  replace hr := Option.bind_eq_some_iff.mp hr
  obtain ⟨v15, e16, hr⟩ := hr
  refine rr_callVq (as := [.int l3, .int l4]) (st := []) (mc' := 0) (ms' := 0) C dX11_plain_18 iv_X11_240 (by decide) e14 rfl (Nat.le_of_ble_eq_true rfl) (c_X11_takesNumber l0 l3 l4 (by omega) e16) (fun v_ h_ n_ q_ => ?_)
  obtain ⟨q1_, q2_, q3_⟩ := q_
  subst v_; subst h_; subst n_
  show WW W0 G 5 _ _ _ 21 [some (.ref l0), some (.int l1), some (.int l2), some (.int l3), some (.int l4)] [.int v15.1] v15.2 n _ _
  refine rr_if_ne (tgt := 26) C dX11_plain_21 (by decide) (fun c21_ => ?_) (fun c21_ => ?_)
  · replace hr := (if_neg c21_).symm.trans hr
    refine rr_aload_n (i := 0) C dX11_plain_26 rfl rfl ?_
    replace hr := Option.bind_eq_some_iff.mp hr
    obtain ⟨v17, e18, hr⟩ := hr
    refine rr_rdR C dX11_plain_27 fl_X11_90 e18 ?_
    refine rr_iload_n (i := 1) C dX11_plain_30 rfl rfl ?_
    refine rr_aload_n (i := 0) C dX11_plain_31 rfl rfl ?_
    replace hr := Option.bind_eq_some_iff.mp hr
    obtain ⟨v19, e20, hr⟩ := hr
    refine rr_rdI C dX11_plain_32 fl_X11_237 e20 ?_
    replace hr := Option.bind_eq_some_iff.mp hr
    obtain ⟨a21, e22, hr⟩ := hr
    subst e22
    replace hr := Option.bind_eq_some_iff.mp hr
    obtain ⟨h23, e24, hr⟩ := hr
    refine rr_stI C dX11_plain_35 e24 ?_
    refine rr_iconst (v := 1) C dX11_plain_36 (by decide) ?_
    obtain rfl := Option.some.inj hr
    exact rr_iret (ty := .boolean) C dX11_plain_37 rfl rfl ⟨rfl, rfl, rfl⟩
  · replace hr := (if_pos c21_).symm.trans hr
    refine rr_iconst (v := 0) C dX11_plain_24 (by decide) ?_
    obtain rfl := Option.some.inj hr
    exact rr_iret (ty := .boolean) C dX11_plain_25 rfl rfl ⟨rfl, rfl, rfl⟩
def q_X11_rule (K : Nat) (h : mm_H) (n : Nat) (l0 : Nat) (l1 : Int32) : Option (Int32 × mm_H) :=
  (ckq h n l0 10).bind fun u1 =>
  (q_X11_takes K h n l0 418430873463).bind fun v3 =>
  if v3.1 = 0 then
    (ckq v3.2 n l0 10).bind fun u5 =>
    (q_X11_takes K v3.2 n l0 495672455781).bind fun v7 =>
    if v7.1 = 0 then
      (ckq v7.2 n l0 10).bind fun u9 =>
      (q_X11_takes K v7.2 n l0 127961880028532).bind fun v11 =>
      if v11.1 = 0 then
        (ckq v11.2 n l0 10).bind fun u13 =>
        (q_X11_takes K v11.2 n l0 125780071117422).bind fun v15 =>
        if v15.1 = 0 then
          (ckq v15.2 n l0 10).bind fun u17 =>
          (q_X11_takes K v15.2 n l0 452823639416).bind fun v19 =>
          if v19.1 = 0 then
            (ckq v19.2 n l0 10).bind fun u21 =>
            (q_X11_takes K v19.2 n l0 2003132786).bind fun v23 =>
            if v23.1 = 0 then
              (ckq v23.2 n l0 10).bind fun u25 =>
              (q_X11_takes K v23.2 n l0 1650549611).bind fun v27 =>
              if v27.1 = 0 then
                (ckq v27.2 n l0 10).bind fun u29 =>
                (q_X11_takes K v27.2 n l0 1953066100).bind fun v31 =>
                if v31.1 = 0 then
                  (ckq v31.2 n l0 10).bind fun u33 =>
                  (q_X11_takes K v31.2 n l0 7106407).bind fun v35 =>
                  if v35.1 = 0 then
                    some (0, v35.2)
                  else
                  (ckq v35.2 n l0 10).bind fun u37 =>
                  (q_X11_plain K v35.2 n l0 l1 8 0 100).bind fun v39 =>
                  if v39.1 = 0 then
                    some (0, v39.2)
                  else
                  some (1, v39.2)
                else
                (ckq v31.2 n l0 10).bind fun u41 =>
                (q_X11_plain K v31.2 n l0 l1 7 0 100).bind fun v43 =>
                (ckz v43.1).bind fun u45 =>
                some (v43.1, v43.2)
              else
              (ckq v27.2 n l0 10).bind fun u47 =>
              (q_X11_plain K v27.2 n l0 l1 6 0 100).bind fun v49 =>
              (ckz v49.1).bind fun u51 =>
              some (v49.1, v49.2)
            else
            (ckq v23.2 n l0 10).bind fun u53 =>
            (q_X11_plain K v23.2 n l0 l1 5 0 100).bind fun v55 =>
            (ckz v55.1).bind fun u57 =>
            some (v55.1, v55.2)
          else
          (ckq v19.2 n l0 10).bind fun u59 =>
          (q_X11_plain K v19.2 n l0 l1 4 50 150).bind fun v61 =>
          (ckz v61.1).bind fun u63 =>
          some (v61.1, v61.2)
        else
        (ckq v15.2 n l0 10).bind fun u65 =>
        (q_X11_plain K v15.2 n l0 l1 3 0 500).bind fun v67 =>
        (ckz v67.1).bind fun u69 =>
        some (v67.1, v67.2)
      else
      (ckq v11.2 n l0 10).bind fun u71 =>
      (q_X11_target K v11.2 n l0 l1).bind fun v73 =>
      (ckz v73.1).bind fun u75 =>
      some (v73.1, v73.2)
    else
    (ckq v7.2 n l0 10).bind fun u77 =>
    (q_X11_share K v7.2 n l0 l1).bind fun v79 =>
    (ckz v79.1).bind fun u81 =>
    some (v79.1, v79.2)
  else
  (ckq v3.2 n l0 10).bind fun u83 =>
  (q_X11_allow K v3.2 n l0 l1).bind fun v85 =>
  (ckz v85.1).bind fun u87 =>
  some (v85.1, v85.2)
set_option maxRecDepth 100000 in
set_option maxHeartbeats 4000000 in
theorem c_X11_rule {K : Nat} {G : mm_G} {l : Launch} {h : mm_H} {n : Nat} (l0 : Nat) (l1 : Int32) {r_ : Int32 × mm_H} (hn : 48 ≤ n) (hr : q_X11_rule K h n l0 l1 = some r_) : Sp G l yX11_rule cX11_rule 2 (some .boolean) 5 0 0 [.ref l0, .int l1] h n (fun v h' n' => v = some (.int r_.1) ∧ h' = r_.2 ∧ n' = n) := by
  refine Sp_of (by decide +kernel) (Nat.le_of_ble_eq_true rfl) hn ?_
  intro W0 hwl C
  subst hwl
  unfold q_X11_rule at hr
  show WW W0 G 2 0 0 _ 0 [some (.ref l0), some (.int l1)] [] h n 0 0
  refine rr_aload_n (i := 0) C dX11_rule_0 rfl rfl ?_
  refine rr_ldc2 C dX11_rule_1 ct_X11_323 ?_
  replace hr := Option.bind_eq_some_iff.mp hr
  obtain ⟨u1, e2, hr⟩ := hr
  replace hr := Option.bind_eq_some_iff.mp hr
  obtain ⟨v3, e4, hr⟩ := hr
  refine rr_callVq (as := [.long 418430873463]) (st := []) (mc' := 0) (ms' := 0) C dX11_rule_4 iv_X11_254 (by decide) e2 rfl (Nat.le_of_ble_eq_true rfl) (c_X11_takes l0 418430873463 (by omega) e4) (fun v_ h_ n_ q_ => ?_)
  obtain ⟨q1_, q2_, q3_⟩ := q_
  subst v_; subst h_; subst n_
  show WW W0 G 2 _ _ _ 7 [some (.ref l0), some (.int l1)] [.int v3.1] v3.2 n _ _
  refine rr_if_eq (tgt := 16) C dX11_rule_7 (by decide) (fun c7_ => ?_) (fun c7_ => ?_)
  · replace hr := (if_pos c7_).symm.trans hr
    refine rr_aload_n (i := 0) C dX11_rule_16 rfl rfl ?_
    refine rr_ldc2 C dX11_rule_17 ct_X11_328 ?_
    replace hr := Option.bind_eq_some_iff.mp hr
    obtain ⟨u5, e6, hr⟩ := hr
    replace hr := Option.bind_eq_some_iff.mp hr
    obtain ⟨v7, e8, hr⟩ := hr
    refine rr_callVq (as := [.long 495672455781]) (st := []) (mc' := 0) (ms' := 0) C dX11_rule_20 iv_X11_254 (by decide) e6 rfl (Nat.le_of_ble_eq_true rfl) (c_X11_takes l0 495672455781 (by omega) e8) (fun v_ h_ n_ q_ => ?_)
    obtain ⟨q1_, q2_, q3_⟩ := q_
    subst v_; subst h_; subst n_
    show WW W0 G 2 _ _ _ 23 [some (.ref l0), some (.int l1)] [.int v7.1] v7.2 n _ _
    refine rr_if_eq (tgt := 32) C dX11_rule_23 (by decide) (fun c23_ => ?_) (fun c23_ => ?_)
    · replace hr := (if_pos c23_).symm.trans hr
      refine rr_aload_n (i := 0) C dX11_rule_32 rfl rfl ?_
      refine rr_ldc2 C dX11_rule_33 ct_X11_333 ?_
      replace hr := Option.bind_eq_some_iff.mp hr
      obtain ⟨u9, e10, hr⟩ := hr
      replace hr := Option.bind_eq_some_iff.mp hr
      obtain ⟨v11, e12, hr⟩ := hr
      refine rr_callVq (as := [.long 127961880028532]) (st := []) (mc' := 0) (ms' := 0) C dX11_rule_36 iv_X11_254 (by decide) e10 rfl (Nat.le_of_ble_eq_true rfl) (c_X11_takes l0 127961880028532 (by omega) e12) (fun v_ h_ n_ q_ => ?_)
      obtain ⟨q1_, q2_, q3_⟩ := q_
      subst v_; subst h_; subst n_
      show WW W0 G 2 _ _ _ 39 [some (.ref l0), some (.int l1)] [.int v11.1] v11.2 n _ _
      refine rr_if_eq (tgt := 48) C dX11_rule_39 (by decide) (fun c39_ => ?_) (fun c39_ => ?_)
      · replace hr := (if_pos c39_).symm.trans hr
        refine rr_aload_n (i := 0) C dX11_rule_48 rfl rfl ?_
        refine rr_ldc2 C dX11_rule_49 ct_X11_338 ?_
        replace hr := Option.bind_eq_some_iff.mp hr
        obtain ⟨u13, e14, hr⟩ := hr
        replace hr := Option.bind_eq_some_iff.mp hr
        obtain ⟨v15, e16, hr⟩ := hr
        refine rr_callVq (as := [.long 125780071117422]) (st := []) (mc' := 0) (ms' := 0) C dX11_rule_52 iv_X11_254 (by decide) e14 rfl (Nat.le_of_ble_eq_true rfl) (c_X11_takes l0 125780071117422 (by omega) e16) (fun v_ h_ n_ q_ => ?_)
        obtain ⟨q1_, q2_, q3_⟩ := q_
        subst v_; subst h_; subst n_
        show WW W0 G 2 _ _ _ 55 [some (.ref l0), some (.int l1)] [.int v15.1] v15.2 n _ _
        refine rr_if_eq (tgt := 69) C dX11_rule_55 (by decide) (fun c55_ => ?_) (fun c55_ => ?_)
        · replace hr := (if_pos c55_).symm.trans hr
          refine rr_aload_n (i := 0) C dX11_rule_69 rfl rfl ?_
          refine rr_ldc2 C dX11_rule_70 ct_X11_344 ?_
          replace hr := Option.bind_eq_some_iff.mp hr
          obtain ⟨u17, e18, hr⟩ := hr
          replace hr := Option.bind_eq_some_iff.mp hr
          obtain ⟨v19, e20, hr⟩ := hr
          refine rr_callVq (as := [.long 452823639416]) (st := []) (mc' := 0) (ms' := 0) C dX11_rule_73 iv_X11_254 (by decide) e18 rfl (Nat.le_of_ble_eq_true rfl) (c_X11_takes l0 452823639416 (by omega) e20) (fun v_ h_ n_ q_ => ?_)
          obtain ⟨q1_, q2_, q3_⟩ := q_
          subst v_; subst h_; subst n_
          show WW W0 G 2 _ _ _ 76 [some (.ref l0), some (.int l1)] [.int v19.1] v19.2 n _ _
          refine rr_if_eq (tgt := 91) C dX11_rule_76 (by decide) (fun c76_ => ?_) (fun c76_ => ?_)
          · replace hr := (if_pos c76_).symm.trans hr
            refine rr_aload_n (i := 0) C dX11_rule_91 rfl rfl ?_
            refine rr_ldc2 C dX11_rule_92 ct_X11_346 ?_
            replace hr := Option.bind_eq_some_iff.mp hr
            obtain ⟨u21, e22, hr⟩ := hr
            replace hr := Option.bind_eq_some_iff.mp hr
            obtain ⟨v23, e24, hr⟩ := hr
            refine rr_callVq (as := [.long 2003132786]) (st := []) (mc' := 0) (ms' := 0) C dX11_rule_95 iv_X11_254 (by decide) e22 rfl (Nat.le_of_ble_eq_true rfl) (c_X11_takes l0 2003132786 (by omega) e24) (fun v_ h_ n_ q_ => ?_)
            obtain ⟨q1_, q2_, q3_⟩ := q_
            subst v_; subst h_; subst n_
            show WW W0 G 2 _ _ _ 98 [some (.ref l0), some (.int l1)] [.int v23.1] v23.2 n _ _
            refine rr_if_eq (tgt := 111) C dX11_rule_98 (by decide) (fun c98_ => ?_) (fun c98_ => ?_)
            · replace hr := (if_pos c98_).symm.trans hr
              refine rr_aload_n (i := 0) C dX11_rule_111 rfl rfl ?_
              refine rr_ldc2 C dX11_rule_112 ct_X11_348 ?_
              replace hr := Option.bind_eq_some_iff.mp hr
              obtain ⟨u25, e26, hr⟩ := hr
              replace hr := Option.bind_eq_some_iff.mp hr
              obtain ⟨v27, e28, hr⟩ := hr
              refine rr_callVq (as := [.long 1650549611]) (st := []) (mc' := 0) (ms' := 0) C dX11_rule_115 iv_X11_254 (by decide) e26 rfl (Nat.le_of_ble_eq_true rfl) (c_X11_takes l0 1650549611 (by omega) e28) (fun v_ h_ n_ q_ => ?_)
              obtain ⟨q1_, q2_, q3_⟩ := q_
              subst v_; subst h_; subst n_
              show WW W0 G 2 _ _ _ 118 [some (.ref l0), some (.int l1)] [.int v27.1] v27.2 n _ _
              refine rr_if_eq (tgt := 132) C dX11_rule_118 (by decide) (fun c118_ => ?_) (fun c118_ => ?_)
              · replace hr := (if_pos c118_).symm.trans hr
                refine rr_aload_n (i := 0) C dX11_rule_132 rfl rfl ?_
                refine rr_ldc2 C dX11_rule_133 ct_X11_350 ?_
                replace hr := Option.bind_eq_some_iff.mp hr
                obtain ⟨u29, e30, hr⟩ := hr
                replace hr := Option.bind_eq_some_iff.mp hr
                obtain ⟨v31, e32, hr⟩ := hr
                refine rr_callVq (as := [.long 1953066100]) (st := []) (mc' := 0) (ms' := 0) C dX11_rule_136 iv_X11_254 (by decide) e30 rfl (Nat.le_of_ble_eq_true rfl) (c_X11_takes l0 1953066100 (by omega) e32) (fun v_ h_ n_ q_ => ?_)
                obtain ⟨q1_, q2_, q3_⟩ := q_
                subst v_; subst h_; subst n_
                show WW W0 G 2 _ _ _ 139 [some (.ref l0), some (.int l1)] [.int v31.1] v31.2 n _ _
                refine rr_if_eq (tgt := 153) C dX11_rule_139 (by decide) (fun c139_ => ?_) (fun c139_ => ?_)
                · replace hr := (if_pos c139_).symm.trans hr
                  refine rr_aload_n (i := 0) C dX11_rule_153 rfl rfl ?_
                  refine rr_ldc2 C dX11_rule_154 ct_X11_352 ?_
                  replace hr := Option.bind_eq_some_iff.mp hr
                  obtain ⟨u33, e34, hr⟩ := hr
                  replace hr := Option.bind_eq_some_iff.mp hr
                  obtain ⟨v35, e36, hr⟩ := hr
                  refine rr_callVq (as := [.long 7106407]) (st := []) (mc' := 0) (ms' := 0) C dX11_rule_157 iv_X11_254 (by decide) e34 rfl (Nat.le_of_ble_eq_true rfl) (c_X11_takes l0 7106407 (by omega) e36) (fun v_ h_ n_ q_ => ?_)
                  obtain ⟨q1_, q2_, q3_⟩ := q_
                  subst v_; subst h_; subst n_
                  show WW W0 G 2 _ _ _ 160 [some (.ref l0), some (.int l1)] [.int v35.1] v35.2 n _ _
                  refine rr_if_eq (tgt := 180) C dX11_rule_160 (by decide) (fun c160_ => ?_) (fun c160_ => ?_)
                  · replace hr := (if_pos c160_).symm.trans hr
                    refine rr_iconst (v := 0) C dX11_rule_180 (by decide) ?_
                    obtain rfl := Option.some.inj hr
                    exact rr_iret (ty := .boolean) C dX11_rule_181 rfl rfl ⟨rfl, rfl, rfl⟩
                  · replace hr := (if_neg c160_).symm.trans hr
                    refine rr_aload_n (i := 0) C dX11_rule_163 rfl rfl ?_
                    refine rr_iload_n (i := 1) C dX11_rule_164 rfl rfl ?_
                    refine rr_bipush (v := 8) C dX11_rule_165 (by decide) ?_
                    refine rr_iconst (v := 0) C dX11_rule_167 (by decide) ?_
                    refine rr_bipush (v := 100) C dX11_rule_168 (by decide) ?_
                    replace hr := Option.bind_eq_some_iff.mp hr
                    obtain ⟨u37, e38, hr⟩ := hr
                    replace hr := Option.bind_eq_some_iff.mp hr
                    obtain ⟨v39, e40, hr⟩ := hr
                    refine rr_callVq (as := [.int l1, .int 8, .int 0, .int 100]) (st := []) (mc' := 0) (ms' := 0) C dX11_rule_170 iv_X11_340 (by decide) e38 rfl (Nat.le_of_ble_eq_true rfl) (c_X11_plain l0 l1 8 0 100 (by omega) e40) (fun v_ h_ n_ q_ => ?_)
                    obtain ⟨q1_, q2_, q3_⟩ := q_
                    subst v_; subst h_; subst n_
                    show WW W0 G 2 _ _ _ 173 [some (.ref l0), some (.int l1)] [.int v39.1] v39.2 n _ _
                    refine rr_if_eq (tgt := 180) C dX11_rule_173 (by decide) (fun c173_ => ?_) (fun c173_ => ?_)
                    · replace hr := (if_pos c173_).symm.trans hr
                      refine rr_iconst (v := 0) C dX11_rule_180 (by decide) ?_
                      obtain rfl := Option.some.inj hr
                      exact rr_iret (ty := .boolean) C dX11_rule_181 rfl rfl ⟨rfl, rfl, rfl⟩
                    · replace hr := (if_neg c173_).symm.trans hr
                      refine rr_iconst (v := 1) C dX11_rule_176 (by decide) ?_
                      refine rr_goto (tgt := 181) C dX11_rule_177 (by decide) ?_
                      obtain rfl := Option.some.inj hr
                      exact rr_iret (ty := .boolean) C dX11_rule_181 rfl rfl ⟨rfl, rfl, rfl⟩
                · replace hr := (if_neg c139_).symm.trans hr
                  refine rr_aload_n (i := 0) C dX11_rule_142 rfl rfl ?_
                  refine rr_iload_n (i := 1) C dX11_rule_143 rfl rfl ?_
                  refine rr_bipush (v := 7) C dX11_rule_144 (by decide) ?_
                  refine rr_iconst (v := 0) C dX11_rule_146 (by decide) ?_
                  refine rr_bipush (v := 100) C dX11_rule_147 (by decide) ?_
                  replace hr := Option.bind_eq_some_iff.mp hr
                  obtain ⟨u41, e42, hr⟩ := hr
                  replace hr := Option.bind_eq_some_iff.mp hr
                  obtain ⟨v43, e44, hr⟩ := hr
                  refine rr_callVq (as := [.int l1, .int 7, .int 0, .int 100]) (st := []) (mc' := 0) (ms' := 0) C dX11_rule_149 iv_X11_340 (by decide) e42 rfl (Nat.le_of_ble_eq_true rfl) (c_X11_plain l0 l1 7 0 100 (by omega) e44) (fun v_ h_ n_ q_ => ?_)
                  obtain ⟨q1_, q2_, q3_⟩ := q_
                  subst v_; subst h_; subst n_
                  show WW W0 G 2 _ _ _ 152 [some (.ref l0), some (.int l1)] [.int v43.1] v43.2 n _ _
                  replace hr := Option.bind_eq_some_iff.mp hr
                  obtain ⟨u45, e46, hr⟩ := hr
                  obtain rfl := Option.some.inj hr
                  exact rr_iret (ty := .boolean) C dX11_rule_152 rfl (ckz_s e46) ⟨rfl, rfl, rfl⟩
              · replace hr := (if_neg c118_).symm.trans hr
                refine rr_aload_n (i := 0) C dX11_rule_121 rfl rfl ?_
                refine rr_iload_n (i := 1) C dX11_rule_122 rfl rfl ?_
                refine rr_bipush (v := 6) C dX11_rule_123 (by decide) ?_
                refine rr_iconst (v := 0) C dX11_rule_125 (by decide) ?_
                refine rr_bipush (v := 100) C dX11_rule_126 (by decide) ?_
                replace hr := Option.bind_eq_some_iff.mp hr
                obtain ⟨u47, e48, hr⟩ := hr
                replace hr := Option.bind_eq_some_iff.mp hr
                obtain ⟨v49, e50, hr⟩ := hr
                refine rr_callVq (as := [.int l1, .int 6, .int 0, .int 100]) (st := []) (mc' := 0) (ms' := 0) C dX11_rule_128 iv_X11_340 (by decide) e48 rfl (Nat.le_of_ble_eq_true rfl) (c_X11_plain l0 l1 6 0 100 (by omega) e50) (fun v_ h_ n_ q_ => ?_)
                obtain ⟨q1_, q2_, q3_⟩ := q_
                subst v_; subst h_; subst n_
                show WW W0 G 2 _ _ _ 131 [some (.ref l0), some (.int l1)] [.int v49.1] v49.2 n _ _
                replace hr := Option.bind_eq_some_iff.mp hr
                obtain ⟨u51, e52, hr⟩ := hr
                obtain rfl := Option.some.inj hr
                exact rr_iret (ty := .boolean) C dX11_rule_131 rfl (ckz_s e52) ⟨rfl, rfl, rfl⟩
            · replace hr := (if_neg c98_).symm.trans hr
              refine rr_aload_n (i := 0) C dX11_rule_101 rfl rfl ?_
              refine rr_iload_n (i := 1) C dX11_rule_102 rfl rfl ?_
              refine rr_iconst (v := 5) C dX11_rule_103 (by decide) ?_
              refine rr_iconst (v := 0) C dX11_rule_104 (by decide) ?_
              refine rr_bipush (v := 100) C dX11_rule_105 (by decide) ?_
              replace hr := Option.bind_eq_some_iff.mp hr
              obtain ⟨u53, e54, hr⟩ := hr
              replace hr := Option.bind_eq_some_iff.mp hr
              obtain ⟨v55, e56, hr⟩ := hr
              refine rr_callVq (as := [.int l1, .int 5, .int 0, .int 100]) (st := []) (mc' := 0) (ms' := 0) C dX11_rule_107 iv_X11_340 (by decide) e54 rfl (Nat.le_of_ble_eq_true rfl) (c_X11_plain l0 l1 5 0 100 (by omega) e56) (fun v_ h_ n_ q_ => ?_)
              obtain ⟨q1_, q2_, q3_⟩ := q_
              subst v_; subst h_; subst n_
              show WW W0 G 2 _ _ _ 110 [some (.ref l0), some (.int l1)] [.int v55.1] v55.2 n _ _
              replace hr := Option.bind_eq_some_iff.mp hr
              obtain ⟨u57, e58, hr⟩ := hr
              obtain rfl := Option.some.inj hr
              exact rr_iret (ty := .boolean) C dX11_rule_110 rfl (ckz_s e58) ⟨rfl, rfl, rfl⟩
          · replace hr := (if_neg c76_).symm.trans hr
            refine rr_aload_n (i := 0) C dX11_rule_79 rfl rfl ?_
            refine rr_iload_n (i := 1) C dX11_rule_80 rfl rfl ?_
            refine rr_iconst (v := 4) C dX11_rule_81 (by decide) ?_
            refine rr_bipush (v := 50) C dX11_rule_82 (by decide) ?_
            refine rr_sipush (v := 150) C dX11_rule_84 (by decide) ?_
            replace hr := Option.bind_eq_some_iff.mp hr
            obtain ⟨u59, e60, hr⟩ := hr
            replace hr := Option.bind_eq_some_iff.mp hr
            obtain ⟨v61, e62, hr⟩ := hr
            refine rr_callVq (as := [.int l1, .int 4, .int 50, .int 150]) (st := []) (mc' := 0) (ms' := 0) C dX11_rule_87 iv_X11_340 (by decide) e60 rfl (Nat.le_of_ble_eq_true rfl) (c_X11_plain l0 l1 4 50 150 (by omega) e62) (fun v_ h_ n_ q_ => ?_)
            obtain ⟨q1_, q2_, q3_⟩ := q_
            subst v_; subst h_; subst n_
            show WW W0 G 2 _ _ _ 90 [some (.ref l0), some (.int l1)] [.int v61.1] v61.2 n _ _
            replace hr := Option.bind_eq_some_iff.mp hr
            obtain ⟨u63, e64, hr⟩ := hr
            obtain rfl := Option.some.inj hr
            exact rr_iret (ty := .boolean) C dX11_rule_90 rfl (ckz_s e64) ⟨rfl, rfl, rfl⟩
        · replace hr := (if_neg c55_).symm.trans hr
          refine rr_aload_n (i := 0) C dX11_rule_58 rfl rfl ?_
          refine rr_iload_n (i := 1) C dX11_rule_59 rfl rfl ?_
          refine rr_iconst (v := 3) C dX11_rule_60 (by decide) ?_
          refine rr_iconst (v := 0) C dX11_rule_61 (by decide) ?_
          refine rr_sipush (v := 500) C dX11_rule_62 (by decide) ?_
          replace hr := Option.bind_eq_some_iff.mp hr
          obtain ⟨u65, e66, hr⟩ := hr
          replace hr := Option.bind_eq_some_iff.mp hr
          obtain ⟨v67, e68, hr⟩ := hr
          refine rr_callVq (as := [.int l1, .int 3, .int 0, .int 500]) (st := []) (mc' := 0) (ms' := 0) C dX11_rule_65 iv_X11_340 (by decide) e66 rfl (Nat.le_of_ble_eq_true rfl) (c_X11_plain l0 l1 3 0 500 (by omega) e68) (fun v_ h_ n_ q_ => ?_)
          obtain ⟨q1_, q2_, q3_⟩ := q_
          subst v_; subst h_; subst n_
          show WW W0 G 2 _ _ _ 68 [some (.ref l0), some (.int l1)] [.int v67.1] v67.2 n _ _
          replace hr := Option.bind_eq_some_iff.mp hr
          obtain ⟨u69, e70, hr⟩ := hr
          obtain rfl := Option.some.inj hr
          exact rr_iret (ty := .boolean) C dX11_rule_68 rfl (ckz_s e70) ⟨rfl, rfl, rfl⟩
      · replace hr := (if_neg c39_).symm.trans hr
        refine rr_aload_n (i := 0) C dX11_rule_42 rfl rfl ?_
        refine rr_iload_n (i := 1) C dX11_rule_43 rfl rfl ?_
        replace hr := Option.bind_eq_some_iff.mp hr
        obtain ⟨u71, e72, hr⟩ := hr
        replace hr := Option.bind_eq_some_iff.mp hr
        obtain ⟨v73, e74, hr⟩ := hr
        refine rr_callVq (as := [.int l1]) (st := []) (mc' := 0) (ms' := 0) C dX11_rule_44 iv_X11_335 (by decide) e72 rfl (Nat.le_of_ble_eq_true rfl) (c_X11_target l0 l1 (by omega) e74) (fun v_ h_ n_ q_ => ?_)
        obtain ⟨q1_, q2_, q3_⟩ := q_
        subst v_; subst h_; subst n_
        show WW W0 G 2 _ _ _ 47 [some (.ref l0), some (.int l1)] [.int v73.1] v73.2 n _ _
        replace hr := Option.bind_eq_some_iff.mp hr
        obtain ⟨u75, e76, hr⟩ := hr
        obtain rfl := Option.some.inj hr
        exact rr_iret (ty := .boolean) C dX11_rule_47 rfl (ckz_s e76) ⟨rfl, rfl, rfl⟩
    · replace hr := (if_neg c23_).symm.trans hr
      refine rr_aload_n (i := 0) C dX11_rule_26 rfl rfl ?_
      refine rr_iload_n (i := 1) C dX11_rule_27 rfl rfl ?_
      replace hr := Option.bind_eq_some_iff.mp hr
      obtain ⟨u77, e78, hr⟩ := hr
      replace hr := Option.bind_eq_some_iff.mp hr
      obtain ⟨v79, e80, hr⟩ := hr
      refine rr_callVq (as := [.int l1]) (st := []) (mc' := 0) (ms' := 0) C dX11_rule_28 iv_X11_330 (by decide) e78 rfl (Nat.le_of_ble_eq_true rfl) (c_X11_share l0 l1 (by omega) e80) (fun v_ h_ n_ q_ => ?_)
      obtain ⟨q1_, q2_, q3_⟩ := q_
      subst v_; subst h_; subst n_
      show WW W0 G 2 _ _ _ 31 [some (.ref l0), some (.int l1)] [.int v79.1] v79.2 n _ _
      replace hr := Option.bind_eq_some_iff.mp hr
      obtain ⟨u81, e82, hr⟩ := hr
      obtain rfl := Option.some.inj hr
      exact rr_iret (ty := .boolean) C dX11_rule_31 rfl (ckz_s e82) ⟨rfl, rfl, rfl⟩
  · replace hr := (if_neg c7_).symm.trans hr
    refine rr_aload_n (i := 0) C dX11_rule_10 rfl rfl ?_
    refine rr_iload_n (i := 1) C dX11_rule_11 rfl rfl ?_
    replace hr := Option.bind_eq_some_iff.mp hr
    obtain ⟨u83, e84, hr⟩ := hr
    replace hr := Option.bind_eq_some_iff.mp hr
    obtain ⟨v85, e86, hr⟩ := hr
    refine rr_callVq (as := [.int l1]) (st := []) (mc' := 0) (ms' := 0) C dX11_rule_12 iv_X11_325 (by decide) e84 rfl (Nat.le_of_ble_eq_true rfl) (c_X11_allow l0 l1 (by omega) e86) (fun v_ h_ n_ q_ => ?_)
    obtain ⟨q1_, q2_, q3_⟩ := q_
    subst v_; subst h_; subst n_
    show WW W0 G 2 _ _ _ 15 [some (.ref l0), some (.int l1)] [.int v85.1] v85.2 n _ _
    replace hr := Option.bind_eq_some_iff.mp hr
    obtain ⟨u87, e88, hr⟩ := hr
    obtain rfl := Option.some.inj hr
    exact rr_iret (ty := .boolean) C dX11_rule_15 rfl (ckz_s e88) ⟨rfl, rfl, rfl⟩
def q_X11_own (K : Nat) (h : mm_H) (n : Nat) (l0 : Nat) : Option (Int32 × mm_H) :=
  (rdR h n l0 10 32).bind fun v1 =>
  v1.bind fun a3 =>
  (ldI h n a3 13).bind fun v5 =>
  (ckq h n l0 10).bind fun u8 =>
  (q_X11_rule K h n l0 (3900 + v5)).bind fun v10 =>
  if v10.1 = 0 then
    some (0, v10.2)
  else
  (rdR v10.2 n l0 10 44).bind fun v12 =>
  v12.bind fun a14 =>
  (stI v10.2 n a14 (3900 + v5) (-1)).bind fun h16 =>
  (ckq h16 n l0 10).bind fun u18 =>
  (q_X11_takes K h16 n l0 129117125440371).bind fun v20 =>
  if v20.1 = 0 then
    (ckq v20.2 n l0 10).bind fun u22 =>
    (q_X11_takesSign K v20.2 n l0 59).bind fun v24 =>
    if v24.1 = 0 then
      some (0, v24.2)
    else
    (rdR v24.2 n l0 10 32).bind fun v26 =>
    v26.bind fun a28 =>
    (ldI v24.2 n a28 13).bind fun v30 =>
    (stI v24.2 n a28 13 (v30 + 1)).bind fun h32 =>
    some (1, h32)
  else
  (wrF v20.2 n l0 10 29 (.int 0)).bind fun h34 =>
  (rdR h34 n l0 10 44).bind fun v36 =>
  (ckq h34 n l0 10).bind fun u38 =>
  (q_X11_any K h34 n l0).bind fun v40 =>
  v36.bind fun a42 =>
  (stI v40.2 n a42 (3900 + v5) v40.1).bind fun h44 =>
  (rdR h44 n l0 10 44).bind fun v46 =>
  v46.bind fun a48 =>
  (ldI h44 n a48 (3900 + v5)).bind fun v50 =>
  if v50 = (-1) then
    some (0, h44)
  else
  (ckq h44 n l0 10).bind fun u52 =>
  (q_X11_takesSign K h44 n l0 59).bind fun v54 =>
  if v54.1 = 0 then
    some (0, v54.2)
  else
  (rdR v54.2 n l0 10 32).bind fun v56 =>
  v56.bind fun a58 =>
  (ldI v54.2 n a58 13).bind fun v60 =>
  (stI v54.2 n a58 13 (v60 + 1)).bind fun h62 =>
  some (1, h62)
set_option maxRecDepth 100000 in
set_option maxHeartbeats 4000000 in
theorem c_X11_own {K : Nat} {G : mm_G} {l : Launch} {h : mm_H} {n : Nat} (l0 : Nat) {r_ : Int32 × mm_H} (hn : 48 ≤ n) (hr : q_X11_own K h n l0 = some r_) : Sp G l yX11_own cX11_own 2 (some .boolean) 52 0 0 [.ref l0] h n (fun v h' n' => v = some (.int r_.1) ∧ h' = r_.2 ∧ n' = n) := by
  refine Sp_of (by decide +kernel) (Nat.le_of_ble_eq_true rfl) hn ?_
  intro W0 hwl C
  subst hwl
  unfold q_X11_own at hr
  show WW W0 G 2 0 0 _ 0 [some (.ref l0), none] [] h n 0 0
  refine rr_sipush (v := 3900) C dX11_own_0 (by decide) ?_
  refine rr_aload_n (i := 0) C dX11_own_3 rfl rfl ?_
  replace hr := Option.bind_eq_some_iff.mp hr
  obtain ⟨v1, e2, hr⟩ := hr
  refine rr_rdR C dX11_own_4 fl_X11_69 e2 ?_
  refine rr_bipush (v := 13) C dX11_own_7 (by decide) ?_
  replace hr := Option.bind_eq_some_iff.mp hr
  obtain ⟨a3, e4, hr⟩ := hr
  subst e4
  replace hr := Option.bind_eq_some_iff.mp hr
  obtain ⟨v5, e6, hr⟩ := hr
  refine rr_ldI C dX11_own_9 e6 ?_
  refine rr_iadd C dX11_own_10 ?_
  refine rr_istore_n (i := 1) C dX11_own_11 rfl (by decide) ?_
  show WW W0 G 2 _ _ _ 12 [some (.ref l0), some (.int (3900 + v5))] [] h n _ _
  refine rr_aload_n (i := 0) C dX11_own_12 rfl rfl ?_
  refine rr_iload_n (i := 1) C dX11_own_13 rfl rfl ?_
  replace hr := Option.bind_eq_some_iff.mp hr
  obtain ⟨u8, e9, hr⟩ := hr
  replace hr := Option.bind_eq_some_iff.mp hr
  obtain ⟨v10, e11, hr⟩ := hr
  refine rr_callVq (as := [.int (3900 + v5)]) (st := []) (mc' := 0) (ms' := 0) C dX11_own_14 iv_X11_354 (by decide) e9 rfl (Nat.le_of_ble_eq_true rfl) (c_X11_rule l0 (3900 + v5) (by omega) e11) (fun v_ h_ n_ q_ => ?_)
  obtain ⟨q1_, q2_, q3_⟩ := q_
  subst v_; subst h_; subst n_
  show WW W0 G 2 _ _ _ 17 [some (.ref l0), some (.int (3900 + v5))] [.int v10.1] v10.2 n _ _
  refine rr_if_ne (tgt := 22) C dX11_own_17 (by decide) (fun c17_ => ?_) (fun c17_ => ?_)
  · replace hr := (if_neg c17_).symm.trans hr
    refine rr_aload_n (i := 0) C dX11_own_22 rfl rfl ?_
    replace hr := Option.bind_eq_some_iff.mp hr
    obtain ⟨v12, e13, hr⟩ := hr
    refine rr_rdR C dX11_own_23 fl_X11_105 e13 ?_
    refine rr_iload_n (i := 1) C dX11_own_26 rfl rfl ?_
    refine rr_iconst (v := (-1)) C dX11_own_27 (by decide) ?_
    replace hr := Option.bind_eq_some_iff.mp hr
    obtain ⟨a14, e15, hr⟩ := hr
    subst e15
    replace hr := Option.bind_eq_some_iff.mp hr
    obtain ⟨h16, e17, hr⟩ := hr
    refine rr_stI C dX11_own_28 e17 ?_
    refine rr_aload_n (i := 0) C dX11_own_29 rfl rfl ?_
    refine rr_ldc2 C dX11_own_30 ct_X11_357 ?_
    replace hr := Option.bind_eq_some_iff.mp hr
    obtain ⟨u18, e19, hr⟩ := hr
    replace hr := Option.bind_eq_some_iff.mp hr
    obtain ⟨v20, e21, hr⟩ := hr
    refine rr_callVq (as := [.long 129117125440371]) (st := []) (mc' := 0) (ms' := 0) C dX11_own_33 iv_X11_254 (by decide) e19 rfl (Nat.le_of_ble_eq_true rfl) (c_X11_takes l0 129117125440371 (by omega) e21) (fun v_ h_ n_ q_ => ?_)
    obtain ⟨q1_, q2_, q3_⟩ := q_
    subst v_; subst h_; subst n_
    show WW W0 G 2 _ _ _ 36 [some (.ref l0), some (.int (3900 + v5))] [.int v20.1] v20.2 n _ _
    refine rr_if_eq (tgt := 66) C dX11_own_36 (by decide) (fun c36_ => ?_) (fun c36_ => ?_)
    · replace hr := (if_pos c36_).symm.trans hr
      refine rr_aload_n (i := 0) C dX11_own_66 rfl rfl ?_
      refine rr_bipush (v := 59) C dX11_own_67 (by decide) ?_
      replace hr := Option.bind_eq_some_iff.mp hr
      obtain ⟨u22, e23, hr⟩ := hr
      replace hr := Option.bind_eq_some_iff.mp hr
      obtain ⟨v24, e25, hr⟩ := hr
      refine rr_callVq (as := [.int 59]) (st := []) (mc' := 0) (ms' := 0) C dX11_own_69 iv_X11_281 (by decide) e23 rfl (Nat.le_of_ble_eq_true rfl) (c_X11_takesSign l0 59 (by omega) e25) (fun v_ h_ n_ q_ => ?_)
      obtain ⟨q1_, q2_, q3_⟩ := q_
      subst v_; subst h_; subst n_
      show WW W0 G 2 _ _ _ 72 [some (.ref l0), some (.int (3900 + v5))] [.int v24.1] v24.2 n _ _
      refine rr_if_ne (tgt := 77) C dX11_own_72 (by decide) (fun c72_ => ?_) (fun c72_ => ?_)
      · replace hr := (if_neg c72_).symm.trans hr
        refine rr_aload_n (i := 0) C dX11_own_77 rfl rfl ?_
        replace hr := Option.bind_eq_some_iff.mp hr
        obtain ⟨v26, e27, hr⟩ := hr
        refine rr_rdR C dX11_own_78 fl_X11_69 e27 ?_
        refine rr_bipush (v := 13) C dX11_own_81 (by decide) ?_
        refine rr_dup2 C dX11_own_83 rfl (rf_cat _) ?_
        replace hr := Option.bind_eq_some_iff.mp hr
        obtain ⟨a28, e29, hr⟩ := hr
        subst e29
        replace hr := Option.bind_eq_some_iff.mp hr
        obtain ⟨v30, e31, hr⟩ := hr
        refine rr_ldI C dX11_own_84 e31 ?_
        refine rr_iconst (v := 1) C dX11_own_85 (by decide) ?_
        refine rr_iadd C dX11_own_86 ?_
        replace hr := Option.bind_eq_some_iff.mp hr
        obtain ⟨h32, e33, hr⟩ := hr
        refine rr_stI C dX11_own_87 e33 ?_
        refine rr_iconst (v := 1) C dX11_own_88 (by decide) ?_
        obtain rfl := Option.some.inj hr
        exact rr_iret (ty := .boolean) C dX11_own_89 rfl rfl ⟨rfl, rfl, rfl⟩
      · replace hr := (if_pos c72_).symm.trans hr
        refine rr_iconst (v := 0) C dX11_own_75 (by decide) ?_
        obtain rfl := Option.some.inj hr
        exact rr_iret (ty := .boolean) C dX11_own_76 rfl rfl ⟨rfl, rfl, rfl⟩
    · replace hr := (if_neg c36_).symm.trans hr
      refine rr_aload_n (i := 0) C dX11_own_39 rfl rfl ?_
      refine rr_iconst (v := 0) C dX11_own_40 (by decide) ?_
      replace hr := Option.bind_eq_some_iff.mp hr
      obtain ⟨h34, e35, hr⟩ := hr
      refine rr_wrF C dX11_own_41 fp_X11_275 rfl rfl e35 ?_
      refine rr_aload_n (i := 0) C dX11_own_44 rfl rfl ?_
      replace hr := Option.bind_eq_some_iff.mp hr
      obtain ⟨v36, e37, hr⟩ := hr
      refine rr_rdR C dX11_own_45 fl_X11_105 e37 ?_
      refine rr_iload_n (i := 1) C dX11_own_48 rfl rfl ?_
      refine rr_aload_n (i := 0) C dX11_own_49 rfl rfl ?_
      replace hr := Option.bind_eq_some_iff.mp hr
      obtain ⟨u38, e39, hr⟩ := hr
      replace hr := Option.bind_eq_some_iff.mp hr
      obtain ⟨v40, e41, hr⟩ := hr
      refine rr_callVq (as := []) (st := [.int (3900 + v5), va_rf v36]) (mc' := 0) (ms' := 0) C dX11_own_50 iv_X11_278 (by decide) e39 rfl (by rcases v36 with _ | _ <;> exact Nat.le_of_ble_eq_true rfl) (c_X11_any l0 (by omega) e41) (fun v_ h_ n_ q_ => ?_)
      obtain ⟨q1_, q2_, q3_⟩ := q_
      subst v_; subst h_; subst n_
      show WW W0 G 2 _ _ _ 53 [some (.ref l0), some (.int (3900 + v5))] [.int v40.1, .int (3900 + v5), va_rf v36] v40.2 n _ _
      replace hr := Option.bind_eq_some_iff.mp hr
      obtain ⟨a42, e43, hr⟩ := hr
      subst e43
      replace hr := Option.bind_eq_some_iff.mp hr
      obtain ⟨h44, e45, hr⟩ := hr
      refine rr_stI C dX11_own_53 e45 ?_
      refine rr_aload_n (i := 0) C dX11_own_54 rfl rfl ?_
      replace hr := Option.bind_eq_some_iff.mp hr
      obtain ⟨v46, e47, hr⟩ := hr
      refine rr_rdR C dX11_own_55 fl_X11_105 e47 ?_
      refine rr_iload_n (i := 1) C dX11_own_58 rfl rfl ?_
      replace hr := Option.bind_eq_some_iff.mp hr
      obtain ⟨a48, e49, hr⟩ := hr
      subst e49
      replace hr := Option.bind_eq_some_iff.mp hr
      obtain ⟨v50, e51, hr⟩ := hr
      refine rr_ldI C dX11_own_59 e51 ?_
      refine rr_iconst (v := (-1)) C dX11_own_60 (by decide) ?_
      refine rr_icmp_ne (tgt := 66) C dX11_own_61 (by decide) (fun c61_ => ?_) (fun c61_ => ?_)
      · replace hr := (if_neg c61_).symm.trans hr
        refine rr_aload_n (i := 0) C dX11_own_66 rfl rfl ?_
        refine rr_bipush (v := 59) C dX11_own_67 (by decide) ?_
        replace hr := Option.bind_eq_some_iff.mp hr
        obtain ⟨u52, e53, hr⟩ := hr
        replace hr := Option.bind_eq_some_iff.mp hr
        obtain ⟨v54, e55, hr⟩ := hr
        refine rr_callVq (as := [.int 59]) (st := []) (mc' := 0) (ms' := 0) C dX11_own_69 iv_X11_281 (by decide) e53 rfl (Nat.le_of_ble_eq_true rfl) (c_X11_takesSign l0 59 (by omega) e55) (fun v_ h_ n_ q_ => ?_)
        obtain ⟨q1_, q2_, q3_⟩ := q_
        subst v_; subst h_; subst n_
        show WW W0 G 2 _ _ _ 72 [some (.ref l0), some (.int (3900 + v5))] [.int v54.1] v54.2 n _ _
        refine rr_if_ne (tgt := 77) C dX11_own_72 (by decide) (fun c72_ => ?_) (fun c72_ => ?_)
        · replace hr := (if_neg c72_).symm.trans hr
          refine rr_aload_n (i := 0) C dX11_own_77 rfl rfl ?_
          replace hr := Option.bind_eq_some_iff.mp hr
          obtain ⟨v56, e57, hr⟩ := hr
          refine rr_rdR C dX11_own_78 fl_X11_69 e57 ?_
          refine rr_bipush (v := 13) C dX11_own_81 (by decide) ?_
          refine rr_dup2 C dX11_own_83 rfl (rf_cat _) ?_
          replace hr := Option.bind_eq_some_iff.mp hr
          obtain ⟨a58, e59, hr⟩ := hr
          subst e59
          replace hr := Option.bind_eq_some_iff.mp hr
          obtain ⟨v60, e61, hr⟩ := hr
          refine rr_ldI C dX11_own_84 e61 ?_
          refine rr_iconst (v := 1) C dX11_own_85 (by decide) ?_
          refine rr_iadd C dX11_own_86 ?_
          replace hr := Option.bind_eq_some_iff.mp hr
          obtain ⟨h62, e63, hr⟩ := hr
          refine rr_stI C dX11_own_87 e63 ?_
          refine rr_iconst (v := 1) C dX11_own_88 (by decide) ?_
          obtain rfl := Option.some.inj hr
          exact rr_iret (ty := .boolean) C dX11_own_89 rfl rfl ⟨rfl, rfl, rfl⟩
        · replace hr := (if_pos c72_).symm.trans hr
          refine rr_iconst (v := 0) C dX11_own_75 (by decide) ?_
          obtain rfl := Option.some.inj hr
          exact rr_iret (ty := .boolean) C dX11_own_76 rfl rfl ⟨rfl, rfl, rfl⟩
      · replace hr := (if_pos c61_).symm.trans hr
        refine rr_iconst (v := 0) C dX11_own_64 (by decide) ?_
        obtain rfl := Option.some.inj hr
        exact rr_iret (ty := .boolean) C dX11_own_65 rfl rfl ⟨rfl, rfl, rfl⟩
  · replace hr := (if_pos c17_).symm.trans hr
    refine rr_iconst (v := 0) C dX11_own_20 (by decide) ?_
    obtain rfl := Option.some.inj hr
    exact rr_iret (ty := .boolean) C dX11_own_21 rfl rfl ⟨rfl, rfl, rfl⟩
def q_X11_strike (K : Nat) (h : mm_H) (n : Nat) (l0 : Nat) (l1 : Int32) : Option (Int32 × mm_H) :=
  (ckq h n l0 10).bind fun u1 =>
  (q_X11_blanks K h n l0).bind fun v3 =>
  (rdI v3 n l0 10 28).bind fun v5 =>
  (ckq v3 n l0 10).bind fun u7 =>
  (q_X11_takesNumber K v3 n l0 0 (l1 - 1)).bind fun v9 =>
  if v9.1 = 0 then
    some (0, v9.2)
  else
  (rdI v9.2 n l0 10 55).bind fun v11 =>
  (rdR v9.2 n l0 10 51).bind fun v13 =>
  v13.bind fun a15 =>
  (ldZ v9.2 n a15 v11).bind fun v17 =>
  if v17 = 0 then
    (ckq v9.2 n l0 10).bind fun u19 =>
    (q_X11_takesSign K v9.2 n l0 59).bind fun v21 =>
    if v21.1 = 0 then
      some (0, v21.2)
    else
    (rdR v21.2 n l0 10 51).bind fun v23 =>
    v23.bind fun a25 =>
    (stZ v21.2 n a25 v11 1).bind fun h27 =>
    some (1, h27)
  else
  (wrF v9.2 n l0 10 28 (.int v5)).bind fun h29 =>
  some (0, h29)
set_option maxRecDepth 100000 in
set_option maxHeartbeats 4000000 in
theorem c_X11_strike {K : Nat} {G : mm_G} {l : Launch} {h : mm_H} {n : Nat} (l0 : Nat) (l1 : Int32) {r_ : Int32 × mm_H} (hn : 48 ≤ n) (hr : q_X11_strike K h n l0 l1 = some r_) : Sp G l yX11_strike cX11_strike 4 (some .boolean) 2 0 0 [.ref l0, .int l1] h n (fun v h' n' => v = some (.int r_.1) ∧ h' = r_.2 ∧ n' = n) := by
  refine Sp_of (by decide +kernel) (Nat.le_of_ble_eq_true rfl) hn ?_
  intro W0 hwl C
  subst hwl
  unfold q_X11_strike at hr
  show WW W0 G 4 0 0 _ 0 [some (.ref l0), some (.int l1), none, none] [] h n 0 0
  refine rr_aload_n (i := 0) C dX11_strike_0 rfl rfl ?_
  replace hr := Option.bind_eq_some_iff.mp hr
  obtain ⟨u1, e2, hr⟩ := hr
  replace hr := Option.bind_eq_some_iff.mp hr
  obtain ⟨v3, e4, hr⟩ := hr
  refine rr_callVq (as := []) (st := []) (mc' := 0) (ms' := 0) C dX11_strike_1 iv_X11_227 (by decide) e2 rfl (Nat.le_of_ble_eq_true rfl) (c_X11_blanks l0 (by omega) e4) (fun v_ h_ n_ q_ => ?_)
  obtain ⟨q1_, q2_, q3_⟩ := q_
  subst v_; subst h_; subst n_
  show WW W0 G 4 _ _ _ 4 [some (.ref l0), some (.int l1), none, none] [] v3 n _ _
  refine rr_aload_n (i := 0) C dX11_strike_4 rfl rfl ?_
  replace hr := Option.bind_eq_some_iff.mp hr
  obtain ⟨v5, e6, hr⟩ := hr
  refine rr_rdI C dX11_strike_5 fl_X11_221 e6 ?_
  refine rr_istore_n (i := 2) C dX11_strike_8 rfl (by decide) ?_
  show WW W0 G 4 _ _ _ 9 [some (.ref l0), some (.int l1), some (.int v5), none] [] v3 n _ _
  refine rr_aload_n (i := 0) C dX11_strike_9 rfl rfl ?_
  refine rr_iconst (v := 0) C dX11_strike_10 (by decide) ?_
  refine rr_iload_n (i := 1) C dX11_strike_11 rfl rfl ?_
  refine rr_iconst (v := 1) C dX11_strike_12 (by decide) ?_
  refine rr_isub C dX11_strike_13 ?_
  replace hr := Option.bind_eq_some_iff.mp hr
  obtain ⟨u7, e8, hr⟩ := hr
  replace hr := Option.bind_eq_some_iff.mp hr
  obtain ⟨v9, e10, hr⟩ := hr
  refine rr_callVq (as := [.int 0, .int (l1 - 1)]) (st := []) (mc' := 0) (ms' := 0) C dX11_strike_14 iv_X11_240 (by decide) e8 rfl (Nat.le_of_ble_eq_true rfl) (c_X11_takesNumber l0 0 (l1 - 1) (by omega) e10) (fun v_ h_ n_ q_ => ?_)
  obtain ⟨q1_, q2_, q3_⟩ := q_
  subst v_; subst h_; subst n_
  show WW W0 G 4 _ _ _ 17 [some (.ref l0), some (.int l1), some (.int v5), none] [.int v9.1] v9.2 n _ _
  refine rr_if_ne (tgt := 22) C dX11_strike_17 (by decide) (fun c17_ => ?_) (fun c17_ => ?_)
  · replace hr := (if_neg c17_).symm.trans hr
    refine rr_aload_n (i := 0) C dX11_strike_22 rfl rfl ?_
    replace hr := Option.bind_eq_some_iff.mp hr
    obtain ⟨v11, e12, hr⟩ := hr
    refine rr_rdI C dX11_strike_23 fl_X11_237 e12 ?_
    refine rr_istore_n (i := 3) C dX11_strike_26 rfl (by decide) ?_
    show WW W0 G 4 _ _ _ 27 [some (.ref l0), some (.int l1), some (.int v5), some (.int v11)] [] v9.2 n _ _
    refine rr_aload_n (i := 0) C dX11_strike_27 rfl rfl ?_
    replace hr := Option.bind_eq_some_iff.mp hr
    obtain ⟨v13, e14, hr⟩ := hr
    refine rr_rdR C dX11_strike_28 fl_X11_127 e14 ?_
    refine rr_iload_n (i := 3) C dX11_strike_31 rfl rfl ?_
    replace hr := Option.bind_eq_some_iff.mp hr
    obtain ⟨a15, e16, hr⟩ := hr
    subst e16
    replace hr := Option.bind_eq_some_iff.mp hr
    obtain ⟨v17, e18, hr⟩ := hr
    refine rr_ldZ C dX11_strike_32 e18 ?_
    refine rr_if_eq (tgt := 43) C dX11_strike_33 (by decide) (fun c33_ => ?_) (fun c33_ => ?_)
    · replace hr := (if_pos c33_).symm.trans hr
      refine rr_aload_n (i := 0) C dX11_strike_43 rfl rfl ?_
      refine rr_bipush (v := 59) C dX11_strike_44 (by decide) ?_
      replace hr := Option.bind_eq_some_iff.mp hr
      obtain ⟨u19, e20, hr⟩ := hr
      replace hr := Option.bind_eq_some_iff.mp hr
      obtain ⟨v21, e22, hr⟩ := hr
      refine rr_callVq (as := [.int 59]) (st := []) (mc' := 0) (ms' := 0) C dX11_strike_46 iv_X11_281 (by decide) e20 rfl (Nat.le_of_ble_eq_true rfl) (c_X11_takesSign l0 59 (by omega) e22) (fun v_ h_ n_ q_ => ?_)
      obtain ⟨q1_, q2_, q3_⟩ := q_
      subst v_; subst h_; subst n_
      show WW W0 G 4 _ _ _ 49 [some (.ref l0), some (.int l1), some (.int v5), some (.int v11)] [.int v21.1] v21.2 n _ _
      refine rr_if_ne (tgt := 54) C dX11_strike_49 (by decide) (fun c49_ => ?_) (fun c49_ => ?_)
      · replace hr := (if_neg c49_).symm.trans hr
        refine rr_aload_n (i := 0) C dX11_strike_54 rfl rfl ?_
        replace hr := Option.bind_eq_some_iff.mp hr
        obtain ⟨v23, e24, hr⟩ := hr
        refine rr_rdR C dX11_strike_55 fl_X11_127 e24 ?_
        refine rr_iload_n (i := 3) C dX11_strike_58 rfl rfl ?_
        refine rr_iconst (v := 1) C dX11_strike_59 (by decide) ?_
        replace hr := Option.bind_eq_some_iff.mp hr
        obtain ⟨a25, e26, hr⟩ := hr
        subst e26
        replace hr := Option.bind_eq_some_iff.mp hr
        obtain ⟨h27, e28, hr⟩ := hr
        refine rr_stZ C dX11_strike_60 e28 ?_
        refine rr_iconst (v := 1) C dX11_strike_61 (by decide) ?_
        obtain rfl := Option.some.inj hr
        exact rr_iret (ty := .boolean) C dX11_strike_62 rfl rfl ⟨rfl, rfl, rfl⟩
      · replace hr := (if_pos c49_).symm.trans hr
        refine rr_iconst (v := 0) C dX11_strike_52 (by decide) ?_
        obtain rfl := Option.some.inj hr
        exact rr_iret (ty := .boolean) C dX11_strike_53 rfl rfl ⟨rfl, rfl, rfl⟩
    · replace hr := (if_neg c33_).symm.trans hr
      refine rr_aload_n (i := 0) C dX11_strike_36 rfl rfl ?_
      refine rr_iload_n (i := 2) C dX11_strike_37 rfl rfl ?_
      replace hr := Option.bind_eq_some_iff.mp hr
      obtain ⟨h29, e30, hr⟩ := hr
      refine rr_wrF C dX11_strike_38 fp_X11_221 rfl rfl e30 ?_
      refine rr_iconst (v := 0) C dX11_strike_41 (by decide) ?_
      obtain rfl := Option.some.inj hr
      exact rr_iret (ty := .boolean) C dX11_strike_42 rfl rfl ⟨rfl, rfl, rfl⟩
  · replace hr := (if_pos c17_).symm.trans hr
    refine rr_iconst (v := 0) C dX11_strike_20 (by decide) ?_
    obtain rfl := Option.some.inj hr
    exact rr_iret (ty := .boolean) C dX11_strike_21 rfl rfl ⟨rfl, rfl, rfl⟩
def q_X11_shifts (K : Nat) (h : mm_H) (n : Nat) (l0 : Nat) (l1 : Int32) (l2 : Int32) (l3 : Int32) : Option (mm_H) :=
  (rdR h n l0 10 36).bind fun v1 =>
  (rdR h n l0 10 36).bind fun v3 =>
  v3.bind fun a5 =>
  (ldI h n a5 l1).bind fun v7 =>
  v1.bind fun a9 =>
  (stI h n a9 l2 v7).bind fun h11 =>
  (rdR h11 n l0 10 37).bind fun v13 =>
  (rdR h11 n l0 10 37).bind fun v15 =>
  v15.bind fun a17 =>
  (ldI h11 n a17 l1).bind fun v19 =>
  v13.bind fun a21 =>
  (stI h11 n a21 l2 v19).bind fun h23 =>
  (rdR h23 n l0 10 38).bind fun v25 =>
  (rdR h23 n l0 10 38).bind fun v27 =>
  v27.bind fun a29 =>
  (ldI h23 n a29 l1).bind fun v31 =>
  v25.bind fun a33 =>
  (stI h23 n a33 l2 v31).bind fun h35 =>
  (rdR h35 n l0 10 39).bind fun v37 =>
  (rdR h35 n l0 10 39).bind fun v39 =>
  v39.bind fun a41 =>
  (ldI h35 n a41 l1).bind fun v43 =>
  v37.bind fun a45 =>
  (stI h35 n a45 l2 v43).bind fun h47 =>
  (rdR h47 n l0 10 40).bind fun v49 =>
  (rdR h47 n l0 10 40).bind fun v51 =>
  v51.bind fun a53 =>
  (ldI h47 n a53 l1).bind fun v55 =>
  v49.bind fun a57 =>
  (stI h47 n a57 l2 v55).bind fun h59 =>
  (rdR h59 n l0 10 41).bind fun v61 =>
  (rdR h59 n l0 10 41).bind fun v63 =>
  v63.bind fun a65 =>
  (ldI h59 n a65 l1).bind fun v67 =>
  v61.bind fun a69 =>
  (stI h59 n a69 l2 v67).bind fun h71 =>
  (rdR h71 n l0 10 42).bind fun v73 =>
  (rdR h71 n l0 10 42).bind fun v75 =>
  v75.bind fun a77 =>
  (ldI h71 n a77 l1).bind fun v79 =>
  v73.bind fun a81 =>
  (stI h71 n a81 l2 v79).bind fun h83 =>
  (rdR h83 n l0 10 43).bind fun v85 =>
  (rdR h83 n l0 10 43).bind fun v87 =>
  v87.bind fun a89 =>
  (ldI h83 n a89 l1).bind fun v91 =>
  v85.bind fun a93 =>
  (stI h83 n a93 l2 v91).bind fun h95 =>
  (rdR h95 n l0 10 44).bind fun v97 =>
  (rdR h95 n l0 10 44).bind fun v99 =>
  v99.bind fun a101 =>
  (ldI h95 n a101 l1).bind fun v103 =>
  if v103 = (-1) then
    v97.bind fun a105 =>
    (stI h95 n a105 l2 (-1)).bind fun h107 =>
    some h107
  else
  (rdR h95 n l0 10 44).bind fun v109 =>
  v109.bind fun a111 =>
  (ldI h95 n a111 l1).bind fun v113 =>
  v97.bind fun a115 =>
  (stI h95 n a115 l2 (v113 + l3)).bind fun h117 =>
  some h117
set_option maxRecDepth 100000 in
set_option maxHeartbeats 4000000 in
theorem c_X11_shifts {K : Nat} {G : mm_G} {l : Launch} {h : mm_H} {n : Nat} (l0 : Nat) (l1 : Int32) (l2 : Int32) (l3 : Int32) {r_ : mm_H} (hn : 48 ≤ n) (hr : q_X11_shifts K h n l0 l1 l2 l3 = some r_) : Sp G l yX11_shifts cX11_shifts 4 none 0 0 0 [.ref l0, .int l1, .int l2, .int l3] h n (fun v h' n' => v = none ∧ h' = r_ ∧ n' = n) := by
  refine Sp_of (by decide +kernel) (Nat.le_of_ble_eq_true rfl) hn ?_
  intro W0 hwl C
  subst hwl
  unfold q_X11_shifts at hr
  show WW W0 G 4 0 0 _ 0 [some (.ref l0), some (.int l1), some (.int l2), some (.int l3)] [] h n 0 0
  refine rr_aload_n (i := 0) C dX11_shifts_0 rfl rfl ?_
  replace hr := Option.bind_eq_some_iff.mp hr
  obtain ⟨v1, e2, hr⟩ := hr
  refine rr_rdR C dX11_shifts_1 fl_X11_81 e2 ?_
  refine rr_iload_n (i := 2) C dX11_shifts_4 rfl rfl ?_
  refine rr_aload_n (i := 0) C dX11_shifts_5 rfl rfl ?_
  replace hr := Option.bind_eq_some_iff.mp hr
  obtain ⟨v3, e4, hr⟩ := hr
  refine rr_rdR C dX11_shifts_6 fl_X11_81 e4 ?_
  refine rr_iload_n (i := 1) C dX11_shifts_9 rfl rfl ?_
  replace hr := Option.bind_eq_some_iff.mp hr
  obtain ⟨a5, e6, hr⟩ := hr
  subst e6
  replace hr := Option.bind_eq_some_iff.mp hr
  obtain ⟨v7, e8, hr⟩ := hr
  refine rr_ldI C dX11_shifts_10 e8 ?_
  replace hr := Option.bind_eq_some_iff.mp hr
  obtain ⟨a9, e10, hr⟩ := hr
  subst e10
  replace hr := Option.bind_eq_some_iff.mp hr
  obtain ⟨h11, e12, hr⟩ := hr
  refine rr_stI C dX11_shifts_11 e12 ?_
  refine rr_aload_n (i := 0) C dX11_shifts_12 rfl rfl ?_
  replace hr := Option.bind_eq_some_iff.mp hr
  obtain ⟨v13, e14, hr⟩ := hr
  refine rr_rdR C dX11_shifts_13 fl_X11_84 e14 ?_
  refine rr_iload_n (i := 2) C dX11_shifts_16 rfl rfl ?_
  refine rr_aload_n (i := 0) C dX11_shifts_17 rfl rfl ?_
  replace hr := Option.bind_eq_some_iff.mp hr
  obtain ⟨v15, e16, hr⟩ := hr
  refine rr_rdR C dX11_shifts_18 fl_X11_84 e16 ?_
  refine rr_iload_n (i := 1) C dX11_shifts_21 rfl rfl ?_
  replace hr := Option.bind_eq_some_iff.mp hr
  obtain ⟨a17, e18, hr⟩ := hr
  subst e18
  replace hr := Option.bind_eq_some_iff.mp hr
  obtain ⟨v19, e20, hr⟩ := hr
  refine rr_ldI C dX11_shifts_22 e20 ?_
  replace hr := Option.bind_eq_some_iff.mp hr
  obtain ⟨a21, e22, hr⟩ := hr
  subst e22
  replace hr := Option.bind_eq_some_iff.mp hr
  obtain ⟨h23, e24, hr⟩ := hr
  refine rr_stI C dX11_shifts_23 e24 ?_
  refine rr_aload_n (i := 0) C dX11_shifts_24 rfl rfl ?_
  replace hr := Option.bind_eq_some_iff.mp hr
  obtain ⟨v25, e26, hr⟩ := hr
  refine rr_rdR C dX11_shifts_25 fl_X11_87 e26 ?_
  refine rr_iload_n (i := 2) C dX11_shifts_28 rfl rfl ?_
  refine rr_aload_n (i := 0) C dX11_shifts_29 rfl rfl ?_
  replace hr := Option.bind_eq_some_iff.mp hr
  obtain ⟨v27, e28, hr⟩ := hr
  refine rr_rdR C dX11_shifts_30 fl_X11_87 e28 ?_
  refine rr_iload_n (i := 1) C dX11_shifts_33 rfl rfl ?_
  replace hr := Option.bind_eq_some_iff.mp hr
  obtain ⟨a29, e30, hr⟩ := hr
  subst e30
  replace hr := Option.bind_eq_some_iff.mp hr
  obtain ⟨v31, e32, hr⟩ := hr
  refine rr_ldI C dX11_shifts_34 e32 ?_
  replace hr := Option.bind_eq_some_iff.mp hr
  obtain ⟨a33, e34, hr⟩ := hr
  subst e34
  replace hr := Option.bind_eq_some_iff.mp hr
  obtain ⟨h35, e36, hr⟩ := hr
  refine rr_stI C dX11_shifts_35 e36 ?_
  refine rr_aload_n (i := 0) C dX11_shifts_36 rfl rfl ?_
  replace hr := Option.bind_eq_some_iff.mp hr
  obtain ⟨v37, e38, hr⟩ := hr
  refine rr_rdR C dX11_shifts_37 fl_X11_90 e38 ?_
  refine rr_iload_n (i := 2) C dX11_shifts_40 rfl rfl ?_
  refine rr_aload_n (i := 0) C dX11_shifts_41 rfl rfl ?_
  replace hr := Option.bind_eq_some_iff.mp hr
  obtain ⟨v39, e40, hr⟩ := hr
  refine rr_rdR C dX11_shifts_42 fl_X11_90 e40 ?_
  refine rr_iload_n (i := 1) C dX11_shifts_45 rfl rfl ?_
  replace hr := Option.bind_eq_some_iff.mp hr
  obtain ⟨a41, e42, hr⟩ := hr
  subst e42
  replace hr := Option.bind_eq_some_iff.mp hr
  obtain ⟨v43, e44, hr⟩ := hr
  refine rr_ldI C dX11_shifts_46 e44 ?_
  replace hr := Option.bind_eq_some_iff.mp hr
  obtain ⟨a45, e46, hr⟩ := hr
  subst e46
  replace hr := Option.bind_eq_some_iff.mp hr
  obtain ⟨h47, e48, hr⟩ := hr
  refine rr_stI C dX11_shifts_47 e48 ?_
  refine rr_aload_n (i := 0) C dX11_shifts_48 rfl rfl ?_
  replace hr := Option.bind_eq_some_iff.mp hr
  obtain ⟨v49, e50, hr⟩ := hr
  refine rr_rdR C dX11_shifts_49 fl_X11_93 e50 ?_
  refine rr_iload_n (i := 2) C dX11_shifts_52 rfl rfl ?_
  refine rr_aload_n (i := 0) C dX11_shifts_53 rfl rfl ?_
  replace hr := Option.bind_eq_some_iff.mp hr
  obtain ⟨v51, e52, hr⟩ := hr
  refine rr_rdR C dX11_shifts_54 fl_X11_93 e52 ?_
  refine rr_iload_n (i := 1) C dX11_shifts_57 rfl rfl ?_
  replace hr := Option.bind_eq_some_iff.mp hr
  obtain ⟨a53, e54, hr⟩ := hr
  subst e54
  replace hr := Option.bind_eq_some_iff.mp hr
  obtain ⟨v55, e56, hr⟩ := hr
  refine rr_ldI C dX11_shifts_58 e56 ?_
  replace hr := Option.bind_eq_some_iff.mp hr
  obtain ⟨a57, e58, hr⟩ := hr
  subst e58
  replace hr := Option.bind_eq_some_iff.mp hr
  obtain ⟨h59, e60, hr⟩ := hr
  refine rr_stI C dX11_shifts_59 e60 ?_
  refine rr_aload_n (i := 0) C dX11_shifts_60 rfl rfl ?_
  replace hr := Option.bind_eq_some_iff.mp hr
  obtain ⟨v61, e62, hr⟩ := hr
  refine rr_rdR C dX11_shifts_61 fl_X11_96 e62 ?_
  refine rr_iload_n (i := 2) C dX11_shifts_64 rfl rfl ?_
  refine rr_aload_n (i := 0) C dX11_shifts_65 rfl rfl ?_
  replace hr := Option.bind_eq_some_iff.mp hr
  obtain ⟨v63, e64, hr⟩ := hr
  refine rr_rdR C dX11_shifts_66 fl_X11_96 e64 ?_
  refine rr_iload_n (i := 1) C dX11_shifts_69 rfl rfl ?_
  replace hr := Option.bind_eq_some_iff.mp hr
  obtain ⟨a65, e66, hr⟩ := hr
  subst e66
  replace hr := Option.bind_eq_some_iff.mp hr
  obtain ⟨v67, e68, hr⟩ := hr
  refine rr_ldI C dX11_shifts_70 e68 ?_
  replace hr := Option.bind_eq_some_iff.mp hr
  obtain ⟨a69, e70, hr⟩ := hr
  subst e70
  replace hr := Option.bind_eq_some_iff.mp hr
  obtain ⟨h71, e72, hr⟩ := hr
  refine rr_stI C dX11_shifts_71 e72 ?_
  refine rr_aload_n (i := 0) C dX11_shifts_72 rfl rfl ?_
  replace hr := Option.bind_eq_some_iff.mp hr
  obtain ⟨v73, e74, hr⟩ := hr
  refine rr_rdR C dX11_shifts_73 fl_X11_99 e74 ?_
  refine rr_iload_n (i := 2) C dX11_shifts_76 rfl rfl ?_
  refine rr_aload_n (i := 0) C dX11_shifts_77 rfl rfl ?_
  replace hr := Option.bind_eq_some_iff.mp hr
  obtain ⟨v75, e76, hr⟩ := hr
  refine rr_rdR C dX11_shifts_78 fl_X11_99 e76 ?_
  refine rr_iload_n (i := 1) C dX11_shifts_81 rfl rfl ?_
  replace hr := Option.bind_eq_some_iff.mp hr
  obtain ⟨a77, e78, hr⟩ := hr
  subst e78
  replace hr := Option.bind_eq_some_iff.mp hr
  obtain ⟨v79, e80, hr⟩ := hr
  refine rr_ldI C dX11_shifts_82 e80 ?_
  replace hr := Option.bind_eq_some_iff.mp hr
  obtain ⟨a81, e82, hr⟩ := hr
  subst e82
  replace hr := Option.bind_eq_some_iff.mp hr
  obtain ⟨h83, e84, hr⟩ := hr
  refine rr_stI C dX11_shifts_83 e84 ?_
  refine rr_aload_n (i := 0) C dX11_shifts_84 rfl rfl ?_
  replace hr := Option.bind_eq_some_iff.mp hr
  obtain ⟨v85, e86, hr⟩ := hr
  refine rr_rdR C dX11_shifts_85 fl_X11_102 e86 ?_
  refine rr_iload_n (i := 2) C dX11_shifts_88 rfl rfl ?_
  refine rr_aload_n (i := 0) C dX11_shifts_89 rfl rfl ?_
  replace hr := Option.bind_eq_some_iff.mp hr
  obtain ⟨v87, e88, hr⟩ := hr
  refine rr_rdR C dX11_shifts_90 fl_X11_102 e88 ?_
  refine rr_iload_n (i := 1) C dX11_shifts_93 rfl rfl ?_
  replace hr := Option.bind_eq_some_iff.mp hr
  obtain ⟨a89, e90, hr⟩ := hr
  subst e90
  replace hr := Option.bind_eq_some_iff.mp hr
  obtain ⟨v91, e92, hr⟩ := hr
  refine rr_ldI C dX11_shifts_94 e92 ?_
  replace hr := Option.bind_eq_some_iff.mp hr
  obtain ⟨a93, e94, hr⟩ := hr
  subst e94
  replace hr := Option.bind_eq_some_iff.mp hr
  obtain ⟨h95, e96, hr⟩ := hr
  refine rr_stI C dX11_shifts_95 e96 ?_
  refine rr_aload_n (i := 0) C dX11_shifts_96 rfl rfl ?_
  replace hr := Option.bind_eq_some_iff.mp hr
  obtain ⟨v97, e98, hr⟩ := hr
  refine rr_rdR C dX11_shifts_97 fl_X11_105 e98 ?_
  refine rr_iload_n (i := 2) C dX11_shifts_100 rfl rfl ?_
  refine rr_aload_n (i := 0) C dX11_shifts_101 rfl rfl ?_
  replace hr := Option.bind_eq_some_iff.mp hr
  obtain ⟨v99, e100, hr⟩ := hr
  refine rr_rdR C dX11_shifts_102 fl_X11_105 e100 ?_
  refine rr_iload_n (i := 1) C dX11_shifts_105 rfl rfl ?_
  replace hr := Option.bind_eq_some_iff.mp hr
  obtain ⟨a101, e102, hr⟩ := hr
  subst e102
  replace hr := Option.bind_eq_some_iff.mp hr
  obtain ⟨v103, e104, hr⟩ := hr
  refine rr_ldI C dX11_shifts_106 e104 ?_
  refine rr_iconst (v := (-1)) C dX11_shifts_107 (by decide) ?_
  refine rr_icmp_ne (tgt := 115) C dX11_shifts_108 (by decide) (fun c108_ => ?_) (fun c108_ => ?_)
  · replace hr := (if_neg c108_).symm.trans hr
    refine rr_aload_n (i := 0) C dX11_shifts_115 rfl rfl ?_
    replace hr := Option.bind_eq_some_iff.mp hr
    obtain ⟨v109, e110, hr⟩ := hr
    refine rr_rdR C dX11_shifts_116 fl_X11_105 e110 ?_
    refine rr_iload_n (i := 1) C dX11_shifts_119 rfl rfl ?_
    replace hr := Option.bind_eq_some_iff.mp hr
    obtain ⟨a111, e112, hr⟩ := hr
    subst e112
    replace hr := Option.bind_eq_some_iff.mp hr
    obtain ⟨v113, e114, hr⟩ := hr
    refine rr_ldI C dX11_shifts_120 e114 ?_
    refine rr_iload_n (i := 3) C dX11_shifts_121 rfl rfl ?_
    refine rr_iadd C dX11_shifts_122 ?_
    replace hr := Option.bind_eq_some_iff.mp hr
    obtain ⟨a115, e116, hr⟩ := hr
    subst e116
    replace hr := Option.bind_eq_some_iff.mp hr
    obtain ⟨h117, e118, hr⟩ := hr
    refine rr_stI C dX11_shifts_123 e118 ?_
    obtain rfl := Option.some.inj hr
    exact rr_vret C dX11_shifts_124 rfl ⟨rfl, rfl, rfl⟩
  · replace hr := (if_pos c108_).symm.trans hr
    refine rr_iconst (v := (-1)) C dX11_shifts_111 (by decide) ?_
    refine rr_goto (tgt := 123) C dX11_shifts_112 (by decide) ?_
    replace hr := Option.bind_eq_some_iff.mp hr
    obtain ⟨a105, e106, hr⟩ := hr
    subst e106
    replace hr := Option.bind_eq_some_iff.mp hr
    obtain ⟨h107, e108, hr⟩ := hr
    refine rr_stI C dX11_shifts_123 e108 ?_
    obtain rfl := Option.some.inj hr
    exact rr_vret C dX11_shifts_124 rfl ⟨rfl, rfl, rfl⟩
def lp_X11_copies_23 (K : Nat) (n : Nat) (l0 : Nat) (l1 : Int32) (l2 : Int32) (l3 : Int32) : Nat → Int32 → mm_H → Option (mm_H)
  | 0, _, _ => none
  | k_ + 1, l4, h =>
    (rdR h n l0 10 32).bind fun v14 =>
    v14.bind fun a16 =>
    (ldI h n a16 l1).bind fun v18 =>
    if v18 ≤ l4 then
      some (h)
    else
    (ckq h n l0 10).bind fun u20 =>
    (q_X11_shifts K h n l0 ((300 * l1) + l4) ((300 * l2) + l4) l3).bind fun v22 =>
    lp_X11_copies_23 K n l0 l1 l2 l3 k_ (l4 + 1) v22
def lp_X11_copies_80 (K : Nat) (n : Nat) (l0 : Nat) (l1 : Int32) (l3 : Int32) : Nat → Int32 → mm_H → Option (mm_H)
  | 0, _, _ => none
  | k_ + 1, l4, h =>
    (rdR h n l0 10 35).bind fun v39 =>
    v39.bind fun a41 =>
    (ldI h n a41 l1).bind fun v43 =>
    if ((6500 * l1) + v43) ≤ l4 then
      some (h)
    else
    (rdR h n l0 10 45).bind fun v45 =>
    (rdR h n l0 10 45).bind fun v47 =>
    v47.bind fun a49 =>
    (ldI h n a49 l4).bind fun v51 =>
    v45.bind fun a53 =>
    (stI h n a53 (l4 + l3) v51).bind fun h55 =>
    (rdR h55 n l0 10 46).bind fun v57 =>
    (rdR h55 n l0 10 46).bind fun v59 =>
    v59.bind fun a61 =>
    (ldI h55 n a61 l4).bind fun v63 =>
    if v63 = (-1) then
      v57.bind fun a65 =>
      (stI h55 n a65 (l4 + l3) (-1)).bind fun h67 =>
      (rdR h67 n l0 10 47).bind fun v69 =>
      (rdR h67 n l0 10 47).bind fun v71 =>
      v71.bind fun a73 =>
      (ldI h67 n a73 l4).bind fun v75 =>
      if v75 = (-1) then
        v69.bind fun a77 =>
        (stI h67 n a77 (l4 + l3) (-1)).bind fun h79 =>
        (rdR h79 n l0 10 48).bind fun v81 =>
        (rdR h79 n l0 10 48).bind fun v83 =>
        v83.bind fun a85 =>
        (ldI h79 n a85 l4).bind fun v87 =>
        v81.bind fun a89 =>
        (stI h79 n a89 (l4 + l3) v87).bind fun h91 =>
        (rdR h91 n l0 10 49).bind fun v93 =>
        (rdR h91 n l0 10 49).bind fun v95 =>
        v95.bind fun a97 =>
        (ldI h91 n a97 l4).bind fun v99 =>
        v93.bind fun a101 =>
        (stI h91 n a101 (l4 + l3) v99).bind fun h103 =>
        (rdR h103 n l0 10 50).bind fun v105 =>
        (rdR h103 n l0 10 50).bind fun v107 =>
        v107.bind fun a109 =>
        (ldI h103 n a109 l4).bind fun v111 =>
        v105.bind fun a113 =>
        (stI h103 n a113 (l4 + l3) v111).bind fun h115 =>
        lp_X11_copies_80 K n l0 l1 l3 k_ (l4 + 1) h115
      else
      (rdR h67 n l0 10 47).bind fun v117 =>
      v117.bind fun a119 =>
      (ldI h67 n a119 l4).bind fun v121 =>
      v69.bind fun a123 =>
      (stI h67 n a123 (l4 + l3) (v121 + l3)).bind fun h125 =>
      (rdR h125 n l0 10 48).bind fun v127 =>
      (rdR h125 n l0 10 48).bind fun v129 =>
      v129.bind fun a131 =>
      (ldI h125 n a131 l4).bind fun v133 =>
      v127.bind fun a135 =>
      (stI h125 n a135 (l4 + l3) v133).bind fun h137 =>
      (rdR h137 n l0 10 49).bind fun v139 =>
      (rdR h137 n l0 10 49).bind fun v141 =>
      v141.bind fun a143 =>
      (ldI h137 n a143 l4).bind fun v145 =>
      v139.bind fun a147 =>
      (stI h137 n a147 (l4 + l3) v145).bind fun h149 =>
      (rdR h149 n l0 10 50).bind fun v151 =>
      (rdR h149 n l0 10 50).bind fun v153 =>
      v153.bind fun a155 =>
      (ldI h149 n a155 l4).bind fun v157 =>
      v151.bind fun a159 =>
      (stI h149 n a159 (l4 + l3) v157).bind fun h161 =>
      lp_X11_copies_80 K n l0 l1 l3 k_ (l4 + 1) h161
    else
    (rdR h55 n l0 10 46).bind fun v163 =>
    v163.bind fun a165 =>
    (ldI h55 n a165 l4).bind fun v167 =>
    v57.bind fun a169 =>
    (stI h55 n a169 (l4 + l3) (v167 + l3)).bind fun h171 =>
    (rdR h171 n l0 10 47).bind fun v173 =>
    (rdR h171 n l0 10 47).bind fun v175 =>
    v175.bind fun a177 =>
    (ldI h171 n a177 l4).bind fun v179 =>
    if v179 = (-1) then
      v173.bind fun a181 =>
      (stI h171 n a181 (l4 + l3) (-1)).bind fun h183 =>
      (rdR h183 n l0 10 48).bind fun v185 =>
      (rdR h183 n l0 10 48).bind fun v187 =>
      v187.bind fun a189 =>
      (ldI h183 n a189 l4).bind fun v191 =>
      v185.bind fun a193 =>
      (stI h183 n a193 (l4 + l3) v191).bind fun h195 =>
      (rdR h195 n l0 10 49).bind fun v197 =>
      (rdR h195 n l0 10 49).bind fun v199 =>
      v199.bind fun a201 =>
      (ldI h195 n a201 l4).bind fun v203 =>
      v197.bind fun a205 =>
      (stI h195 n a205 (l4 + l3) v203).bind fun h207 =>
      (rdR h207 n l0 10 50).bind fun v209 =>
      (rdR h207 n l0 10 50).bind fun v211 =>
      v211.bind fun a213 =>
      (ldI h207 n a213 l4).bind fun v215 =>
      v209.bind fun a217 =>
      (stI h207 n a217 (l4 + l3) v215).bind fun h219 =>
      lp_X11_copies_80 K n l0 l1 l3 k_ (l4 + 1) h219
    else
    (rdR h171 n l0 10 47).bind fun v221 =>
    v221.bind fun a223 =>
    (ldI h171 n a223 l4).bind fun v225 =>
    v173.bind fun a227 =>
    (stI h171 n a227 (l4 + l3) (v225 + l3)).bind fun h229 =>
    (rdR h229 n l0 10 48).bind fun v231 =>
    (rdR h229 n l0 10 48).bind fun v233 =>
    v233.bind fun a235 =>
    (ldI h229 n a235 l4).bind fun v237 =>
    v231.bind fun a239 =>
    (stI h229 n a239 (l4 + l3) v237).bind fun h241 =>
    (rdR h241 n l0 10 49).bind fun v243 =>
    (rdR h241 n l0 10 49).bind fun v245 =>
    v245.bind fun a247 =>
    (ldI h241 n a247 l4).bind fun v249 =>
    v243.bind fun a251 =>
    (stI h241 n a251 (l4 + l3) v249).bind fun h253 =>
    (rdR h253 n l0 10 50).bind fun v255 =>
    (rdR h253 n l0 10 50).bind fun v257 =>
    v257.bind fun a259 =>
    (ldI h253 n a259 l4).bind fun v261 =>
    v255.bind fun a263 =>
    (stI h253 n a263 (l4 + l3) v261).bind fun h265 =>
    lp_X11_copies_80 K n l0 l1 l3 k_ (l4 + 1) h265
def q_X11_copies (K : Nat) (h : mm_H) (n : Nat) (l0 : Nat) (l1 : Int32) (l2 : Int32) : Option (mm_H) :=
  (rdR h n l0 10 32).bind fun v2 =>
  (rdR h n l0 10 32).bind fun v4 =>
  v4.bind fun a6 =>
  (ldI h n a6 l1).bind fun v8 =>
  v2.bind fun a10 =>
  (stI h n a10 l2 v8).bind fun h12 =>
  (lp_X11_copies_23 K n l0 l1 l2 (6500 * (l2 - l1)) K 0 h12).bind fun v24 =>
  (rdR v24 n l0 10 35).bind fun v26 =>
  (rdR v24 n l0 10 35).bind fun v28 =>
  v28.bind fun a30 =>
  (ldI v24 n a30 l1).bind fun v32 =>
  v26.bind fun a34 =>
  (stI v24 n a34 l2 v32).bind fun h36 =>
  (lp_X11_copies_80 K n l0 l1 (6500 * (l2 - l1)) K (6500 * l1) h36).bind fun v267 =>
  some v267
set_option maxRecDepth 100000 in
set_option maxHeartbeats 4000000 in
theorem w_X11_copies_23 {K : Nat} {W0 : mm_X} {G : mm_G} {mc ms kc ks : Nat} {Q_ : State → Prop} {n : Nat} (C : mm_C W0 G cX11_copies yX11_copies.cls 5 mc ms none 1 yX11_copies.name) (hn : 48 ≤ n) (l0 : Nat) (l1 : Int32) (l2 : Int32) (l3 : Int32) : ∀ (k_ : Nat) (l4 : Int32) (h : mm_H) {r_ : mm_H} (hr : lp_X11_copies_23 K n l0 l1 l2 l3 k_ l4 h = some r_) (hx0 : WW W0 G 5 mc ms Q_ 61 [some (.ref l0), some (.int l1), some (.int l2), some (.int l3), none] [] r_ n kc ks), WW W0 G 5 mc ms Q_ 23 [some (.ref l0), some (.int l1), some (.int l2), some (.int l3), some (.int l4)] [] h n kc ks := by
  intro k_
  induction k_ with
  | zero =>
    intro l4 h r_ hr
    cases hr
  | succ k_ ih_ =>
    intro l4 h r_ hr hx0
    unfold lp_X11_copies_23 at hr
    refine rr_iload C dX11_copies_23 rfl ?_
    refine rr_aload_n (i := 0) C dX11_copies_25 rfl rfl ?_
    replace hr := Option.bind_eq_some_iff.mp hr
    obtain ⟨v14, e15, hr⟩ := hr
    refine rr_rdR C dX11_copies_26 fl_X11_69 e15 ?_
    refine rr_iload_n (i := 1) C dX11_copies_29 rfl rfl ?_
    replace hr := Option.bind_eq_some_iff.mp hr
    obtain ⟨a16, e17, hr⟩ := hr
    subst e17
    replace hr := Option.bind_eq_some_iff.mp hr
    obtain ⟨v18, e19, hr⟩ := hr
    refine rr_ldI C dX11_copies_30 e19 ?_
    refine rr_icmp_ge (tgt := 61) C dX11_copies_31 (by decide) (fun c31_ => ?_) (fun c31_ => ?_)
    · replace hr := (if_pos c31_).symm.trans hr
      obtain rfl := Option.some.inj hr
      exact rr_keep [true, true, true, true, false] (hx0)
    · replace hr := (if_neg c31_).symm.trans hr
      refine rr_aload_n (i := 0) C dX11_copies_34 rfl rfl ?_
      refine rr_sipush (v := 300) C dX11_copies_35 (by decide) ?_
      refine rr_iload_n (i := 1) C dX11_copies_38 rfl rfl ?_
      refine rr_imul C dX11_copies_39 ?_
      refine rr_iload C dX11_copies_40 rfl ?_
      refine rr_iadd C dX11_copies_42 ?_
      refine rr_sipush (v := 300) C dX11_copies_43 (by decide) ?_
      refine rr_iload_n (i := 2) C dX11_copies_46 rfl rfl ?_
      refine rr_imul C dX11_copies_47 ?_
      refine rr_iload C dX11_copies_48 rfl ?_
      refine rr_iadd C dX11_copies_50 ?_
      refine rr_iload_n (i := 3) C dX11_copies_51 rfl rfl ?_
      replace hr := Option.bind_eq_some_iff.mp hr
      obtain ⟨u20, e21, hr⟩ := hr
      replace hr := Option.bind_eq_some_iff.mp hr
      obtain ⟨v22, e23, hr⟩ := hr
      refine rr_callVq (as := [.int ((300 * l1) + l4), .int ((300 * l2) + l4), .int l3]) (st := []) (mc' := 0) (ms' := 0) C dX11_copies_52 iv_X11_376 (by decide) e21 rfl (Nat.le_of_ble_eq_true rfl) (c_X11_shifts l0 ((300 * l1) + l4) ((300 * l2) + l4) l3 (by omega) e23) (fun v_ h_ n_ q_ => ?_)
      obtain ⟨q1_, q2_, q3_⟩ := q_
      subst v_; subst h_; subst n_
      show WW W0 G 5 _ _ _ 55 [some (.ref l0), some (.int l1), some (.int l2), some (.int l3), some (.int l4)] [] v22 n _ _
      refine rr_iinc (v := l4 + 1) C dX11_copies_55 rfl rfl ?_
      show WW W0 G 5 _ _ _ 58 [some (.ref l0), some (.int l1), some (.int l2), some (.int l3), some (.int (l4 + 1))] [] v22 n _ _
      refine rr_goto (tgt := 23) C dX11_copies_58 (by decide) ?_
      exact rr_keep [true, true, true, true, true] (ih_ _ _ hr hx0)
set_option maxRecDepth 100000 in
set_option maxHeartbeats 4000000 in
theorem w_X11_copies_80 {K : Nat} {W0 : mm_X} {G : mm_G} {mc ms kc ks : Nat} {Q_ : State → Prop} {n : Nat} (C : mm_C W0 G cX11_copies yX11_copies.cls 5 mc ms none 1 yX11_copies.name) (hn : 48 ≤ n) (l0 : Nat) (l1 : Int32) (l3 : Int32) : ∀ (k_ : Nat) (l4 : Int32) (h : mm_H) {r_ : mm_H} (hr : lp_X11_copies_80 K n l0 l1 l3 k_ l4 h = some r_) (hx0 : WW W0 G 5 mc ms Q_ 233 [none, none, none, none, none] [] r_ n kc ks), WW W0 G 5 mc ms Q_ 80 [some (.ref l0), some (.int l1), none, some (.int l3), some (.int l4)] [] h n kc ks := by
  intro k_
  induction k_ with
  | zero =>
    intro l4 h r_ hr
    cases hr
  | succ k_ ih_ =>
    intro l4 h r_ hr hx0
    unfold lp_X11_copies_80 at hr
    refine rr_iload C dX11_copies_80 rfl ?_
    refine rr_sipush (v := 6500) C dX11_copies_82 (by decide) ?_
    refine rr_iload_n (i := 1) C dX11_copies_85 rfl rfl ?_
    refine rr_imul C dX11_copies_86 ?_
    refine rr_aload_n (i := 0) C dX11_copies_87 rfl rfl ?_
    replace hr := Option.bind_eq_some_iff.mp hr
    obtain ⟨v39, e40, hr⟩ := hr
    refine rr_rdR C dX11_copies_88 fl_X11_78 e40 ?_
    refine rr_iload_n (i := 1) C dX11_copies_91 rfl rfl ?_
    replace hr := Option.bind_eq_some_iff.mp hr
    obtain ⟨a41, e42, hr⟩ := hr
    subst e42
    replace hr := Option.bind_eq_some_iff.mp hr
    obtain ⟨v43, e44, hr⟩ := hr
    refine rr_ldI C dX11_copies_92 e44 ?_
    refine rr_iadd C dX11_copies_93 ?_
    refine rr_icmp_ge (tgt := 233) C dX11_copies_94 (by decide) (fun c94_ => ?_) (fun c94_ => ?_)
    · replace hr := (if_pos c94_).symm.trans hr
      obtain rfl := Option.some.inj hr
      exact rr_keep [false, false, false, false, false] (hx0)
    · replace hr := (if_neg c94_).symm.trans hr
      refine rr_aload_n (i := 0) C dX11_copies_97 rfl rfl ?_
      replace hr := Option.bind_eq_some_iff.mp hr
      obtain ⟨v45, e46, hr⟩ := hr
      refine rr_rdR C dX11_copies_98 fl_X11_109 e46 ?_
      refine rr_iload C dX11_copies_101 rfl ?_
      refine rr_iload_n (i := 3) C dX11_copies_103 rfl rfl ?_
      refine rr_iadd C dX11_copies_104 ?_
      refine rr_aload_n (i := 0) C dX11_copies_105 rfl rfl ?_
      replace hr := Option.bind_eq_some_iff.mp hr
      obtain ⟨v47, e48, hr⟩ := hr
      refine rr_rdR C dX11_copies_106 fl_X11_109 e48 ?_
      refine rr_iload C dX11_copies_109 rfl ?_
      replace hr := Option.bind_eq_some_iff.mp hr
      obtain ⟨a49, e50, hr⟩ := hr
      subst e50
      replace hr := Option.bind_eq_some_iff.mp hr
      obtain ⟨v51, e52, hr⟩ := hr
      refine rr_ldI C dX11_copies_111 e52 ?_
      replace hr := Option.bind_eq_some_iff.mp hr
      obtain ⟨a53, e54, hr⟩ := hr
      subst e54
      replace hr := Option.bind_eq_some_iff.mp hr
      obtain ⟨h55, e56, hr⟩ := hr
      refine rr_stI C dX11_copies_112 e56 ?_
      refine rr_aload_n (i := 0) C dX11_copies_113 rfl rfl ?_
      replace hr := Option.bind_eq_some_iff.mp hr
      obtain ⟨v57, e58, hr⟩ := hr
      refine rr_rdR C dX11_copies_114 fl_X11_112 e58 ?_
      refine rr_iload C dX11_copies_117 rfl ?_
      refine rr_iload_n (i := 3) C dX11_copies_119 rfl rfl ?_
      refine rr_iadd C dX11_copies_120 ?_
      refine rr_aload_n (i := 0) C dX11_copies_121 rfl rfl ?_
      replace hr := Option.bind_eq_some_iff.mp hr
      obtain ⟨v59, e60, hr⟩ := hr
      refine rr_rdR C dX11_copies_122 fl_X11_112 e60 ?_
      refine rr_iload C dX11_copies_125 rfl ?_
      replace hr := Option.bind_eq_some_iff.mp hr
      obtain ⟨a61, e62, hr⟩ := hr
      subst e62
      replace hr := Option.bind_eq_some_iff.mp hr
      obtain ⟨v63, e64, hr⟩ := hr
      refine rr_ldI C dX11_copies_127 e64 ?_
      refine rr_iconst (v := (-1)) C dX11_copies_128 (by decide) ?_
      refine rr_icmp_ne (tgt := 136) C dX11_copies_129 (by decide) (fun c129_ => ?_) (fun c129_ => ?_)
      · replace hr := (if_neg c129_).symm.trans hr
        refine rr_aload_n (i := 0) C dX11_copies_136 rfl rfl ?_
        replace hr := Option.bind_eq_some_iff.mp hr
        obtain ⟨v163, e164, hr⟩ := hr
        refine rr_rdR C dX11_copies_137 fl_X11_112 e164 ?_
        refine rr_iload C dX11_copies_140 rfl ?_
        replace hr := Option.bind_eq_some_iff.mp hr
        obtain ⟨a165, e166, hr⟩ := hr
        subst e166
        replace hr := Option.bind_eq_some_iff.mp hr
        obtain ⟨v167, e168, hr⟩ := hr
        refine rr_ldI C dX11_copies_142 e168 ?_
        refine rr_iload_n (i := 3) C dX11_copies_143 rfl rfl ?_
        refine rr_iadd C dX11_copies_144 ?_
        replace hr := Option.bind_eq_some_iff.mp hr
        obtain ⟨a169, e170, hr⟩ := hr
        subst e170
        replace hr := Option.bind_eq_some_iff.mp hr
        obtain ⟨h171, e172, hr⟩ := hr
        refine rr_stI C dX11_copies_145 e172 ?_
        refine rr_aload_n (i := 0) C dX11_copies_146 rfl rfl ?_
        replace hr := Option.bind_eq_some_iff.mp hr
        obtain ⟨v173, e174, hr⟩ := hr
        refine rr_rdR C dX11_copies_147 fl_X11_115 e174 ?_
        refine rr_iload C dX11_copies_150 rfl ?_
        refine rr_iload_n (i := 3) C dX11_copies_152 rfl rfl ?_
        refine rr_iadd C dX11_copies_153 ?_
        refine rr_aload_n (i := 0) C dX11_copies_154 rfl rfl ?_
        replace hr := Option.bind_eq_some_iff.mp hr
        obtain ⟨v175, e176, hr⟩ := hr
        refine rr_rdR C dX11_copies_155 fl_X11_115 e176 ?_
        refine rr_iload C dX11_copies_158 rfl ?_
        replace hr := Option.bind_eq_some_iff.mp hr
        obtain ⟨a177, e178, hr⟩ := hr
        subst e178
        replace hr := Option.bind_eq_some_iff.mp hr
        obtain ⟨v179, e180, hr⟩ := hr
        refine rr_ldI C dX11_copies_160 e180 ?_
        refine rr_iconst (v := (-1)) C dX11_copies_161 (by decide) ?_
        refine rr_icmp_ne (tgt := 169) C dX11_copies_162 (by decide) (fun c162_ => ?_) (fun c162_ => ?_)
        · replace hr := (if_neg c162_).symm.trans hr
          refine rr_aload_n (i := 0) C dX11_copies_169 rfl rfl ?_
          replace hr := Option.bind_eq_some_iff.mp hr
          obtain ⟨v221, e222, hr⟩ := hr
          refine rr_rdR C dX11_copies_170 fl_X11_115 e222 ?_
          refine rr_iload C dX11_copies_173 rfl ?_
          replace hr := Option.bind_eq_some_iff.mp hr
          obtain ⟨a223, e224, hr⟩ := hr
          subst e224
          replace hr := Option.bind_eq_some_iff.mp hr
          obtain ⟨v225, e226, hr⟩ := hr
          refine rr_ldI C dX11_copies_175 e226 ?_
          refine rr_iload_n (i := 3) C dX11_copies_176 rfl rfl ?_
          refine rr_iadd C dX11_copies_177 ?_
          replace hr := Option.bind_eq_some_iff.mp hr
          obtain ⟨a227, e228, hr⟩ := hr
          subst e228
          replace hr := Option.bind_eq_some_iff.mp hr
          obtain ⟨h229, e230, hr⟩ := hr
          refine rr_stI C dX11_copies_178 e230 ?_
          refine rr_aload_n (i := 0) C dX11_copies_179 rfl rfl ?_
          replace hr := Option.bind_eq_some_iff.mp hr
          obtain ⟨v231, e232, hr⟩ := hr
          refine rr_rdR C dX11_copies_180 fl_X11_118 e232 ?_
          refine rr_iload C dX11_copies_183 rfl ?_
          refine rr_iload_n (i := 3) C dX11_copies_185 rfl rfl ?_
          refine rr_iadd C dX11_copies_186 ?_
          refine rr_aload_n (i := 0) C dX11_copies_187 rfl rfl ?_
          replace hr := Option.bind_eq_some_iff.mp hr
          obtain ⟨v233, e234, hr⟩ := hr
          refine rr_rdR C dX11_copies_188 fl_X11_118 e234 ?_
          refine rr_iload C dX11_copies_191 rfl ?_
          replace hr := Option.bind_eq_some_iff.mp hr
          obtain ⟨a235, e236, hr⟩ := hr
          subst e236
          replace hr := Option.bind_eq_some_iff.mp hr
          obtain ⟨v237, e238, hr⟩ := hr
          refine rr_ldI C dX11_copies_193 e238 ?_
          replace hr := Option.bind_eq_some_iff.mp hr
          obtain ⟨a239, e240, hr⟩ := hr
          subst e240
          replace hr := Option.bind_eq_some_iff.mp hr
          obtain ⟨h241, e242, hr⟩ := hr
          refine rr_stI C dX11_copies_194 e242 ?_
          refine rr_aload_n (i := 0) C dX11_copies_195 rfl rfl ?_
          replace hr := Option.bind_eq_some_iff.mp hr
          obtain ⟨v243, e244, hr⟩ := hr
          refine rr_rdR C dX11_copies_196 fl_X11_121 e244 ?_
          refine rr_iload C dX11_copies_199 rfl ?_
          refine rr_iload_n (i := 3) C dX11_copies_201 rfl rfl ?_
          refine rr_iadd C dX11_copies_202 ?_
          refine rr_aload_n (i := 0) C dX11_copies_203 rfl rfl ?_
          replace hr := Option.bind_eq_some_iff.mp hr
          obtain ⟨v245, e246, hr⟩ := hr
          refine rr_rdR C dX11_copies_204 fl_X11_121 e246 ?_
          refine rr_iload C dX11_copies_207 rfl ?_
          replace hr := Option.bind_eq_some_iff.mp hr
          obtain ⟨a247, e248, hr⟩ := hr
          subst e248
          replace hr := Option.bind_eq_some_iff.mp hr
          obtain ⟨v249, e250, hr⟩ := hr
          refine rr_ldI C dX11_copies_209 e250 ?_
          replace hr := Option.bind_eq_some_iff.mp hr
          obtain ⟨a251, e252, hr⟩ := hr
          subst e252
          replace hr := Option.bind_eq_some_iff.mp hr
          obtain ⟨h253, e254, hr⟩ := hr
          refine rr_stI C dX11_copies_210 e254 ?_
          refine rr_aload_n (i := 0) C dX11_copies_211 rfl rfl ?_
          replace hr := Option.bind_eq_some_iff.mp hr
          obtain ⟨v255, e256, hr⟩ := hr
          refine rr_rdR C dX11_copies_212 fl_X11_124 e256 ?_
          refine rr_iload C dX11_copies_215 rfl ?_
          refine rr_iload_n (i := 3) C dX11_copies_217 rfl rfl ?_
          refine rr_iadd C dX11_copies_218 ?_
          refine rr_aload_n (i := 0) C dX11_copies_219 rfl rfl ?_
          replace hr := Option.bind_eq_some_iff.mp hr
          obtain ⟨v257, e258, hr⟩ := hr
          refine rr_rdR C dX11_copies_220 fl_X11_124 e258 ?_
          refine rr_iload C dX11_copies_223 rfl ?_
          replace hr := Option.bind_eq_some_iff.mp hr
          obtain ⟨a259, e260, hr⟩ := hr
          subst e260
          replace hr := Option.bind_eq_some_iff.mp hr
          obtain ⟨v261, e262, hr⟩ := hr
          refine rr_ldI C dX11_copies_225 e262 ?_
          replace hr := Option.bind_eq_some_iff.mp hr
          obtain ⟨a263, e264, hr⟩ := hr
          subst e264
          replace hr := Option.bind_eq_some_iff.mp hr
          obtain ⟨h265, e266, hr⟩ := hr
          refine rr_stI C dX11_copies_226 e266 ?_
          refine rr_iinc (v := l4 + 1) C dX11_copies_227 rfl rfl ?_
          show WW W0 G 5 _ _ _ 230 [some (.ref l0), some (.int l1), none, some (.int l3), some (.int (l4 + 1))] [] h265 n _ _
          refine rr_goto (tgt := 80) C dX11_copies_230 (by decide) ?_
          exact rr_keep [true, true, false, true, true] (ih_ _ _ hr hx0)
        · replace hr := (if_pos c162_).symm.trans hr
          refine rr_iconst (v := (-1)) C dX11_copies_165 (by decide) ?_
          refine rr_goto (tgt := 178) C dX11_copies_166 (by decide) ?_
          replace hr := Option.bind_eq_some_iff.mp hr
          obtain ⟨a181, e182, hr⟩ := hr
          subst e182
          replace hr := Option.bind_eq_some_iff.mp hr
          obtain ⟨h183, e184, hr⟩ := hr
          refine rr_stI C dX11_copies_178 e184 ?_
          refine rr_aload_n (i := 0) C dX11_copies_179 rfl rfl ?_
          replace hr := Option.bind_eq_some_iff.mp hr
          obtain ⟨v185, e186, hr⟩ := hr
          refine rr_rdR C dX11_copies_180 fl_X11_118 e186 ?_
          refine rr_iload C dX11_copies_183 rfl ?_
          refine rr_iload_n (i := 3) C dX11_copies_185 rfl rfl ?_
          refine rr_iadd C dX11_copies_186 ?_
          refine rr_aload_n (i := 0) C dX11_copies_187 rfl rfl ?_
          replace hr := Option.bind_eq_some_iff.mp hr
          obtain ⟨v187, e188, hr⟩ := hr
          refine rr_rdR C dX11_copies_188 fl_X11_118 e188 ?_
          refine rr_iload C dX11_copies_191 rfl ?_
          replace hr := Option.bind_eq_some_iff.mp hr
          obtain ⟨a189, e190, hr⟩ := hr
          subst e190
          replace hr := Option.bind_eq_some_iff.mp hr
          obtain ⟨v191, e192, hr⟩ := hr
          refine rr_ldI C dX11_copies_193 e192 ?_
          replace hr := Option.bind_eq_some_iff.mp hr
          obtain ⟨a193, e194, hr⟩ := hr
          subst e194
          replace hr := Option.bind_eq_some_iff.mp hr
          obtain ⟨h195, e196, hr⟩ := hr
          refine rr_stI C dX11_copies_194 e196 ?_
          refine rr_aload_n (i := 0) C dX11_copies_195 rfl rfl ?_
          replace hr := Option.bind_eq_some_iff.mp hr
          obtain ⟨v197, e198, hr⟩ := hr
          refine rr_rdR C dX11_copies_196 fl_X11_121 e198 ?_
          refine rr_iload C dX11_copies_199 rfl ?_
          refine rr_iload_n (i := 3) C dX11_copies_201 rfl rfl ?_
          refine rr_iadd C dX11_copies_202 ?_
          refine rr_aload_n (i := 0) C dX11_copies_203 rfl rfl ?_
          replace hr := Option.bind_eq_some_iff.mp hr
          obtain ⟨v199, e200, hr⟩ := hr
          refine rr_rdR C dX11_copies_204 fl_X11_121 e200 ?_
          refine rr_iload C dX11_copies_207 rfl ?_
          replace hr := Option.bind_eq_some_iff.mp hr
          obtain ⟨a201, e202, hr⟩ := hr
          subst e202
          replace hr := Option.bind_eq_some_iff.mp hr
          obtain ⟨v203, e204, hr⟩ := hr
          refine rr_ldI C dX11_copies_209 e204 ?_
          replace hr := Option.bind_eq_some_iff.mp hr
          obtain ⟨a205, e206, hr⟩ := hr
          subst e206
          replace hr := Option.bind_eq_some_iff.mp hr
          obtain ⟨h207, e208, hr⟩ := hr
          refine rr_stI C dX11_copies_210 e208 ?_
          refine rr_aload_n (i := 0) C dX11_copies_211 rfl rfl ?_
          replace hr := Option.bind_eq_some_iff.mp hr
          obtain ⟨v209, e210, hr⟩ := hr
          refine rr_rdR C dX11_copies_212 fl_X11_124 e210 ?_
          refine rr_iload C dX11_copies_215 rfl ?_
          refine rr_iload_n (i := 3) C dX11_copies_217 rfl rfl ?_
          refine rr_iadd C dX11_copies_218 ?_
          refine rr_aload_n (i := 0) C dX11_copies_219 rfl rfl ?_
          replace hr := Option.bind_eq_some_iff.mp hr
          obtain ⟨v211, e212, hr⟩ := hr
          refine rr_rdR C dX11_copies_220 fl_X11_124 e212 ?_
          refine rr_iload C dX11_copies_223 rfl ?_
          replace hr := Option.bind_eq_some_iff.mp hr
          obtain ⟨a213, e214, hr⟩ := hr
          subst e214
          replace hr := Option.bind_eq_some_iff.mp hr
          obtain ⟨v215, e216, hr⟩ := hr
          refine rr_ldI C dX11_copies_225 e216 ?_
          replace hr := Option.bind_eq_some_iff.mp hr
          obtain ⟨a217, e218, hr⟩ := hr
          subst e218
          replace hr := Option.bind_eq_some_iff.mp hr
          obtain ⟨h219, e220, hr⟩ := hr
          refine rr_stI C dX11_copies_226 e220 ?_
          refine rr_iinc (v := l4 + 1) C dX11_copies_227 rfl rfl ?_
          show WW W0 G 5 _ _ _ 230 [some (.ref l0), some (.int l1), none, some (.int l3), some (.int (l4 + 1))] [] h219 n _ _
          refine rr_goto (tgt := 80) C dX11_copies_230 (by decide) ?_
          exact rr_keep [true, true, false, true, true] (ih_ _ _ hr hx0)
      · replace hr := (if_pos c129_).symm.trans hr
        refine rr_iconst (v := (-1)) C dX11_copies_132 (by decide) ?_
        refine rr_goto (tgt := 145) C dX11_copies_133 (by decide) ?_
        replace hr := Option.bind_eq_some_iff.mp hr
        obtain ⟨a65, e66, hr⟩ := hr
        subst e66
        replace hr := Option.bind_eq_some_iff.mp hr
        obtain ⟨h67, e68, hr⟩ := hr
        refine rr_stI C dX11_copies_145 e68 ?_
        refine rr_aload_n (i := 0) C dX11_copies_146 rfl rfl ?_
        replace hr := Option.bind_eq_some_iff.mp hr
        obtain ⟨v69, e70, hr⟩ := hr
        refine rr_rdR C dX11_copies_147 fl_X11_115 e70 ?_
        refine rr_iload C dX11_copies_150 rfl ?_
        refine rr_iload_n (i := 3) C dX11_copies_152 rfl rfl ?_
        refine rr_iadd C dX11_copies_153 ?_
        refine rr_aload_n (i := 0) C dX11_copies_154 rfl rfl ?_
        replace hr := Option.bind_eq_some_iff.mp hr
        obtain ⟨v71, e72, hr⟩ := hr
        refine rr_rdR C dX11_copies_155 fl_X11_115 e72 ?_
        refine rr_iload C dX11_copies_158 rfl ?_
        replace hr := Option.bind_eq_some_iff.mp hr
        obtain ⟨a73, e74, hr⟩ := hr
        subst e74
        replace hr := Option.bind_eq_some_iff.mp hr
        obtain ⟨v75, e76, hr⟩ := hr
        refine rr_ldI C dX11_copies_160 e76 ?_
        refine rr_iconst (v := (-1)) C dX11_copies_161 (by decide) ?_
        refine rr_icmp_ne (tgt := 169) C dX11_copies_162 (by decide) (fun c162_ => ?_) (fun c162_ => ?_)
        · replace hr := (if_neg c162_).symm.trans hr
          refine rr_aload_n (i := 0) C dX11_copies_169 rfl rfl ?_
          replace hr := Option.bind_eq_some_iff.mp hr
          obtain ⟨v117, e118, hr⟩ := hr
          refine rr_rdR C dX11_copies_170 fl_X11_115 e118 ?_
          refine rr_iload C dX11_copies_173 rfl ?_
          replace hr := Option.bind_eq_some_iff.mp hr
          obtain ⟨a119, e120, hr⟩ := hr
          subst e120
          replace hr := Option.bind_eq_some_iff.mp hr
          obtain ⟨v121, e122, hr⟩ := hr
          refine rr_ldI C dX11_copies_175 e122 ?_
          refine rr_iload_n (i := 3) C dX11_copies_176 rfl rfl ?_
          refine rr_iadd C dX11_copies_177 ?_
          replace hr := Option.bind_eq_some_iff.mp hr
          obtain ⟨a123, e124, hr⟩ := hr
          subst e124
          replace hr := Option.bind_eq_some_iff.mp hr
          obtain ⟨h125, e126, hr⟩ := hr
          refine rr_stI C dX11_copies_178 e126 ?_
          refine rr_aload_n (i := 0) C dX11_copies_179 rfl rfl ?_
          replace hr := Option.bind_eq_some_iff.mp hr
          obtain ⟨v127, e128, hr⟩ := hr
          refine rr_rdR C dX11_copies_180 fl_X11_118 e128 ?_
          refine rr_iload C dX11_copies_183 rfl ?_
          refine rr_iload_n (i := 3) C dX11_copies_185 rfl rfl ?_
          refine rr_iadd C dX11_copies_186 ?_
          refine rr_aload_n (i := 0) C dX11_copies_187 rfl rfl ?_
          replace hr := Option.bind_eq_some_iff.mp hr
          obtain ⟨v129, e130, hr⟩ := hr
          refine rr_rdR C dX11_copies_188 fl_X11_118 e130 ?_
          refine rr_iload C dX11_copies_191 rfl ?_
          replace hr := Option.bind_eq_some_iff.mp hr
          obtain ⟨a131, e132, hr⟩ := hr
          subst e132
          replace hr := Option.bind_eq_some_iff.mp hr
          obtain ⟨v133, e134, hr⟩ := hr
          refine rr_ldI C dX11_copies_193 e134 ?_
          replace hr := Option.bind_eq_some_iff.mp hr
          obtain ⟨a135, e136, hr⟩ := hr
          subst e136
          replace hr := Option.bind_eq_some_iff.mp hr
          obtain ⟨h137, e138, hr⟩ := hr
          refine rr_stI C dX11_copies_194 e138 ?_
          refine rr_aload_n (i := 0) C dX11_copies_195 rfl rfl ?_
          replace hr := Option.bind_eq_some_iff.mp hr
          obtain ⟨v139, e140, hr⟩ := hr
          refine rr_rdR C dX11_copies_196 fl_X11_121 e140 ?_
          refine rr_iload C dX11_copies_199 rfl ?_
          refine rr_iload_n (i := 3) C dX11_copies_201 rfl rfl ?_
          refine rr_iadd C dX11_copies_202 ?_
          refine rr_aload_n (i := 0) C dX11_copies_203 rfl rfl ?_
          replace hr := Option.bind_eq_some_iff.mp hr
          obtain ⟨v141, e142, hr⟩ := hr
          refine rr_rdR C dX11_copies_204 fl_X11_121 e142 ?_
          refine rr_iload C dX11_copies_207 rfl ?_
          replace hr := Option.bind_eq_some_iff.mp hr
          obtain ⟨a143, e144, hr⟩ := hr
          subst e144
          replace hr := Option.bind_eq_some_iff.mp hr
          obtain ⟨v145, e146, hr⟩ := hr
          refine rr_ldI C dX11_copies_209 e146 ?_
          replace hr := Option.bind_eq_some_iff.mp hr
          obtain ⟨a147, e148, hr⟩ := hr
          subst e148
          replace hr := Option.bind_eq_some_iff.mp hr
          obtain ⟨h149, e150, hr⟩ := hr
          refine rr_stI C dX11_copies_210 e150 ?_
          refine rr_aload_n (i := 0) C dX11_copies_211 rfl rfl ?_
          replace hr := Option.bind_eq_some_iff.mp hr
          obtain ⟨v151, e152, hr⟩ := hr
          refine rr_rdR C dX11_copies_212 fl_X11_124 e152 ?_
          refine rr_iload C dX11_copies_215 rfl ?_
          refine rr_iload_n (i := 3) C dX11_copies_217 rfl rfl ?_
          refine rr_iadd C dX11_copies_218 ?_
          refine rr_aload_n (i := 0) C dX11_copies_219 rfl rfl ?_
          replace hr := Option.bind_eq_some_iff.mp hr
          obtain ⟨v153, e154, hr⟩ := hr
          refine rr_rdR C dX11_copies_220 fl_X11_124 e154 ?_
          refine rr_iload C dX11_copies_223 rfl ?_
          replace hr := Option.bind_eq_some_iff.mp hr
          obtain ⟨a155, e156, hr⟩ := hr
          subst e156
          replace hr := Option.bind_eq_some_iff.mp hr
          obtain ⟨v157, e158, hr⟩ := hr
          refine rr_ldI C dX11_copies_225 e158 ?_
          replace hr := Option.bind_eq_some_iff.mp hr
          obtain ⟨a159, e160, hr⟩ := hr
          subst e160
          replace hr := Option.bind_eq_some_iff.mp hr
          obtain ⟨h161, e162, hr⟩ := hr
          refine rr_stI C dX11_copies_226 e162 ?_
          refine rr_iinc (v := l4 + 1) C dX11_copies_227 rfl rfl ?_
          show WW W0 G 5 _ _ _ 230 [some (.ref l0), some (.int l1), none, some (.int l3), some (.int (l4 + 1))] [] h161 n _ _
          refine rr_goto (tgt := 80) C dX11_copies_230 (by decide) ?_
          exact rr_keep [true, true, false, true, true] (ih_ _ _ hr hx0)
        · replace hr := (if_pos c162_).symm.trans hr
          refine rr_iconst (v := (-1)) C dX11_copies_165 (by decide) ?_
          refine rr_goto (tgt := 178) C dX11_copies_166 (by decide) ?_
          replace hr := Option.bind_eq_some_iff.mp hr
          obtain ⟨a77, e78, hr⟩ := hr
          subst e78
          replace hr := Option.bind_eq_some_iff.mp hr
          obtain ⟨h79, e80, hr⟩ := hr
          refine rr_stI C dX11_copies_178 e80 ?_
          refine rr_aload_n (i := 0) C dX11_copies_179 rfl rfl ?_
          replace hr := Option.bind_eq_some_iff.mp hr
          obtain ⟨v81, e82, hr⟩ := hr
          refine rr_rdR C dX11_copies_180 fl_X11_118 e82 ?_
          refine rr_iload C dX11_copies_183 rfl ?_
          refine rr_iload_n (i := 3) C dX11_copies_185 rfl rfl ?_
          refine rr_iadd C dX11_copies_186 ?_
          refine rr_aload_n (i := 0) C dX11_copies_187 rfl rfl ?_
          replace hr := Option.bind_eq_some_iff.mp hr
          obtain ⟨v83, e84, hr⟩ := hr
          refine rr_rdR C dX11_copies_188 fl_X11_118 e84 ?_
          refine rr_iload C dX11_copies_191 rfl ?_
          replace hr := Option.bind_eq_some_iff.mp hr
          obtain ⟨a85, e86, hr⟩ := hr
          subst e86
          replace hr := Option.bind_eq_some_iff.mp hr
          obtain ⟨v87, e88, hr⟩ := hr
          refine rr_ldI C dX11_copies_193 e88 ?_
          replace hr := Option.bind_eq_some_iff.mp hr
          obtain ⟨a89, e90, hr⟩ := hr
          subst e90
          replace hr := Option.bind_eq_some_iff.mp hr
          obtain ⟨h91, e92, hr⟩ := hr
          refine rr_stI C dX11_copies_194 e92 ?_
          refine rr_aload_n (i := 0) C dX11_copies_195 rfl rfl ?_
          replace hr := Option.bind_eq_some_iff.mp hr
          obtain ⟨v93, e94, hr⟩ := hr
          refine rr_rdR C dX11_copies_196 fl_X11_121 e94 ?_
          refine rr_iload C dX11_copies_199 rfl ?_
          refine rr_iload_n (i := 3) C dX11_copies_201 rfl rfl ?_
          refine rr_iadd C dX11_copies_202 ?_
          refine rr_aload_n (i := 0) C dX11_copies_203 rfl rfl ?_
          replace hr := Option.bind_eq_some_iff.mp hr
          obtain ⟨v95, e96, hr⟩ := hr
          refine rr_rdR C dX11_copies_204 fl_X11_121 e96 ?_
          refine rr_iload C dX11_copies_207 rfl ?_
          replace hr := Option.bind_eq_some_iff.mp hr
          obtain ⟨a97, e98, hr⟩ := hr
          subst e98
          replace hr := Option.bind_eq_some_iff.mp hr
          obtain ⟨v99, e100, hr⟩ := hr
          refine rr_ldI C dX11_copies_209 e100 ?_
          replace hr := Option.bind_eq_some_iff.mp hr
          obtain ⟨a101, e102, hr⟩ := hr
          subst e102
          replace hr := Option.bind_eq_some_iff.mp hr
          obtain ⟨h103, e104, hr⟩ := hr
          refine rr_stI C dX11_copies_210 e104 ?_
          refine rr_aload_n (i := 0) C dX11_copies_211 rfl rfl ?_
          replace hr := Option.bind_eq_some_iff.mp hr
          obtain ⟨v105, e106, hr⟩ := hr
          refine rr_rdR C dX11_copies_212 fl_X11_124 e106 ?_
          refine rr_iload C dX11_copies_215 rfl ?_
          refine rr_iload_n (i := 3) C dX11_copies_217 rfl rfl ?_
          refine rr_iadd C dX11_copies_218 ?_
          refine rr_aload_n (i := 0) C dX11_copies_219 rfl rfl ?_
          replace hr := Option.bind_eq_some_iff.mp hr
          obtain ⟨v107, e108, hr⟩ := hr
          refine rr_rdR C dX11_copies_220 fl_X11_124 e108 ?_
          refine rr_iload C dX11_copies_223 rfl ?_
          replace hr := Option.bind_eq_some_iff.mp hr
          obtain ⟨a109, e110, hr⟩ := hr
          subst e110
          replace hr := Option.bind_eq_some_iff.mp hr
          obtain ⟨v111, e112, hr⟩ := hr
          refine rr_ldI C dX11_copies_225 e112 ?_
          replace hr := Option.bind_eq_some_iff.mp hr
          obtain ⟨a113, e114, hr⟩ := hr
          subst e114
          replace hr := Option.bind_eq_some_iff.mp hr
          obtain ⟨h115, e116, hr⟩ := hr
          refine rr_stI C dX11_copies_226 e116 ?_
          refine rr_iinc (v := l4 + 1) C dX11_copies_227 rfl rfl ?_
          show WW W0 G 5 _ _ _ 230 [some (.ref l0), some (.int l1), none, some (.int l3), some (.int (l4 + 1))] [] h115 n _ _
          refine rr_goto (tgt := 80) C dX11_copies_230 (by decide) ?_
          exact rr_keep [true, true, false, true, true] (ih_ _ _ hr hx0)
set_option maxRecDepth 100000 in
set_option maxHeartbeats 4000000 in
theorem c_X11_copies {K : Nat} {G : mm_G} {l : Launch} {h : mm_H} {n : Nat} (l0 : Nat) (l1 : Int32) (l2 : Int32) {r_ : mm_H} (hn : 48 ≤ n) (hr : q_X11_copies K h n l0 l1 l2 = some r_) : Sp G l yX11_copies cX11_copies 5 none 1 0 0 [.ref l0, .int l1, .int l2] h n (fun v h' n' => v = none ∧ h' = r_ ∧ n' = n) := by
  refine Sp_of (by decide +kernel) (Nat.le_of_ble_eq_true rfl) hn ?_
  intro W0 hwl C
  subst hwl
  unfold q_X11_copies at hr
  show WW W0 G 5 0 0 _ 0 [some (.ref l0), some (.int l1), some (.int l2), none, none] [] h n 0 0
  refine rr_sipush (v := 6500) C dX11_copies_0 (by decide) ?_
  refine rr_iload_n (i := 2) C dX11_copies_3 rfl rfl ?_
  refine rr_iload_n (i := 1) C dX11_copies_4 rfl rfl ?_
  refine rr_isub C dX11_copies_5 ?_
  refine rr_imul C dX11_copies_6 ?_
  refine rr_istore_n (i := 3) C dX11_copies_7 rfl (by decide) ?_
  show WW W0 G 5 _ _ _ 8 [some (.ref l0), some (.int l1), some (.int l2), some (.int (6500 * (l2 - l1))), none] [] h n _ _
  refine rr_aload_n (i := 0) C dX11_copies_8 rfl rfl ?_
  replace hr := Option.bind_eq_some_iff.mp hr
  obtain ⟨v2, e3, hr⟩ := hr
  refine rr_rdR C dX11_copies_9 fl_X11_69 e3 ?_
  refine rr_iload_n (i := 2) C dX11_copies_12 rfl rfl ?_
  refine rr_aload_n (i := 0) C dX11_copies_13 rfl rfl ?_
  replace hr := Option.bind_eq_some_iff.mp hr
  obtain ⟨v4, e5, hr⟩ := hr
  refine rr_rdR C dX11_copies_14 fl_X11_69 e5 ?_
  refine rr_iload_n (i := 1) C dX11_copies_17 rfl rfl ?_
  replace hr := Option.bind_eq_some_iff.mp hr
  obtain ⟨a6, e7, hr⟩ := hr
  subst e7
  replace hr := Option.bind_eq_some_iff.mp hr
  obtain ⟨v8, e9, hr⟩ := hr
  refine rr_ldI C dX11_copies_18 e9 ?_
  replace hr := Option.bind_eq_some_iff.mp hr
  obtain ⟨a10, e11, hr⟩ := hr
  subst e11
  replace hr := Option.bind_eq_some_iff.mp hr
  obtain ⟨h12, e13, hr⟩ := hr
  refine rr_stI C dX11_copies_19 e13 ?_
  refine rr_iconst (v := 0) C dX11_copies_20 (by decide) ?_
  refine rr_istore C dX11_copies_21 (by decide) ?_
  show WW W0 G 5 _ _ _ 23 [some (.ref l0), some (.int l1), some (.int l2), some (.int (6500 * (l2 - l1))), some (.int 0)] [] h12 n _ _
  replace hr := Option.bind_eq_some_iff.mp hr
  obtain ⟨v24, e25, hr⟩ := hr
  refine rr_keep [true, true, true, true, true] (w_X11_copies_23 C (by omega) l0 l1 l2 (6500 * (l2 - l1)) K 0 h12 e25 ?_)
  show WW W0 G 5 _ _ _ 61 [some (.ref l0), some (.int l1), some (.int l2), some (.int (6500 * (l2 - l1))), none] [] v24 n _ _
  refine rr_aload_n (i := 0) C dX11_copies_61 rfl rfl ?_
  replace hr := Option.bind_eq_some_iff.mp hr
  obtain ⟨v26, e27, hr⟩ := hr
  refine rr_rdR C dX11_copies_62 fl_X11_78 e27 ?_
  refine rr_iload_n (i := 2) C dX11_copies_65 rfl rfl ?_
  refine rr_aload_n (i := 0) C dX11_copies_66 rfl rfl ?_
  replace hr := Option.bind_eq_some_iff.mp hr
  obtain ⟨v28, e29, hr⟩ := hr
  refine rr_rdR C dX11_copies_67 fl_X11_78 e29 ?_
  refine rr_iload_n (i := 1) C dX11_copies_70 rfl rfl ?_
  replace hr := Option.bind_eq_some_iff.mp hr
  obtain ⟨a30, e31, hr⟩ := hr
  subst e31
  replace hr := Option.bind_eq_some_iff.mp hr
  obtain ⟨v32, e33, hr⟩ := hr
  refine rr_ldI C dX11_copies_71 e33 ?_
  replace hr := Option.bind_eq_some_iff.mp hr
  obtain ⟨a34, e35, hr⟩ := hr
  subst e35
  replace hr := Option.bind_eq_some_iff.mp hr
  obtain ⟨h36, e37, hr⟩ := hr
  refine rr_stI C dX11_copies_72 e37 ?_
  refine rr_sipush (v := 6500) C dX11_copies_73 (by decide) ?_
  refine rr_iload_n (i := 1) C dX11_copies_76 rfl rfl ?_
  refine rr_imul C dX11_copies_77 ?_
  refine rr_istore C dX11_copies_78 (by decide) ?_
  show WW W0 G 5 _ _ _ 80 [some (.ref l0), some (.int l1), some (.int l2), some (.int (6500 * (l2 - l1))), some (.int (6500 * l1))] [] h36 n _ _
  replace hr := Option.bind_eq_some_iff.mp hr
  obtain ⟨v267, e268, hr⟩ := hr
  refine rr_keep [true, true, false, true, true] (w_X11_copies_80 C (by omega) l0 l1 (6500 * (l2 - l1)) K (6500 * l1) h36 e268 ?_)
  show WW W0 G 5 _ _ _ 233 [none, none, none, none, none] [] v267 n _ _
  obtain rfl := Option.some.inj hr
  exact rr_vret C dX11_copies_233 rfl ⟨rfl, rfl, rfl⟩
def lp_X11_closes_4 (K : Nat) (n : Nat) (l0 : Nat) (l1 : Int32) : Nat → Int32 → Int32 → mm_H → Option (Int32 × mm_H)
  | 0, _, _, _ => none
  | k_ + 1, l2, l3, h =>
    (rdR h n l0 10 32).bind fun v1 =>
    v1.bind fun a3 =>
    (ldI h n a3 13).bind fun v5 =>
    if v5 ≤ l3 then
      some (l2, h)
    else
    if l1 ≤ l3 then
      (ckq h n l0 10).bind fun u7 =>
      (q_X11_shifts K h n l0 (3900 + l3) (3900 + l2) 0).bind fun v9 =>
      lp_X11_closes_4 K n l0 l1 k_ (l2 + 1) (l3 + 1) v9
    else
    (rdR h n l0 10 51).bind fun v11 =>
    v11.bind fun a13 =>
    (ldZ h n a13 l3).bind fun v15 =>
    if v15 = 0 then
      (ckq h n l0 10).bind fun u17 =>
      (q_X11_shifts K h n l0 (3900 + l3) (3900 + l2) 0).bind fun v19 =>
      lp_X11_closes_4 K n l0 l1 k_ (l2 + 1) (l3 + 1) v19
    else
    lp_X11_closes_4 K n l0 l1 k_ l2 (l3 + 1) h
def q_X11_closes (K : Nat) (h : mm_H) (n : Nat) (l0 : Nat) (l1 : Int32) : Option (mm_H) :=
  (lp_X11_closes_4 K n l0 l1 K 0 0 h).bind fun v21 =>
  (rdR v21.2 n l0 10 32).bind fun v23 =>
  v23.bind fun a25 =>
  (stI v21.2 n a25 13 v21.1).bind fun h27 =>
  some h27
set_option maxRecDepth 100000 in
set_option maxHeartbeats 4000000 in
theorem w_X11_closes_4 {K : Nat} {W0 : mm_X} {G : mm_G} {mc ms kc ks : Nat} {Q_ : State → Prop} {n : Nat} (C : mm_C W0 G cX11_closes yX11_closes.cls 4 mc ms none 1 yX11_closes.name) (hn : 48 ≤ n) (l0 : Nat) (l1 : Int32) : ∀ (k_ : Nat) (l2 : Int32) (l3 : Int32) (h : mm_H) {r_ : Int32 × mm_H} (hr : lp_X11_closes_4 K n l0 l1 k_ l2 l3 h = some r_) (hx0 : WW W0 G 4 mc ms Q_ 56 [some (.ref l0), none, some (.int r_.1), none] [] r_.2 n kc ks), WW W0 G 4 mc ms Q_ 4 [some (.ref l0), some (.int l1), some (.int l2), some (.int l3)] [] h n kc ks := by
  intro k_
  induction k_ with
  | zero =>
    intro l2 l3 h r_ hr
    cases hr
  | succ k_ ih_ =>
    intro l2 l3 h r_ hr hx0
    unfold lp_X11_closes_4 at hr
    refine rr_iload_n (i := 3) C dX11_closes_4 rfl rfl ?_
    refine rr_aload_n (i := 0) C dX11_closes_5 rfl rfl ?_
    replace hr := Option.bind_eq_some_iff.mp hr
    obtain ⟨v1, e2, hr⟩ := hr
    refine rr_rdR C dX11_closes_6 fl_X11_69 e2 ?_
    refine rr_bipush (v := 13) C dX11_closes_9 (by decide) ?_
    replace hr := Option.bind_eq_some_iff.mp hr
    obtain ⟨a3, e4, hr⟩ := hr
    subst e4
    replace hr := Option.bind_eq_some_iff.mp hr
    obtain ⟨v5, e6, hr⟩ := hr
    refine rr_ldI C dX11_closes_11 e6 ?_
    refine rr_icmp_ge (tgt := 56) C dX11_closes_12 (by decide) (fun c12_ => ?_) (fun c12_ => ?_)
    · replace hr := (if_pos c12_).symm.trans hr
      obtain rfl := Option.some.inj hr
      exact rr_keep [true, false, true, false] (hx0)
    · replace hr := (if_neg c12_).symm.trans hr
      refine rr_iload_n (i := 3) C dX11_closes_15 rfl rfl ?_
      refine rr_iload_n (i := 1) C dX11_closes_16 rfl rfl ?_
      refine rr_icmp_ge (tgt := 32) C dX11_closes_17 (by decide) (fun c17_ => ?_) (fun c17_ => ?_)
      · replace hr := (if_pos c17_).symm.trans hr
        refine rr_aload_n (i := 0) C dX11_closes_32 rfl rfl ?_
        refine rr_sipush (v := 3900) C dX11_closes_33 (by decide) ?_
        refine rr_iload_n (i := 3) C dX11_closes_36 rfl rfl ?_
        refine rr_iadd C dX11_closes_37 ?_
        refine rr_sipush (v := 3900) C dX11_closes_38 (by decide) ?_
        refine rr_iload_n (i := 2) C dX11_closes_41 rfl rfl ?_
        refine rr_iadd C dX11_closes_42 ?_
        refine rr_iconst (v := 0) C dX11_closes_43 (by decide) ?_
        replace hr := Option.bind_eq_some_iff.mp hr
        obtain ⟨u7, e8, hr⟩ := hr
        replace hr := Option.bind_eq_some_iff.mp hr
        obtain ⟨v9, e10, hr⟩ := hr
        refine rr_callVq (as := [.int (3900 + l3), .int (3900 + l2), .int 0]) (st := []) (mc' := 0) (ms' := 0) C dX11_closes_44 iv_X11_376 (by decide) e8 rfl (Nat.le_of_ble_eq_true rfl) (c_X11_shifts l0 (3900 + l3) (3900 + l2) 0 (by omega) e10) (fun v_ h_ n_ q_ => ?_)
        obtain ⟨q1_, q2_, q3_⟩ := q_
        subst v_; subst h_; subst n_
        show WW W0 G 4 _ _ _ 47 [some (.ref l0), some (.int l1), some (.int l2), some (.int l3)] [] v9 n _ _
        refine rr_iinc (v := l2 + 1) C dX11_closes_47 rfl rfl ?_
        show WW W0 G 4 _ _ _ 50 [some (.ref l0), some (.int l1), some (.int (l2 + 1)), some (.int l3)] [] v9 n _ _
        refine rr_iinc (v := l3 + 1) C dX11_closes_50 rfl rfl ?_
        show WW W0 G 4 _ _ _ 53 [some (.ref l0), some (.int l1), some (.int (l2 + 1)), some (.int (l3 + 1))] [] v9 n _ _
        refine rr_goto (tgt := 4) C dX11_closes_53 (by decide) ?_
        exact rr_keep [true, true, true, true] (ih_ _ _ _ hr hx0)
      · replace hr := (if_neg c17_).symm.trans hr
        refine rr_aload_n (i := 0) C dX11_closes_20 rfl rfl ?_
        replace hr := Option.bind_eq_some_iff.mp hr
        obtain ⟨v11, e12, hr⟩ := hr
        refine rr_rdR C dX11_closes_21 fl_X11_127 e12 ?_
        refine rr_iload_n (i := 3) C dX11_closes_24 rfl rfl ?_
        replace hr := Option.bind_eq_some_iff.mp hr
        obtain ⟨a13, e14, hr⟩ := hr
        subst e14
        replace hr := Option.bind_eq_some_iff.mp hr
        obtain ⟨v15, e16, hr⟩ := hr
        refine rr_ldZ C dX11_closes_25 e16 ?_
        refine rr_if_eq (tgt := 32) C dX11_closes_26 (by decide) (fun c26_ => ?_) (fun c26_ => ?_)
        · replace hr := (if_pos c26_).symm.trans hr
          refine rr_aload_n (i := 0) C dX11_closes_32 rfl rfl ?_
          refine rr_sipush (v := 3900) C dX11_closes_33 (by decide) ?_
          refine rr_iload_n (i := 3) C dX11_closes_36 rfl rfl ?_
          refine rr_iadd C dX11_closes_37 ?_
          refine rr_sipush (v := 3900) C dX11_closes_38 (by decide) ?_
          refine rr_iload_n (i := 2) C dX11_closes_41 rfl rfl ?_
          refine rr_iadd C dX11_closes_42 ?_
          refine rr_iconst (v := 0) C dX11_closes_43 (by decide) ?_
          replace hr := Option.bind_eq_some_iff.mp hr
          obtain ⟨u17, e18, hr⟩ := hr
          replace hr := Option.bind_eq_some_iff.mp hr
          obtain ⟨v19, e20, hr⟩ := hr
          refine rr_callVq (as := [.int (3900 + l3), .int (3900 + l2), .int 0]) (st := []) (mc' := 0) (ms' := 0) C dX11_closes_44 iv_X11_376 (by decide) e18 rfl (Nat.le_of_ble_eq_true rfl) (c_X11_shifts l0 (3900 + l3) (3900 + l2) 0 (by omega) e20) (fun v_ h_ n_ q_ => ?_)
          obtain ⟨q1_, q2_, q3_⟩ := q_
          subst v_; subst h_; subst n_
          show WW W0 G 4 _ _ _ 47 [some (.ref l0), some (.int l1), some (.int l2), some (.int l3)] [] v19 n _ _
          refine rr_iinc (v := l2 + 1) C dX11_closes_47 rfl rfl ?_
          show WW W0 G 4 _ _ _ 50 [some (.ref l0), some (.int l1), some (.int (l2 + 1)), some (.int l3)] [] v19 n _ _
          refine rr_iinc (v := l3 + 1) C dX11_closes_50 rfl rfl ?_
          show WW W0 G 4 _ _ _ 53 [some (.ref l0), some (.int l1), some (.int (l2 + 1)), some (.int (l3 + 1))] [] v19 n _ _
          refine rr_goto (tgt := 4) C dX11_closes_53 (by decide) ?_
          exact rr_keep [true, true, true, true] (ih_ _ _ _ hr hx0)
        · replace hr := (if_neg c26_).symm.trans hr
          refine rr_goto (tgt := 50) C dX11_closes_29 (by decide) ?_
          refine rr_iinc (v := l3 + 1) C dX11_closes_50 rfl rfl ?_
          show WW W0 G 4 _ _ _ 53 [some (.ref l0), some (.int l1), some (.int l2), some (.int (l3 + 1))] [] h n _ _
          refine rr_goto (tgt := 4) C dX11_closes_53 (by decide) ?_
          exact rr_keep [true, true, true, true] (ih_ _ _ _ hr hx0)
set_option maxRecDepth 100000 in
set_option maxHeartbeats 4000000 in
theorem c_X11_closes {K : Nat} {G : mm_G} {l : Launch} {h : mm_H} {n : Nat} (l0 : Nat) (l1 : Int32) {r_ : mm_H} (hn : 48 ≤ n) (hr : q_X11_closes K h n l0 l1 = some r_) : Sp G l yX11_closes cX11_closes 4 none 1 0 0 [.ref l0, .int l1] h n (fun v h' n' => v = none ∧ h' = r_ ∧ n' = n) := by
  refine Sp_of (by decide +kernel) (Nat.le_of_ble_eq_true rfl) hn ?_
  intro W0 hwl C
  subst hwl
  unfold q_X11_closes at hr
  show WW W0 G 4 0 0 _ 0 [some (.ref l0), some (.int l1), none, none] [] h n 0 0
  refine rr_iconst (v := 0) C dX11_closes_0 (by decide) ?_
  refine rr_istore_n (i := 2) C dX11_closes_1 rfl (by decide) ?_
  show WW W0 G 4 _ _ _ 2 [some (.ref l0), some (.int l1), some (.int 0), none] [] h n _ _
  refine rr_iconst (v := 0) C dX11_closes_2 (by decide) ?_
  refine rr_istore_n (i := 3) C dX11_closes_3 rfl (by decide) ?_
  show WW W0 G 4 _ _ _ 4 [some (.ref l0), some (.int l1), some (.int 0), some (.int 0)] [] h n _ _
  replace hr := Option.bind_eq_some_iff.mp hr
  obtain ⟨v21, e22, hr⟩ := hr
  refine rr_keep [true, true, true, true] (w_X11_closes_4 C (by omega) l0 l1 K 0 0 h e22 ?_)
  show WW W0 G 4 _ _ _ 56 [some (.ref l0), none, some (.int v21.1), none] [] v21.2 n _ _
  refine rr_aload_n (i := 0) C dX11_closes_56 rfl rfl ?_
  replace hr := Option.bind_eq_some_iff.mp hr
  obtain ⟨v23, e24, hr⟩ := hr
  refine rr_rdR C dX11_closes_57 fl_X11_69 e24 ?_
  refine rr_bipush (v := 13) C dX11_closes_60 (by decide) ?_
  refine rr_iload_n (i := 2) C dX11_closes_62 rfl rfl ?_
  replace hr := Option.bind_eq_some_iff.mp hr
  obtain ⟨a25, e26, hr⟩ := hr
  subst e26
  replace hr := Option.bind_eq_some_iff.mp hr
  obtain ⟨h27, e28, hr⟩ := hr
  refine rr_stI C dX11_closes_63 e28 ?_
  obtain rfl := Option.some.inj hr
  exact rr_vret C dX11_closes_64 rfl ⟨rfl, rfl, rfl⟩

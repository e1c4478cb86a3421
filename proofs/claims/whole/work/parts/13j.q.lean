def q_X11_head (K : Nat) (h : mm_H) (n : Nat) (l0 : Nat) (l1 : Int32) : Option (Int32 × mm_H) :=
  (rdR h n l0 10 37).bind fun v1 =>
  (ckq h n l0 10).bind fun u3 =>
  (q_X11_takes K h n l0 7501166).bind fun v5 =>
  if v5.1 = 0 then
    (ckq v5.2 n l0 10).bind fun u7 =>
    (q_X11_takes K v5.2 n l0 482805310835).bind fun v9 =>
    if v9.1 = 0 then
      (ckq v9.2 n l0 10).bind fun u11 =>
      (q_X11_takes K v9.2 n l0 482906432882).bind fun v13 =>
      if v13.1 = 0 then
        (ckq v13.2 n l0 10).bind fun u15 =>
        (q_X11_takes K v13.2 n l0 478694368626).bind fun v17 =>
        if v17.1 = 0 then
          v1.bind fun a19 =>
          (stI v17.2 n a19 l1 (-1)).bind fun h21 =>
          (rdR h21 n l0 10 37).bind fun v23 =>
          v23.bind fun a25 =>
          (ldI h21 n a25 l1).bind fun v27 =>
          if v27 = (-1) then
            some (0, h21)
          else
          some (1, h21)
        else
        v1.bind fun a29 =>
        (stI v17.2 n a29 l1 3).bind fun h31 =>
        (rdR h31 n l0 10 37).bind fun v33 =>
        v33.bind fun a35 =>
        (ldI h31 n a35 l1).bind fun v37 =>
        if v37 = (-1) then
          some (0, h31)
        else
        some (1, h31)
      else
      v1.bind fun a39 =>
      (stI v13.2 n a39 l1 2).bind fun h41 =>
      (rdR h41 n l0 10 37).bind fun v43 =>
      v43.bind fun a45 =>
      (ldI h41 n a45 l1).bind fun v47 =>
      if v47 = (-1) then
        some (0, h41)
      else
      some (1, h41)
    else
    v1.bind fun a49 =>
    (stI v9.2 n a49 l1 1).bind fun h51 =>
    (rdR h51 n l0 10 37).bind fun v53 =>
    v53.bind fun a55 =>
    (ldI h51 n a55 l1).bind fun v57 =>
    if v57 = (-1) then
      some (0, h51)
    else
    some (1, h51)
  else
  v1.bind fun a59 =>
  (stI v5.2 n a59 l1 0).bind fun h61 =>
  (rdR h61 n l0 10 37).bind fun v63 =>
  v63.bind fun a65 =>
  (ldI h61 n a65 l1).bind fun v67 =>
  if v67 = (-1) then
    some (0, h61)
  else
  some (1, h61)
set_option maxRecDepth 100000 in
set_option maxHeartbeats 4000000 in
theorem c_X11_head {K : Nat} {G : mm_G} {l : Launch} {h : mm_H} {n : Nat} (l0 : Nat) (l1 : Int32) {r_ : Int32 × mm_H} (hn : 48 ≤ n) (hr : q_X11_head K h n l0 l1 = some r_) : Sp G l yX11_head cX11_head 2 (some .boolean) 3 0 0 [.ref l0, .int l1] h n (fun v h' n' => v = some (.int r_.1) ∧ h' = r_.2 ∧ n' = n) := by
  refine Sp_of (by decide +kernel) (Nat.le_of_ble_eq_true rfl) hn ?_
  intro W0 hwl C
  subst hwl
  unfold q_X11_head at hr
  show WW W0 G 2 0 0 _ 0 [some (.ref l0), some (.int l1)] [] h n 0 0
  refine rr_aload_n (i := 0) C dX11_head_0 rfl rfl ?_
  replace hr := Option.bind_eq_some_iff.mp hr
  obtain ⟨v1, e2, hr⟩ := hr
  refine rr_rdR C dX11_head_1 fl_X11_84 e2 ?_
  refine rr_iload_n (i := 1) C dX11_head_4 rfl rfl ?_
  refine rr_aload_n (i := 0) C dX11_head_5 rfl rfl ?_
  refine rr_ldc2 C dX11_head_6 ct_X11_292 ?_
  replace hr := Option.bind_eq_some_iff.mp hr
  obtain ⟨u3, e4, hr⟩ := hr
  replace hr := Option.bind_eq_some_iff.mp hr
  obtain ⟨v5, e6, hr⟩ := hr
  refine rr_callVq (as := [.long 7501166]) (st := [.int l1, va_rf v1]) (mc' := 0) (ms' := 0) C dX11_head_9 iv_X11_254 (by decide) e4 rfl (by rcases v1 with _ | _ <;> exact Nat.le_of_ble_eq_true rfl) (c_X11_takes l0 7501166 (by omega) e6) (fun v_ h_ n_ q_ => ?_)
  obtain ⟨q1_, q2_, q3_⟩ := q_
  subst v_; subst h_; subst n_
  show WW W0 G 2 _ _ _ 12 [some (.ref l0), some (.int l1)] [.int v5.1, .int l1, va_rf v1] v5.2 n _ _
  refine rr_if_eq (tgt := 19) C dX11_head_12 (by decide) (fun c12_ => ?_) (fun c12_ => ?_)
  · replace hr := (if_pos c12_).symm.trans hr
    refine rr_aload_n (i := 0) C dX11_head_19 rfl rfl ?_
    refine rr_ldc2 C dX11_head_20 ct_X11_294 ?_
    replace hr := Option.bind_eq_some_iff.mp hr
    obtain ⟨u7, e8, hr⟩ := hr
    replace hr := Option.bind_eq_some_iff.mp hr
    obtain ⟨v9, e10, hr⟩ := hr
    refine rr_callVq (as := [.long 482805310835]) (st := [.int l1, va_rf v1]) (mc' := 0) (ms' := 0) C dX11_head_23 iv_X11_254 (by decide) e8 rfl (by rcases v1 with _ | _ <;> exact Nat.le_of_ble_eq_true rfl) (c_X11_takes l0 482805310835 (by omega) e10) (fun v_ h_ n_ q_ => ?_)
    obtain ⟨q1_, q2_, q3_⟩ := q_
    subst v_; subst h_; subst n_
    show WW W0 G 2 _ _ _ 26 [some (.ref l0), some (.int l1)] [.int v9.1, .int l1, va_rf v1] v9.2 n _ _
    refine rr_if_eq (tgt := 33) C dX11_head_26 (by decide) (fun c26_ => ?_) (fun c26_ => ?_)
    · replace hr := (if_pos c26_).symm.trans hr
      refine rr_aload_n (i := 0) C dX11_head_33 rfl rfl ?_
      refine rr_ldc2 C dX11_head_34 ct_X11_296 ?_
      replace hr := Option.bind_eq_some_iff.mp hr
      obtain ⟨u11, e12, hr⟩ := hr
      replace hr := Option.bind_eq_some_iff.mp hr
      obtain ⟨v13, e14, hr⟩ := hr
      refine rr_callVq (as := [.long 482906432882]) (st := [.int l1, va_rf v1]) (mc' := 0) (ms' := 0) C dX11_head_37 iv_X11_254 (by decide) e12 rfl (by rcases v1 with _ | _ <;> exact Nat.le_of_ble_eq_true rfl) (c_X11_takes l0 482906432882 (by omega) e14) (fun v_ h_ n_ q_ => ?_)
      obtain ⟨q1_, q2_, q3_⟩ := q_
      subst v_; subst h_; subst n_
      show WW W0 G 2 _ _ _ 40 [some (.ref l0), some (.int l1)] [.int v13.1, .int l1, va_rf v1] v13.2 n _ _
      refine rr_if_eq (tgt := 47) C dX11_head_40 (by decide) (fun c40_ => ?_) (fun c40_ => ?_)
      · replace hr := (if_pos c40_).symm.trans hr
        refine rr_aload_n (i := 0) C dX11_head_47 rfl rfl ?_
        refine rr_ldc2 C dX11_head_48 ct_X11_298 ?_
        replace hr := Option.bind_eq_some_iff.mp hr
        obtain ⟨u15, e16, hr⟩ := hr
        replace hr := Option.bind_eq_some_iff.mp hr
        obtain ⟨v17, e18, hr⟩ := hr
        refine rr_callVq (as := [.long 478694368626]) (st := [.int l1, va_rf v1]) (mc' := 0) (ms' := 0) C dX11_head_51 iv_X11_254 (by decide) e16 rfl (by rcases v1 with _ | _ <;> exact Nat.le_of_ble_eq_true rfl) (c_X11_takes l0 478694368626 (by omega) e18) (fun v_ h_ n_ q_ => ?_)
        obtain ⟨q1_, q2_, q3_⟩ := q_
        subst v_; subst h_; subst n_
        show WW W0 G 2 _ _ _ 54 [some (.ref l0), some (.int l1)] [.int v17.1, .int l1, va_rf v1] v17.2 n _ _
        refine rr_if_eq (tgt := 61) C dX11_head_54 (by decide) (fun c54_ => ?_) (fun c54_ => ?_)
        · replace hr := (if_pos c54_).symm.trans hr
          refine rr_iconst (v := (-1)) C dX11_head_61 (by decide) ?_
          replace hr := Option.bind_eq_some_iff.mp hr
          obtain ⟨a19, e20, hr⟩ := hr
          subst e20
          replace hr := Option.bind_eq_some_iff.mp hr
          obtain ⟨h21, e22, hr⟩ := hr
          refine rr_stI C dX11_head_62 e22 ?_
          refine rr_aload_n (i := 0) C dX11_head_63 rfl rfl ?_
          replace hr := Option.bind_eq_some_iff.mp hr
          obtain ⟨v23, e24, hr⟩ := hr
          refine rr_rdR C dX11_head_64 fl_X11_84 e24 ?_
          refine rr_iload_n (i := 1) C dX11_head_67 rfl rfl ?_
          replace hr := Option.bind_eq_some_iff.mp hr
          obtain ⟨a25, e26, hr⟩ := hr
          subst e26
          replace hr := Option.bind_eq_some_iff.mp hr
          obtain ⟨v27, e28, hr⟩ := hr
          refine rr_ldI C dX11_head_68 e28 ?_
          refine rr_iconst (v := (-1)) C dX11_head_69 (by decide) ?_
          refine rr_icmp_eq (tgt := 77) C dX11_head_70 (by decide) (fun c70_ => ?_) (fun c70_ => ?_)
          · replace hr := (if_pos c70_).symm.trans hr
            refine rr_iconst (v := 0) C dX11_head_77 (by decide) ?_
            obtain rfl := Option.some.inj hr
            exact rr_iret (ty := .boolean) C dX11_head_78 rfl rfl ⟨rfl, rfl, rfl⟩
          · replace hr := (if_neg c70_).symm.trans hr
            refine rr_iconst (v := 1) C dX11_head_73 (by decide) ?_
            refine rr_goto (tgt := 78) C dX11_head_74 (by decide) ?_
            obtain rfl := Option.some.inj hr
            exact rr_iret (ty := .boolean) C dX11_head_78 rfl rfl ⟨rfl, rfl, rfl⟩
        · replace hr := (if_neg c54_).symm.trans hr
          refine rr_iconst (v := 3) C dX11_head_57 (by decide) ?_
          refine rr_goto (tgt := 62) C dX11_head_58 (by decide) ?_
          replace hr := Option.bind_eq_some_iff.mp hr
          obtain ⟨a29, e30, hr⟩ := hr
          subst e30
          replace hr := Option.bind_eq_some_iff.mp hr
          obtain ⟨h31, e32, hr⟩ := hr
          refine rr_stI C dX11_head_62 e32 ?_
          refine rr_aload_n (i := 0) C dX11_head_63 rfl rfl ?_
          replace hr := Option.bind_eq_some_iff.mp hr
          obtain ⟨v33, e34, hr⟩ := hr
          refine rr_rdR C dX11_head_64 fl_X11_84 e34 ?_
          refine rr_iload_n (i := 1) C dX11_head_67 rfl rfl ?_
          replace hr := Option.bind_eq_some_iff.mp hr
          obtain ⟨a35, e36, hr⟩ := hr
          subst e36
          replace hr := Option.bind_eq_some_iff.mp hr
          obtain ⟨v37, e38, hr⟩ := hr
          refine rr_ldI C dX11_head_68 e38 ?_
          refine rr_iconst (v := (-1)) C dX11_head_69 (by decide) ?_
          refine rr_icmp_eq (tgt := 77) C dX11_head_70 (by decide) (fun c70_ => ?_) (fun c70_ => ?_)
          · replace hr := (if_pos c70_).symm.trans hr
            refine rr_iconst (v := 0) C dX11_head_77 (by decide) ?_
            obtain rfl := Option.some.inj hr
            exact rr_iret (ty := .boolean) C dX11_head_78 rfl rfl ⟨rfl, rfl, rfl⟩
          · replace hr := (if_neg c70_).symm.trans hr
            refine rr_iconst (v := 1) C dX11_head_73 (by decide) ?_
            refine rr_goto (tgt := 78) C dX11_head_74 (by decide) ?_
            obtain rfl := Option.some.inj hr
            exact rr_iret (ty := .boolean) C dX11_head_78 rfl rfl ⟨rfl, rfl, rfl⟩
      · replace hr := (if_neg c40_).symm.trans hr
        refine rr_iconst (v := 2) C dX11_head_43 (by decide) ?_
        refine rr_goto (tgt := 62) C dX11_head_44 (by decide) ?_
        replace hr := Option.bind_eq_some_iff.mp hr
        obtain ⟨a39, e40, hr⟩ := hr
        subst e40
        replace hr := Option.bind_eq_some_iff.mp hr
        obtain ⟨h41, e42, hr⟩ := hr
        refine rr_stI C dX11_head_62 e42 ?_
        refine rr_aload_n (i := 0) C dX11_head_63 rfl rfl ?_
        replace hr := Option.bind_eq_some_iff.mp hr
        obtain ⟨v43, e44, hr⟩ := hr
        refine rr_rdR C dX11_head_64 fl_X11_84 e44 ?_
        refine rr_iload_n (i := 1) C dX11_head_67 rfl rfl ?_
        replace hr := Option.bind_eq_some_iff.mp hr
        obtain ⟨a45, e46, hr⟩ := hr
        subst e46
        replace hr := Option.bind_eq_some_iff.mp hr
        obtain ⟨v47, e48, hr⟩ := hr
        refine rr_ldI C dX11_head_68 e48 ?_
        refine rr_iconst (v := (-1)) C dX11_head_69 (by decide) ?_
        refine rr_icmp_eq (tgt := 77) C dX11_head_70 (by decide) (fun c70_ => ?_) (fun c70_ => ?_)
        · replace hr := (if_pos c70_).symm.trans hr
          refine rr_iconst (v := 0) C dX11_head_77 (by decide) ?_
          obtain rfl := Option.some.inj hr
          exact rr_iret (ty := .boolean) C dX11_head_78 rfl rfl ⟨rfl, rfl, rfl⟩
        · replace hr := (if_neg c70_).symm.trans hr
          refine rr_iconst (v := 1) C dX11_head_73 (by decide) ?_
          refine rr_goto (tgt := 78) C dX11_head_74 (by decide) ?_
          obtain rfl := Option.some.inj hr
          exact rr_iret (ty := .boolean) C dX11_head_78 rfl rfl ⟨rfl, rfl, rfl⟩
    · replace hr := (if_neg c26_).symm.trans hr
      refine rr_iconst (v := 1) C dX11_head_29 (by decide) ?_
      refine rr_goto (tgt := 62) C dX11_head_30 (by decide) ?_
      replace hr := Option.bind_eq_some_iff.mp hr
      obtain ⟨a49, e50, hr⟩ := hr
      subst e50
      replace hr := Option.bind_eq_some_iff.mp hr
      obtain ⟨h51, e52, hr⟩ := hr
      refine rr_stI C dX11_head_62 e52 ?_
      refine rr_aload_n (i := 0) C dX11_head_63 rfl rfl ?_
      replace hr := Option.bind_eq_some_iff.mp hr
      obtain ⟨v53, e54, hr⟩ := hr
      refine rr_rdR C dX11_head_64 fl_X11_84 e54 ?_
      refine rr_iload_n (i := 1) C dX11_head_67 rfl rfl ?_
      replace hr := Option.bind_eq_some_iff.mp hr
      obtain ⟨a55, e56, hr⟩ := hr
      subst e56
      replace hr := Option.bind_eq_some_iff.mp hr
      obtain ⟨v57, e58, hr⟩ := hr
      refine rr_ldI C dX11_head_68 e58 ?_
      refine rr_iconst (v := (-1)) C dX11_head_69 (by decide) ?_
      refine rr_icmp_eq (tgt := 77) C dX11_head_70 (by decide) (fun c70_ => ?_) (fun c70_ => ?_)
      · replace hr := (if_pos c70_).symm.trans hr
        refine rr_iconst (v := 0) C dX11_head_77 (by decide) ?_
        obtain rfl := Option.some.inj hr
        exact rr_iret (ty := .boolean) C dX11_head_78 rfl rfl ⟨rfl, rfl, rfl⟩
      · replace hr := (if_neg c70_).symm.trans hr
        refine rr_iconst (v := 1) C dX11_head_73 (by decide) ?_
        refine rr_goto (tgt := 78) C dX11_head_74 (by decide) ?_
        obtain rfl := Option.some.inj hr
        exact rr_iret (ty := .boolean) C dX11_head_78 rfl rfl ⟨rfl, rfl, rfl⟩
  · replace hr := (if_neg c12_).symm.trans hr
    refine rr_iconst (v := 0) C dX11_head_15 (by decide) ?_
    refine rr_goto (tgt := 62) C dX11_head_16 (by decide) ?_
    replace hr := Option.bind_eq_some_iff.mp hr
    obtain ⟨a59, e60, hr⟩ := hr
    subst e60
    replace hr := Option.bind_eq_some_iff.mp hr
    obtain ⟨h61, e62, hr⟩ := hr
    refine rr_stI C dX11_head_62 e62 ?_
    refine rr_aload_n (i := 0) C dX11_head_63 rfl rfl ?_
    replace hr := Option.bind_eq_some_iff.mp hr
    obtain ⟨v63, e64, hr⟩ := hr
    refine rr_rdR C dX11_head_64 fl_X11_84 e64 ?_
    refine rr_iload_n (i := 1) C dX11_head_67 rfl rfl ?_
    replace hr := Option.bind_eq_some_iff.mp hr
    obtain ⟨a65, e66, hr⟩ := hr
    subst e66
    replace hr := Option.bind_eq_some_iff.mp hr
    obtain ⟨v67, e68, hr⟩ := hr
    refine rr_ldI C dX11_head_68 e68 ?_
    refine rr_iconst (v := (-1)) C dX11_head_69 (by decide) ?_
    refine rr_icmp_eq (tgt := 77) C dX11_head_70 (by decide) (fun c70_ => ?_) (fun c70_ => ?_)
    · replace hr := (if_pos c70_).symm.trans hr
      refine rr_iconst (v := 0) C dX11_head_77 (by decide) ?_
      obtain rfl := Option.some.inj hr
      exact rr_iret (ty := .boolean) C dX11_head_78 rfl rfl ⟨rfl, rfl, rfl⟩
    · replace hr := (if_neg c70_).symm.trans hr
      refine rr_iconst (v := 1) C dX11_head_73 (by decide) ?_
      refine rr_goto (tgt := 78) C dX11_head_74 (by decide) ?_
      obtain rfl := Option.some.inj hr
      exact rr_iret (ty := .boolean) C dX11_head_78 rfl rfl ⟨rfl, rfl, rfl⟩
def q_X11_allow (K : Nat) (h : mm_H) (n : Nat) (l0 : Nat) (l1 : Int32) : Option (Int32 × mm_H) :=
  (rdR h n l0 10 36).bind fun v1 =>
  v1.bind fun a3 =>
  (stI h n a3 l1 0).bind fun h5 =>
  (ckq h5 n l0 10).bind fun u7 =>
  (q_X11_head K h5 n l0 l1).bind fun v9 =>
  if v9.1 = 0 then
    some (0, v9.2)
  else
  (rdR v9.2 n l0 10 38).bind fun v11 =>
  (ckq v9.2 n l0 10).bind fun u13 =>
  (q_X11_takes K v9.2 n l0 1818848869).bind fun v15 =>
  if v15.1 = 0 then
    (ckq v15.2 n l0 10).bind fun u17 =>
    (q_X11_takes K v15.2 n l0 1835360622).bind fun v19 =>
    if v19.1 = 0 then
      (ckq v19.2 n l0 10).bind fun u21 =>
      (q_X11_takes K v19.2 n l0 1650815860).bind fun v23 =>
      if v23.1 = 0 then
        (ckq v23.2 n l0 10).bind fun u25 =>
        (q_X11_takes K v23.2 n l0 1886151022).bind fun v27 =>
        if v27.1 = 0 then
          v11.bind fun a29 =>
          (stI v27.2 n a29 l1 (-1)).bind fun h31 =>
          (rdR h31 n l0 10 38).bind fun v33 =>
          v33.bind fun a35 =>
          (ldI h31 n a35 l1).bind fun v37 =>
          if v37 = (-1) then
            some (0, h31)
          else
          (rdR h31 n l0 10 39).bind fun v39 =>
          v39.bind fun a41 =>
          (stI h31 n a41 l1 0).bind fun h43 =>
          (rdR h43 n l0 10 38).bind fun v45 =>
          v45.bind fun a47 =>
          (ldI h43 n a47 l1).bind fun v49 =>
          if v49 = 3 then
            (ckq h43 n l0 10).bind fun u51 =>
            (q_X11_takesNumber K h43 n l0 0 200).bind fun v53 =>
            if v53.1 = 0 then
              some (0, v53.2)
            else
            (rdR v53.2 n l0 10 40).bind fun v55 =>
            (rdI v53.2 n l0 10 55).bind fun v57 =>
            v55.bind fun a59 =>
            (stI v53.2 n a59 l1 v57).bind fun h61 =>
            some (1, h61)
          else
          (ckq h43 n l0 10).bind fun u63 =>
          (q_X11_takesNumber K h43 n l0 0 2).bind fun v65 =>
          if v65.1 = 0 then
            some (0, v65.2)
          else
          (rdR v65.2 n l0 10 39).bind fun v67 =>
          (rdI v65.2 n l0 10 55).bind fun v69 =>
          v67.bind fun a71 =>
          (stI v65.2 n a71 l1 v69).bind fun h73 =>
          (ckq h73 n l0 10).bind fun u75 =>
          (q_X11_takesNumber K h73 n l0 0 200).bind fun v77 =>
          if v77.1 = 0 then
            some (0, v77.2)
          else
          (rdR v77.2 n l0 10 40).bind fun v79 =>
          (rdI v77.2 n l0 10 55).bind fun v81 =>
          v79.bind fun a83 =>
          (stI v77.2 n a83 l1 v81).bind fun h85 =>
          some (1, h85)
        else
        v11.bind fun a87 =>
        (stI v27.2 n a87 l1 3).bind fun h89 =>
        (rdR h89 n l0 10 38).bind fun v91 =>
        v91.bind fun a93 =>
        (ldI h89 n a93 l1).bind fun v95 =>
        if v95 = (-1) then
          some (0, h89)
        else
        (rdR h89 n l0 10 39).bind fun v97 =>
        v97.bind fun a99 =>
        (stI h89 n a99 l1 0).bind fun h101 =>
        (rdR h101 n l0 10 38).bind fun v103 =>
        v103.bind fun a105 =>
        (ldI h101 n a105 l1).bind fun v107 =>
        if v107 = 3 then
          (ckq h101 n l0 10).bind fun u109 =>
          (q_X11_takesNumber K h101 n l0 0 200).bind fun v111 =>
          if v111.1 = 0 then
            some (0, v111.2)
          else
          (rdR v111.2 n l0 10 40).bind fun v113 =>
          (rdI v111.2 n l0 10 55).bind fun v115 =>
          v113.bind fun a117 =>
          (stI v111.2 n a117 l1 v115).bind fun h119 =>
          some (1, h119)
        else
        (ckq h101 n l0 10).bind fun u121 =>
        (q_X11_takesNumber K h101 n l0 0 2).bind fun v123 =>
        if v123.1 = 0 then
          some (0, v123.2)
        else
        (rdR v123.2 n l0 10 39).bind fun v125 =>
        (rdI v123.2 n l0 10 55).bind fun v127 =>
        v125.bind fun a129 =>
        (stI v123.2 n a129 l1 v127).bind fun h131 =>
        (ckq h131 n l0 10).bind fun u133 =>
        (q_X11_takesNumber K h131 n l0 0 200).bind fun v135 =>
        if v135.1 = 0 then
          some (0, v135.2)
        else
        (rdR v135.2 n l0 10 40).bind fun v137 =>
        (rdI v135.2 n l0 10 55).bind fun v139 =>
        v137.bind fun a141 =>
        (stI v135.2 n a141 l1 v139).bind fun h143 =>
        some (1, h143)
      else
      v11.bind fun a145 =>
      (stI v23.2 n a145 l1 2).bind fun h147 =>
      (rdR h147 n l0 10 38).bind fun v149 =>
      v149.bind fun a151 =>
      (ldI h147 n a151 l1).bind fun v153 =>
      if v153 = (-1) then
        some (0, h147)
      else
      (rdR h147 n l0 10 39).bind fun v155 =>
      v155.bind fun a157 =>
      (stI h147 n a157 l1 0).bind fun h159 =>
      (rdR h159 n l0 10 38).bind fun v161 =>
      v161.bind fun a163 =>
      (ldI h159 n a163 l1).bind fun v165 =>
      if v165 = 3 then
        (ckq h159 n l0 10).bind fun u167 =>
        (q_X11_takesNumber K h159 n l0 0 200).bind fun v169 =>
        if v169.1 = 0 then
          some (0, v169.2)
        else
        (rdR v169.2 n l0 10 40).bind fun v171 =>
        (rdI v169.2 n l0 10 55).bind fun v173 =>
        v171.bind fun a175 =>
        (stI v169.2 n a175 l1 v173).bind fun h177 =>
        some (1, h177)
      else
      (ckq h159 n l0 10).bind fun u179 =>
      (q_X11_takesNumber K h159 n l0 0 2).bind fun v181 =>
      if v181.1 = 0 then
        some (0, v181.2)
      else
      (rdR v181.2 n l0 10 39).bind fun v183 =>
      (rdI v181.2 n l0 10 55).bind fun v185 =>
      v183.bind fun a187 =>
      (stI v181.2 n a187 l1 v185).bind fun h189 =>
      (ckq h189 n l0 10).bind fun u191 =>
      (q_X11_takesNumber K h189 n l0 0 200).bind fun v193 =>
      if v193.1 = 0 then
        some (0, v193.2)
      else
      (rdR v193.2 n l0 10 40).bind fun v195 =>
      (rdI v193.2 n l0 10 55).bind fun v197 =>
      v195.bind fun a199 =>
      (stI v193.2 n a199 l1 v197).bind fun h201 =>
      some (1, h201)
    else
    v11.bind fun a203 =>
    (stI v19.2 n a203 l1 1).bind fun h205 =>
    (rdR h205 n l0 10 38).bind fun v207 =>
    v207.bind fun a209 =>
    (ldI h205 n a209 l1).bind fun v211 =>
    if v211 = (-1) then
      some (0, h205)
    else
    (rdR h205 n l0 10 39).bind fun v213 =>
    v213.bind fun a215 =>
    (stI h205 n a215 l1 0).bind fun h217 =>
    (rdR h217 n l0 10 38).bind fun v219 =>
    v219.bind fun a221 =>
    (ldI h217 n a221 l1).bind fun v223 =>
    if v223 = 3 then
      (ckq h217 n l0 10).bind fun u225 =>
      (q_X11_takesNumber K h217 n l0 0 200).bind fun v227 =>
      if v227.1 = 0 then
        some (0, v227.2)
      else
      (rdR v227.2 n l0 10 40).bind fun v229 =>
      (rdI v227.2 n l0 10 55).bind fun v231 =>
      v229.bind fun a233 =>
      (stI v227.2 n a233 l1 v231).bind fun h235 =>
      some (1, h235)
    else
    (ckq h217 n l0 10).bind fun u237 =>
    (q_X11_takesNumber K h217 n l0 0 2).bind fun v239 =>
    if v239.1 = 0 then
      some (0, v239.2)
    else
    (rdR v239.2 n l0 10 39).bind fun v241 =>
    (rdI v239.2 n l0 10 55).bind fun v243 =>
    v241.bind fun a245 =>
    (stI v239.2 n a245 l1 v243).bind fun h247 =>
    (ckq h247 n l0 10).bind fun u249 =>
    (q_X11_takesNumber K h247 n l0 0 200).bind fun v251 =>
    if v251.1 = 0 then
      some (0, v251.2)
    else
    (rdR v251.2 n l0 10 40).bind fun v253 =>
    (rdI v251.2 n l0 10 55).bind fun v255 =>
    v253.bind fun a257 =>
    (stI v251.2 n a257 l1 v255).bind fun h259 =>
    some (1, h259)
  else
  v11.bind fun a261 =>
  (stI v15.2 n a261 l1 0).bind fun h263 =>
  (rdR h263 n l0 10 38).bind fun v265 =>
  v265.bind fun a267 =>
  (ldI h263 n a267 l1).bind fun v269 =>
  if v269 = (-1) then
    some (0, h263)
  else
  (rdR h263 n l0 10 39).bind fun v271 =>
  v271.bind fun a273 =>
  (stI h263 n a273 l1 0).bind fun h275 =>
  (rdR h275 n l0 10 38).bind fun v277 =>
  v277.bind fun a279 =>
  (ldI h275 n a279 l1).bind fun v281 =>
  if v281 = 3 then
    (ckq h275 n l0 10).bind fun u283 =>
    (q_X11_takesNumber K h275 n l0 0 200).bind fun v285 =>
    if v285.1 = 0 then
      some (0, v285.2)
    else
    (rdR v285.2 n l0 10 40).bind fun v287 =>
    (rdI v285.2 n l0 10 55).bind fun v289 =>
    v287.bind fun a291 =>
    (stI v285.2 n a291 l1 v289).bind fun h293 =>
    some (1, h293)
  else
  (ckq h275 n l0 10).bind fun u295 =>
  (q_X11_takesNumber K h275 n l0 0 2).bind fun v297 =>
  if v297.1 = 0 then
    some (0, v297.2)
  else
  (rdR v297.2 n l0 10 39).bind fun v299 =>
  (rdI v297.2 n l0 10 55).bind fun v301 =>
  v299.bind fun a303 =>
  (stI v297.2 n a303 l1 v301).bind fun h305 =>
  (ckq h305 n l0 10).bind fun u307 =>
  (q_X11_takesNumber K h305 n l0 0 200).bind fun v309 =>
  if v309.1 = 0 then
    some (0, v309.2)
  else
  (rdR v309.2 n l0 10 40).bind fun v311 =>
  (rdI v309.2 n l0 10 55).bind fun v313 =>
  v311.bind fun a315 =>
  (stI v309.2 n a315 l1 v313).bind fun h317 =>
  some (1, h317)
set_option maxRecDepth 100000 in
set_option maxHeartbeats 4000000 in
theorem c_X11_allow {K : Nat} {G : mm_G} {l : Launch} {h : mm_H} {n : Nat} (l0 : Nat) (l1 : Int32) {r_ : Int32 × mm_H} (hn : 48 ≤ n) (hr : q_X11_allow K h n l0 l1 = some r_) : Sp G l yX11_allow cX11_allow 2 (some .boolean) 4 0 0 [.ref l0, .int l1] h n (fun v h' n' => v = some (.int r_.1) ∧ h' = r_.2 ∧ n' = n) := by
  refine Sp_of (by decide +kernel) (Nat.le_of_ble_eq_true rfl) hn ?_
  intro W0 hwl C
  subst hwl
  unfold q_X11_allow at hr
  show WW W0 G 2 0 0 _ 0 [some (.ref l0), some (.int l1)] [] h n 0 0
  refine rr_aload_n (i := 0) C dX11_allow_0 rfl rfl ?_
  replace hr := Option.bind_eq_some_iff.mp hr
  obtain ⟨v1, e2, hr⟩ := hr
  refine rr_rdR C dX11_allow_1 fl_X11_81 e2 ?_
  refine rr_iload_n (i := 1) C dX11_allow_4 rfl rfl ?_
  refine rr_iconst (v := 0) C dX11_allow_5 (by decide) ?_
  replace hr := Option.bind_eq_some_iff.mp hr
  obtain ⟨a3, e4, hr⟩ := hr
  subst e4
  replace hr := Option.bind_eq_some_iff.mp hr
  obtain ⟨h5, e6, hr⟩ := hr
  refine rr_stI C dX11_allow_6 e6 ?_
  refine rr_aload_n (i := 0) C dX11_allow_7 rfl rfl ?_
  refine rr_iload_n (i := 1) C dX11_allow_8 rfl rfl ?_
  replace hr := Option.bind_eq_some_iff.mp hr
  obtain ⟨u7, e8, hr⟩ := hr
  replace hr := Option.bind_eq_some_iff.mp hr
  obtain ⟨v9, e10, hr⟩ := hr
  refine rr_callVq (as := [.int l1]) (st := []) (mc' := 0) (ms' := 0) C dX11_allow_9 iv_X11_300 (by decide) e8 rfl (Nat.le_of_ble_eq_true rfl) (c_X11_head l0 l1 (by omega) e10) (fun v_ h_ n_ q_ => ?_)
  obtain ⟨q1_, q2_, q3_⟩ := q_
  subst v_; subst h_; subst n_
  show WW W0 G 2 _ _ _ 12 [some (.ref l0), some (.int l1)] [.int v9.1] v9.2 n _ _
  refine rr_if_ne (tgt := 17) C dX11_allow_12 (by decide) (fun c12_ => ?_) (fun c12_ => ?_)
  · replace hr := (if_neg c12_).symm.trans hr
    refine rr_aload_n (i := 0) C dX11_allow_17 rfl rfl ?_
    replace hr := Option.bind_eq_some_iff.mp hr
    obtain ⟨v11, e12, hr⟩ := hr
    refine rr_rdR C dX11_allow_18 fl_X11_87 e12 ?_
    refine rr_iload_n (i := 1) C dX11_allow_21 rfl rfl ?_
    refine rr_aload_n (i := 0) C dX11_allow_22 rfl rfl ?_
    refine rr_ldc2 C dX11_allow_23 ct_X11_303 ?_
    replace hr := Option.bind_eq_some_iff.mp hr
    obtain ⟨u13, e14, hr⟩ := hr
    replace hr := Option.bind_eq_some_iff.mp hr
    obtain ⟨v15, e16, hr⟩ := hr
    refine rr_callVq (as := [.long 1818848869]) (st := [.int l1, va_rf v11]) (mc' := 0) (ms' := 0) C dX11_allow_26 iv_X11_254 (by decide) e14 rfl (by rcases v11 with _ | _ <;> exact Nat.le_of_ble_eq_true rfl) (c_X11_takes l0 1818848869 (by omega) e16) (fun v_ h_ n_ q_ => ?_)
    obtain ⟨q1_, q2_, q3_⟩ := q_
    subst v_; subst h_; subst n_
    show WW W0 G 2 _ _ _ 29 [some (.ref l0), some (.int l1)] [.int v15.1, .int l1, va_rf v11] v15.2 n _ _
    refine rr_if_eq (tgt := 36) C dX11_allow_29 (by decide) (fun c29_ => ?_) (fun c29_ => ?_)
    · replace hr := (if_pos c29_).symm.trans hr
      refine rr_aload_n (i := 0) C dX11_allow_36 rfl rfl ?_
      refine rr_ldc2 C dX11_allow_37 ct_X11_305 ?_
      replace hr := Option.bind_eq_some_iff.mp hr
      obtain ⟨u17, e18, hr⟩ := hr
      replace hr := Option.bind_eq_some_iff.mp hr
      obtain ⟨v19, e20, hr⟩ := hr
      refine rr_callVq (as := [.long 1835360622]) (st := [.int l1, va_rf v11]) (mc' := 0) (ms' := 0) C dX11_allow_40 iv_X11_254 (by decide) e18 rfl (by rcases v11 with _ | _ <;> exact Nat.le_of_ble_eq_true rfl) (c_X11_takes l0 1835360622 (by omega) e20) (fun v_ h_ n_ q_ => ?_)
      obtain ⟨q1_, q2_, q3_⟩ := q_
      subst v_; subst h_; subst n_
      show WW W0 G 2 _ _ _ 43 [some (.ref l0), some (.int l1)] [.int v19.1, .int l1, va_rf v11] v19.2 n _ _
      refine rr_if_eq (tgt := 50) C dX11_allow_43 (by decide) (fun c43_ => ?_) (fun c43_ => ?_)
      · replace hr := (if_pos c43_).symm.trans hr
        refine rr_aload_n (i := 0) C dX11_allow_50 rfl rfl ?_
        refine rr_ldc2 C dX11_allow_51 ct_X11_307 ?_
        replace hr := Option.bind_eq_some_iff.mp hr
        obtain ⟨u21, e22, hr⟩ := hr
        replace hr := Option.bind_eq_some_iff.mp hr
        obtain ⟨v23, e24, hr⟩ := hr
        refine rr_callVq (as := [.long 1650815860]) (st := [.int l1, va_rf v11]) (mc' := 0) (ms' := 0) C dX11_allow_54 iv_X11_254 (by decide) e22 rfl (by rcases v11 with _ | _ <;> exact Nat.le_of_ble_eq_true rfl) (c_X11_takes l0 1650815860 (by omega) e24) (fun v_ h_ n_ q_ => ?_)
        obtain ⟨q1_, q2_, q3_⟩ := q_
        subst v_; subst h_; subst n_
        show WW W0 G 2 _ _ _ 57 [some (.ref l0), some (.int l1)] [.int v23.1, .int l1, va_rf v11] v23.2 n _ _
        refine rr_if_eq (tgt := 64) C dX11_allow_57 (by decide) (fun c57_ => ?_) (fun c57_ => ?_)
        · replace hr := (if_pos c57_).symm.trans hr
          refine rr_aload_n (i := 0) C dX11_allow_64 rfl rfl ?_
          refine rr_ldc2 C dX11_allow_65 ct_X11_309 ?_
          replace hr := Option.bind_eq_some_iff.mp hr
          obtain ⟨u25, e26, hr⟩ := hr
          replace hr := Option.bind_eq_some_iff.mp hr
          obtain ⟨v27, e28, hr⟩ := hr
          refine rr_callVq (as := [.long 1886151022]) (st := [.int l1, va_rf v11]) (mc' := 0) (ms' := 0) C dX11_allow_68 iv_X11_254 (by decide) e26 rfl (by rcases v11 with _ | _ <;> exact Nat.le_of_ble_eq_true rfl) (c_X11_takes l0 1886151022 (by omega) e28) (fun v_ h_ n_ q_ => ?_)
          obtain ⟨q1_, q2_, q3_⟩ := q_
          subst v_; subst h_; subst n_
          show WW W0 G 2 _ _ _ 71 [some (.ref l0), some (.int l1)] [.int v27.1, .int l1, va_rf v11] v27.2 n _ _
          refine rr_if_eq (tgt := 78) C dX11_allow_71 (by decide) (fun c71_ => ?_) (fun c71_ => ?_)
          · replace hr := (if_pos c71_).symm.trans hr
            refine rr_iconst (v := (-1)) C dX11_allow_78 (by decide) ?_
            replace hr := Option.bind_eq_some_iff.mp hr
            obtain ⟨a29, e30, hr⟩ := hr
            subst e30
            replace hr := Option.bind_eq_some_iff.mp hr
            obtain ⟨h31, e32, hr⟩ := hr
            refine rr_stI C dX11_allow_79 e32 ?_
            refine rr_aload_n (i := 0) C dX11_allow_80 rfl rfl ?_
            replace hr := Option.bind_eq_some_iff.mp hr
            obtain ⟨v33, e34, hr⟩ := hr
            refine rr_rdR C dX11_allow_81 fl_X11_87 e34 ?_
            refine rr_iload_n (i := 1) C dX11_allow_84 rfl rfl ?_
            replace hr := Option.bind_eq_some_iff.mp hr
            obtain ⟨a35, e36, hr⟩ := hr
            subst e36
            replace hr := Option.bind_eq_some_iff.mp hr
            obtain ⟨v37, e38, hr⟩ := hr
            refine rr_ldI C dX11_allow_85 e38 ?_
            refine rr_iconst (v := (-1)) C dX11_allow_86 (by decide) ?_
            refine rr_icmp_ne (tgt := 92) C dX11_allow_87 (by decide) (fun c87_ => ?_) (fun c87_ => ?_)
            · replace hr := (if_neg c87_).symm.trans hr
              refine rr_aload_n (i := 0) C dX11_allow_92 rfl rfl ?_
              replace hr := Option.bind_eq_some_iff.mp hr
              obtain ⟨v39, e40, hr⟩ := hr
              refine rr_rdR C dX11_allow_93 fl_X11_90 e40 ?_
              refine rr_iload_n (i := 1) C dX11_allow_96 rfl rfl ?_
              refine rr_iconst (v := 0) C dX11_allow_97 (by decide) ?_
              replace hr := Option.bind_eq_some_iff.mp hr
              obtain ⟨a41, e42, hr⟩ := hr
              subst e42
              replace hr := Option.bind_eq_some_iff.mp hr
              obtain ⟨h43, e44, hr⟩ := hr
              refine rr_stI C dX11_allow_98 e44 ?_
              refine rr_aload_n (i := 0) C dX11_allow_99 rfl rfl ?_
              replace hr := Option.bind_eq_some_iff.mp hr
              obtain ⟨v45, e46, hr⟩ := hr
              refine rr_rdR C dX11_allow_100 fl_X11_87 e46 ?_
              refine rr_iload_n (i := 1) C dX11_allow_103 rfl rfl ?_
              replace hr := Option.bind_eq_some_iff.mp hr
              obtain ⟨a47, e48, hr⟩ := hr
              subst e48
              replace hr := Option.bind_eq_some_iff.mp hr
              obtain ⟨v49, e50, hr⟩ := hr
              refine rr_ldI C dX11_allow_104 e50 ?_
              refine rr_iconst (v := 3) C dX11_allow_105 (by decide) ?_
              refine rr_icmp_eq (tgt := 130) C dX11_allow_106 (by decide) (fun c106_ => ?_) (fun c106_ => ?_)
              · replace hr := (if_pos c106_).symm.trans hr
                refine rr_aload_n (i := 0) C dX11_allow_130 rfl rfl ?_
                refine rr_iconst (v := 0) C dX11_allow_131 (by decide) ?_
                refine rr_sipush (v := 200) C dX11_allow_132 (by decide) ?_
                replace hr := Option.bind_eq_some_iff.mp hr
                obtain ⟨u51, e52, hr⟩ := hr
                replace hr := Option.bind_eq_some_iff.mp hr
                obtain ⟨v53, e54, hr⟩ := hr
                refine rr_callVq (as := [.int 0, .int 200]) (st := []) (mc' := 0) (ms' := 0) C dX11_allow_135 iv_X11_240 (by decide) e52 rfl (Nat.le_of_ble_eq_true rfl) (c_X11_takesNumber l0 0 200 (by omega) e54) (fun v_ h_ n_ q_ => ?_)
                obtain ⟨q1_, q2_, q3_⟩ := q_
                subst v_; subst h_; subst n_
                show WW W0 G 2 _ _ _ 138 [some (.ref l0), some (.int l1)] [.int v53.1] v53.2 n _ _
                refine rr_if_ne (tgt := 143) C dX11_allow_138 (by decide) (fun c138_ => ?_) (fun c138_ => ?_)
                · replace hr := (if_neg c138_).symm.trans hr
                  refine rr_aload_n (i := 0) C dX11_allow_143 rfl rfl ?_
                  replace hr := Option.bind_eq_some_iff.mp hr
                  obtain ⟨v55, e56, hr⟩ := hr
                  refine rr_rdR C dX11_allow_144 fl_X11_93 e56 ?_
                  refine rr_iload_n (i := 1) C dX11_allow_147 rfl rfl ?_
                  refine rr_aload_n (i := 0) C dX11_allow_148 rfl rfl ?_
                  replace hr := Option.bind_eq_some_iff.mp hr
                  obtain ⟨v57, e58, hr⟩ := hr
                  refine rr_rdI C dX11_allow_149 fl_X11_237 e58 ?_
                  replace hr := Option.bind_eq_some_iff.mp hr
                  obtain ⟨a59, e60, hr⟩ := hr
                  subst e60
                  replace hr := Option.bind_eq_some_iff.mp hr
                  obtain ⟨h61, e62, hr⟩ := hr
                  refine rr_stI C dX11_allow_152 e62 ?_
                  refine rr_iconst (v := 1) C dX11_allow_153 (by decide) ?_
                  obtain rfl := Option.some.inj hr
                  exact rr_iret (ty := .boolean) C dX11_allow_154 rfl rfl ⟨rfl, rfl, rfl⟩
                · replace hr := (if_pos c138_).symm.trans hr
                  refine rr_iconst (v := 0) C dX11_allow_141 (by decide) ?_
                  obtain rfl := Option.some.inj hr
                  exact rr_iret (ty := .boolean) C dX11_allow_142 rfl rfl ⟨rfl, rfl, rfl⟩
              · replace hr := (if_neg c106_).symm.trans hr
                refine rr_aload_n (i := 0) C dX11_allow_109 rfl rfl ?_
                refine rr_iconst (v := 0) C dX11_allow_110 (by decide) ?_
                refine rr_iconst (v := 2) C dX11_allow_111 (by decide) ?_
                replace hr := Option.bind_eq_some_iff.mp hr
                obtain ⟨u63, e64, hr⟩ := hr
                replace hr := Option.bind_eq_some_iff.mp hr
                obtain ⟨v65, e66, hr⟩ := hr
                refine rr_callVq (as := [.int 0, .int 2]) (st := []) (mc' := 0) (ms' := 0) C dX11_allow_112 iv_X11_240 (by decide) e64 rfl (Nat.le_of_ble_eq_true rfl) (c_X11_takesNumber l0 0 2 (by omega) e66) (fun v_ h_ n_ q_ => ?_)
                obtain ⟨q1_, q2_, q3_⟩ := q_
                subst v_; subst h_; subst n_
                show WW W0 G 2 _ _ _ 115 [some (.ref l0), some (.int l1)] [.int v65.1] v65.2 n _ _
                refine rr_if_ne (tgt := 120) C dX11_allow_115 (by decide) (fun c115_ => ?_) (fun c115_ => ?_)
                · replace hr := (if_neg c115_).symm.trans hr
                  refine rr_aload_n (i := 0) C dX11_allow_120 rfl rfl ?_
                  replace hr := Option.bind_eq_some_iff.mp hr
                  obtain ⟨v67, e68, hr⟩ := hr
                  refine rr_rdR C dX11_allow_121 fl_X11_90 e68 ?_
                  refine rr_iload_n (i := 1) C dX11_allow_124 rfl rfl ?_
                  refine rr_aload_n (i := 0) C dX11_allow_125 rfl rfl ?_
                  replace hr := Option.bind_eq_some_iff.mp hr
                  obtain ⟨v69, e70, hr⟩ := hr
                  refine rr_rdI C dX11_allow_126 fl_X11_237 e70 ?_
                  replace hr := Option.bind_eq_some_iff.mp hr
                  obtain ⟨a71, e72, hr⟩ := hr
                  subst e72
                  replace hr := Option.bind_eq_some_iff.mp hr
                  obtain ⟨h73, e74, hr⟩ := hr
                  refine rr_stI C dX11_allow_129 e74 ?_
                  refine rr_aload_n (i := 0) C dX11_allow_130 rfl rfl ?_
                  refine rr_iconst (v := 0) C dX11_allow_131 (by decide) ?_
                  refine rr_sipush (v := 200) C dX11_allow_132 (by decide) ?_
                  replace hr := Option.bind_eq_some_iff.mp hr
                  obtain ⟨u75, e76, hr⟩ := hr
                  replace hr := Option.bind_eq_some_iff.mp hr
                  obtain ⟨v77, e78, hr⟩ := hr
                  refine rr_callVq (as := [.int 0, .int 200]) (st := []) (mc' := 0) (ms' := 0) C dX11_allow_135 iv_X11_240 (by decide) e76 rfl (Nat.le_of_ble_eq_true rfl) (c_X11_takesNumber l0 0 200 (by omega) e78) (fun v_ h_ n_ q_ => ?_)
                  obtain ⟨q1_, q2_, q3_⟩ := q_
                  subst v_; subst h_; subst n_
                  show WW W0 G 2 _ _ _ 138 [some (.ref l0), some (.int l1)] [.int v77.1] v77.2 n _ _
                  refine rr_if_ne (tgt := 143) C dX11_allow_138 (by decide) (fun c138_ => ?_) (fun c138_ => ?_)
                  · replace hr := (if_neg c138_).symm.trans hr
                    refine rr_aload_n (i := 0) C dX11_allow_143 rfl rfl ?_
                    replace hr := Option.bind_eq_some_iff.mp hr
                    obtain ⟨v79, e80, hr⟩ := hr
                    refine rr_rdR C dX11_allow_144 fl_X11_93 e80 ?_
                    refine rr_iload_n (i := 1) C dX11_allow_147 rfl rfl ?_
                    refine rr_aload_n (i := 0) C dX11_allow_148 rfl rfl ?_
                    replace hr := Option.bind_eq_some_iff.mp hr
                    obtain ⟨v81, e82, hr⟩ := hr
                    refine rr_rdI C dX11_allow_149 fl_X11_237 e82 ?_
                    replace hr := Option.bind_eq_some_iff.mp hr
                    obtain ⟨a83, e84, hr⟩ := hr
                    subst e84
                    replace hr := Option.bind_eq_some_iff.mp hr
                    obtain ⟨h85, e86, hr⟩ := hr
                    refine rr_stI C dX11_allow_152 e86 ?_
                    refine rr_iconst (v := 1) C dX11_allow_153 (by decide) ?_
                    obtain rfl := Option.some.inj hr
                    exact rr_iret (ty := .boolean) C dX11_allow_154 rfl rfl ⟨rfl, rfl, rfl⟩
                  · replace hr := (if_pos c138_).symm.trans hr
                    refine rr_iconst (v := 0) C dX11_allow_141 (by decide) ?_
                    obtain rfl := Option.some.inj hr
                    exact rr_iret (ty := .boolean) C dX11_allow_142 rfl rfl ⟨rfl, rfl, rfl⟩
                · replace hr := (if_pos c115_).symm.trans hr
                  refine rr_iconst (v := 0) C dX11_allow_118 (by decide) ?_
                  obtain rfl := Option.some.inj hr
                  exact rr_iret (ty := .boolean) C dX11_allow_119 rfl rfl ⟨rfl, rfl, rfl⟩
            · replace hr := (if_pos c87_).symm.trans hr
              refine rr_iconst (v := 0) C dX11_allow_90 (by decide) ?_
              obtain rfl := Option.some.inj hr
              exact rr_iret (ty := .boolean) C dX11_allow_91 rfl rfl ⟨rfl, rfl, rfl⟩
          · replace hr := (if_neg c71_).symm.trans hr
            refine rr_iconst (v := 3) C dX11_allow_74 (by decide) ?_
            refine rr_goto (tgt := 79) C dX11_allow_75 (by decide) ?_
            replace hr := Option.bind_eq_some_iff.mp hr
            obtain ⟨a87, e88, hr⟩ := hr
            subst e88
            replace hr := Option.bind_eq_some_iff.mp hr
            obtain ⟨h89, e90, hr⟩ := hr
            refine rr_stI C dX11_allow_79 e90 ?_
            refine rr_aload_n (i := 0) C dX11_allow_80 rfl rfl ?_
            replace hr := Option.bind_eq_some_iff.mp hr
            obtain ⟨v91, e92, hr⟩ := hr
            refine rr_rdR C dX11_allow_81 fl_X11_87 e92 ?_
            refine rr_iload_n (i := 1) C dX11_allow_84 rfl rfl ?_
            replace hr := Option.bind_eq_some_iff.mp hr
            obtain ⟨a93, e94, hr⟩ := hr
            subst e94
            replace hr := Option.bind_eq_some_iff.mp hr
            obtain ⟨v95, e96, hr⟩ := hr
            refine rr_ldI C dX11_allow_85 e96 ?_
            refine rr_iconst (v := (-1)) C dX11_allow_86 (by decide) ?_
            refine rr_icmp_ne (tgt := 92) C dX11_allow_87 (by decide) (fun c87_ => ?_) (fun c87_ => ?_)
            · replace hr := (if_neg c87_).symm.trans hr
              refine rr_aload_n (i := 0) C dX11_allow_92 rfl rfl ?_
              replace hr := Option.bind_eq_some_iff.mp hr
              obtain ⟨v97, e98, hr⟩ := hr
              refine rr_rdR C dX11_allow_93 fl_X11_90 e98 ?_
              refine rr_iload_n (i := 1) C dX11_allow_96 rfl rfl ?_
              refine rr_iconst (v := 0) C dX11_allow_97 (by decide) ?_
              replace hr := Option.bind_eq_some_iff.mp hr
              obtain ⟨a99, e100, hr⟩ := hr
              subst e100
              replace hr := Option.bind_eq_some_iff.mp hr
              obtain ⟨h101, e102, hr⟩ := hr
              refine rr_stI C dX11_allow_98 e102 ?_
              refine rr_aload_n (i := 0) C dX11_allow_99 rfl rfl ?_
              replace hr := Option.bind_eq_some_iff.mp hr
              obtain ⟨v103, e104, hr⟩ := hr
              refine rr_rdR C dX11_allow_100 fl_X11_87 e104 ?_
              refine rr_iload_n (i := 1) C dX11_allow_103 rfl rfl ?_
              replace hr := Option.bind_eq_some_iff.mp hr
              obtain ⟨a105, e106, hr⟩ := hr
              subst e106
              replace hr := Option.bind_eq_some_iff.mp hr
              obtain ⟨v107, e108, hr⟩ := hr
              refine rr_ldI C dX11_allow_104 e108 ?_
              refine rr_iconst (v := 3) C dX11_allow_105 (by decide) ?_
              refine rr_icmp_eq (tgt := 130) C dX11_allow_106 (by decide) (fun c106_ => ?_) (fun c106_ => ?_)
              · replace hr := (if_pos c106_).symm.trans hr
                refine rr_aload_n (i := 0) C dX11_allow_130 rfl rfl ?_
                refine rr_iconst (v := 0) C dX11_allow_131 (by decide) ?_
                refine rr_sipush (v := 200) C dX11_allow_132 (by decide) ?_
                replace hr := Option.bind_eq_some_iff.mp hr
                obtain ⟨u109, e110, hr⟩ := hr
                replace hr := Option.bind_eq_some_iff.mp hr
                obtain ⟨v111, e112, hr⟩ := hr
                refine rr_callVq (as := [.int 0, .int 200]) (st := []) (mc' := 0) (ms' := 0) C dX11_allow_135 iv_X11_240 (by decide) e110 rfl (Nat.le_of_ble_eq_true rfl) (c_X11_takesNumber l0 0 200 (by omega) e112) (fun v_ h_ n_ q_ => ?_)
                obtain ⟨q1_, q2_, q3_⟩ := q_
                subst v_; subst h_; subst n_
                show WW W0 G 2 _ _ _ 138 [some (.ref l0), some (.int l1)] [.int v111.1] v111.2 n _ _
                refine rr_if_ne (tgt := 143) C dX11_allow_138 (by decide) (fun c138_ => ?_) (fun c138_ => ?_)
                · replace hr := (if_neg c138_).symm.trans hr
                  refine rr_aload_n (i := 0) C dX11_allow_143 rfl rfl ?_
                  replace hr := Option.bind_eq_some_iff.mp hr
                  obtain ⟨v113, e114, hr⟩ := hr
                  refine rr_rdR C dX11_allow_144 fl_X11_93 e114 ?_
                  refine rr_iload_n (i := 1) C dX11_allow_147 rfl rfl ?_
                  refine rr_aload_n (i := 0) C dX11_allow_148 rfl rfl ?_
                  replace hr := Option.bind_eq_some_iff.mp hr
                  obtain ⟨v115, e116, hr⟩ := hr
                  refine rr_rdI C dX11_allow_149 fl_X11_237 e116 ?_
                  replace hr := Option.bind_eq_some_iff.mp hr
                  obtain ⟨a117, e118, hr⟩ := hr
                  subst e118
                  replace hr := Option.bind_eq_some_iff.mp hr
                  obtain ⟨h119, e120, hr⟩ := hr
                  refine rr_stI C dX11_allow_152 e120 ?_
                  refine rr_iconst (v := 1) C dX11_allow_153 (by decide) ?_
                  obtain rfl := Option.some.inj hr
                  exact rr_iret (ty := .boolean) C dX11_allow_154 rfl rfl ⟨rfl, rfl, rfl⟩
                · replace hr := (if_pos c138_).symm.trans hr
                  refine rr_iconst (v := 0) C dX11_allow_141 (by decide) ?_
                  obtain rfl := Option.some.inj hr
                  exact rr_iret (ty := .boolean) C dX11_allow_142 rfl rfl ⟨rfl, rfl, rfl⟩
              · replace hr := (if_neg c106_).symm.trans hr
                refine rr_aload_n (i := 0) C dX11_allow_109 rfl rfl ?_
                refine rr_iconst (v := 0) C dX11_allow_110 (by decide) ?_
                refine rr_iconst (v := 2) C dX11_allow_111 (by decide) ?_
                replace hr := Option.bind_eq_some_iff.mp hr
                obtain ⟨u121, e122, hr⟩ := hr
                replace hr := Option.bind_eq_some_iff.mp hr
                obtain ⟨v123, e124, hr⟩ := hr
                refine rr_callVq (as := [.int 0, .int 2]) (st := []) (mc' := 0) (ms' := 0) C dX11_allow_112 iv_X11_240 (by decide) e122 rfl (Nat.le_of_ble_eq_true rfl) (c_X11_takesNumber l0 0 2 (by omega) e124) (fun v_ h_ n_ q_ => ?_)
                obtain ⟨q1_, q2_, q3_⟩ := q_
                subst v_; subst h_; subst n_
                show WW W0 G 2 _ _ _ 115 [some (.ref l0), some (.int l1)] [.int v123.1] v123.2 n _ _
                refine rr_if_ne (tgt := 120) C dX11_allow_115 (by decide) (fun c115_ => ?_) (fun c115_ => ?_)
                · replace hr := (if_neg c115_).symm.trans hr
                  refine rr_aload_n (i := 0) C dX11_allow_120 rfl rfl ?_
                  replace hr := Option.bind_eq_some_iff.mp hr
                  obtain ⟨v125, e126, hr⟩ := hr
                  refine rr_rdR C dX11_allow_121 fl_X11_90 e126 ?_
                  refine rr_iload_n (i := 1) C dX11_allow_124 rfl rfl ?_
                  refine rr_aload_n (i := 0) C dX11_allow_125 rfl rfl ?_
                  replace hr := Option.bind_eq_some_iff.mp hr
                  obtain ⟨v127, e128, hr⟩ := hr
                  refine rr_rdI C dX11_allow_126 fl_X11_237 e128 ?_
                  replace hr := Option.bind_eq_some_iff.mp hr
                  obtain ⟨a129, e130, hr⟩ := hr
                  subst e130
                  replace hr := Option.bind_eq_some_iff.mp hr
                  obtain ⟨h131, e132, hr⟩ := hr
                  refine rr_stI C dX11_allow_129 e132 ?_
                  refine rr_aload_n (i := 0) C dX11_allow_130 rfl rfl ?_
                  refine rr_iconst (v := 0) C dX11_allow_131 (by decide) ?_
                  refine rr_sipush (v := 200) C dX11_allow_132 (by decide) ?_
                  replace hr := Option.bind_eq_some_iff.mp hr
                  obtain ⟨u133, e134, hr⟩ := hr
                  replace hr := Option.bind_eq_some_iff.mp hr
                  obtain ⟨v135, e136, hr⟩ := hr
                  refine rr_callVq (as := [.int 0, .int 200]) (st := []) (mc' := 0) (ms' := 0) C dX11_allow_135 iv_X11_240 (by decide) e134 rfl (Nat.le_of_ble_eq_true rfl) (c_X11_takesNumber l0 0 200 (by omega) e136) (fun v_ h_ n_ q_ => ?_)
                  obtain ⟨q1_, q2_, q3_⟩ := q_
                  subst v_; subst h_; subst n_
                  show WW W0 G 2 _ _ _ 138 [some (.ref l0), some (.int l1)] [.int v135.1] v135.2 n _ _
                  refine rr_if_ne (tgt := 143) C dX11_allow_138 (by decide) (fun c138_ => ?_) (fun c138_ => ?_)
                  · replace hr := (if_neg c138_).symm.trans hr
                    refine rr_aload_n (i := 0) C dX11_allow_143 rfl rfl ?_
                    replace hr := Option.bind_eq_some_iff.mp hr
                    obtain ⟨v137, e138, hr⟩ := hr
                    refine rr_rdR C dX11_allow_144 fl_X11_93 e138 ?_
                    refine rr_iload_n (i := 1) C dX11_allow_147 rfl rfl ?_
                    refine rr_aload_n (i := 0) C dX11_allow_148 rfl rfl ?_
                    replace hr := Option.bind_eq_some_iff.mp hr
                    obtain ⟨v139, e140, hr⟩ := hr
                    refine rr_rdI C dX11_allow_149 fl_X11_237 e140 ?_
                    replace hr := Option.bind_eq_some_iff.mp hr
                    obtain ⟨a141, e142, hr⟩ := hr
                    subst e142
                    replace hr := Option.bind_eq_some_iff.mp hr
                    obtain ⟨h143, e144, hr⟩ := hr
                    refine rr_stI C dX11_allow_152 e144 ?_
                    refine rr_iconst (v := 1) C dX11_allow_153 (by decide) ?_
                    obtain rfl := Option.some.inj hr
                    exact rr_iret (ty := .boolean) C dX11_allow_154 rfl rfl ⟨rfl, rfl, rfl⟩
                  · replace hr := (if_pos c138_).symm.trans hr
                    refine rr_iconst (v := 0) C dX11_allow_141 (by decide) ?_
                    obtain rfl := Option.some.inj hr
                    exact rr_iret (ty := .boolean) C dX11_allow_142 rfl rfl ⟨rfl, rfl, rfl⟩
                · replace hr := (if_pos c115_).symm.trans hr
                  refine rr_iconst (v := 0) C dX11_allow_118 (by decide) ?_
                  obtain rfl := Option.some.inj hr
                  exact rr_iret (ty := .boolean) C dX11_allow_119 rfl rfl ⟨rfl, rfl, rfl⟩
            · replace hr := (if_pos c87_).symm.trans hr
              refine rr_iconst (v := 0) C dX11_allow_90 (by decide) ?_
              obtain rfl := Option.some.inj hr
              exact rr_iret (ty := .boolean) C dX11_allow_91 rfl rfl ⟨rfl, rfl, rfl⟩
        · replace hr := (if_neg c57_).symm.trans hr
          refine rr_iconst (v := 2) C dX11_allow_60 (by decide) ?_
          refine rr_goto (tgt := 79) C dX11_allow_61 (by decide) ?_
          replace hr := Option.bind_eq_some_iff.mp hr
          obtain ⟨a145, e146, hr⟩ := hr
          subst e146
          replace hr := Option.bind_eq_some_iff.mp hr
          obtain ⟨h147, e148, hr⟩ := hr
          refine rr_stI C dX11_allow_79 e148 ?_
          refine rr_aload_n (i := 0) C dX11_allow_80 rfl rfl ?_
          replace hr := Option.bind_eq_some_iff.mp hr
          obtain ⟨v149, e150, hr⟩ := hr
          refine rr_rdR C dX11_allow_81 fl_X11_87 e150 ?_
          refine rr_iload_n (i := 1) C dX11_allow_84 rfl rfl ?_
          replace hr := Option.bind_eq_some_iff.mp hr
          obtain ⟨a151, e152, hr⟩ := hr
          subst e152
          replace hr := Option.bind_eq_some_iff.mp hr
          obtain ⟨v153, e154, hr⟩ := hr
          refine rr_ldI C dX11_allow_85 e154 ?_
          refine rr_iconst (v := (-1)) C dX11_allow_86 (by decide) ?_
          refine rr_icmp_ne (tgt := 92) C dX11_allow_87 (by decide) (fun c87_ => ?_) (fun c87_ => ?_)
          · replace hr := (if_neg c87_).symm.trans hr
            refine rr_aload_n (i := 0) C dX11_allow_92 rfl rfl ?_
            replace hr := Option.bind_eq_some_iff.mp hr
            obtain ⟨v155, e156, hr⟩ := hr
            refine rr_rdR C dX11_allow_93 fl_X11_90 e156 ?_
            refine rr_iload_n (i := 1) C dX11_allow_96 rfl rfl ?_
            refine rr_iconst (v := 0) C dX11_allow_97 (by decide) ?_
            replace hr := Option.bind_eq_some_iff.mp hr
            obtain ⟨a157, e158, hr⟩ := hr
            subst e158
            replace hr := Option.bind_eq_some_iff.mp hr
            obtain ⟨h159, e160, hr⟩ := hr
            refine rr_stI C dX11_allow_98 e160 ?_
            refine rr_aload_n (i := 0) C dX11_allow_99 rfl rfl ?_
            replace hr := Option.bind_eq_some_iff.mp hr
            obtain ⟨v161, e162, hr⟩ := hr
            refine rr_rdR C dX11_allow_100 fl_X11_87 e162 ?_
            refine rr_iload_n (i := 1) C dX11_allow_103 rfl rfl ?_
            replace hr := Option.bind_eq_some_iff.mp hr
            obtain ⟨a163, e164, hr⟩ := hr
            subst e164
            replace hr := Option.bind_eq_some_iff.mp hr
            obtain ⟨v165, e166, hr⟩ := hr
            refine rr_ldI C dX11_allow_104 e166 ?_
            refine rr_iconst (v := 3) C dX11_allow_105 (by decide) ?_
            refine rr_icmp_eq (tgt := 130) C dX11_allow_106 (by decide) (fun c106_ => ?_) (fun c106_ => ?_)
            · replace hr := (if_pos c106_).symm.trans hr
              refine rr_aload_n (i := 0) C dX11_allow_130 rfl rfl ?_
              refine rr_iconst (v := 0) C dX11_allow_131 (by decide) ?_
              refine rr_sipush (v := 200) C dX11_allow_132 (by decide) ?_
              replace hr := Option.bind_eq_some_iff.mp hr
              obtain ⟨u167, e168, hr⟩ := hr
              replace hr := Option.bind_eq_some_iff.mp hr
              obtain ⟨v169, e170, hr⟩ := hr
              refine rr_callVq (as := [.int 0, .int 200]) (st := []) (mc' := 0) (ms' := 0) C dX11_allow_135 iv_X11_240 (by decide) e168 rfl (Nat.le_of_ble_eq_true rfl) (c_X11_takesNumber l0 0 200 (by omega) e170) (fun v_ h_ n_ q_ => ?_)
              obtain ⟨q1_, q2_, q3_⟩ := q_
              subst v_; subst h_; subst n_
              show WW W0 G 2 _ _ _ 138 [some (.ref l0), some (.int l1)] [.int v169.1] v169.2 n _ _
              refine rr_if_ne (tgt := 143) C dX11_allow_138 (by decide) (fun c138_ => ?_) (fun c138_ => ?_)
              · replace hr := (if_neg c138_).symm.trans hr
                refine rr_aload_n (i := 0) C dX11_allow_143 rfl rfl ?_
                replace hr := Option.bind_eq_some_iff.mp hr
                obtain ⟨v171, e172, hr⟩ := hr
                refine rr_rdR C dX11_allow_144 fl_X11_93 e172 ?_
                refine rr_iload_n (i := 1) C dX11_allow_147 rfl rfl ?_
                refine rr_aload_n (i := 0) C dX11_allow_148 rfl rfl ?_
                replace hr := Option.bind_eq_some_iff.mp hr
                obtain ⟨v173, e174, hr⟩ := hr
                refine rr_rdI C dX11_allow_149 fl_X11_237 e174 ?_
                replace hr := Option.bind_eq_some_iff.mp hr
                obtain ⟨a175, e176, hr⟩ := hr
                subst e176
                replace hr := Option.bind_eq_some_iff.mp hr
                obtain ⟨h177, e178, hr⟩ := hr
                refine rr_stI C dX11_allow_152 e178 ?_
                refine rr_iconst (v := 1) C dX11_allow_153 (by decide) ?_
                obtain rfl := Option.some.inj hr
                exact rr_iret (ty := .boolean) C dX11_allow_154 rfl rfl ⟨rfl, rfl, rfl⟩
              · replace hr := (if_pos c138_).symm.trans hr
                refine rr_iconst (v := 0) C dX11_allow_141 (by decide) ?_
                obtain rfl := Option.some.inj hr
                exact rr_iret (ty := .boolean) C dX11_allow_142 rfl rfl ⟨rfl, rfl, rfl⟩
            · replace hr := (if_neg c106_).symm.trans hr
              refine rr_aload_n (i := 0) C dX11_allow_109 rfl rfl ?_
              refine rr_iconst (v := 0) C dX11_allow_110 (by decide) ?_
              refine rr_iconst (v := 2) C dX11_allow_111 (by decide) ?_
              replace hr := Option.bind_eq_some_iff.mp hr
              obtain ⟨u179, e180, hr⟩ := hr
              replace hr := Option.bind_eq_some_iff.mp hr
              obtain ⟨v181, e182, hr⟩ := hr
              refine rr_callVq (as := [.int 0, .int 2]) (st := []) (mc' := 0) (ms' := 0) C dX11_allow_112 iv_X11_240 (by decide) e180 rfl (Nat.le_of_ble_eq_true rfl) (c_X11_takesNumber l0 0 2 (by omega) e182) (fun v_ h_ n_ q_ => ?_)
              obtain ⟨q1_, q2_, q3_⟩ := q_
              subst v_; subst h_; subst n_
              show WW W0 G 2 _ _ _ 115 [some (.ref l0), some (.int l1)] [.int v181.1] v181.2 n _ _
              refine rr_if_ne (tgt := 120) C dX11_allow_115 (by decide) (fun c115_ => ?_) (fun c115_ => ?_)
              · replace hr := (if_neg c115_).symm.trans hr
                refine rr_aload_n (i := 0) C dX11_allow_120 rfl rfl ?_
                replace hr := Option.bind_eq_some_iff.mp hr
                obtain ⟨v183, e184, hr⟩ := hr
                refine rr_rdR C dX11_allow_121 fl_X11_90 e184 ?_
                refine rr_iload_n (i := 1) C dX11_allow_124 rfl rfl ?_
                refine rr_aload_n (i := 0) C dX11_allow_125 rfl rfl ?_
                replace hr := Option.bind_eq_some_iff.mp hr
                obtain ⟨v185, e186, hr⟩ := hr
                refine rr_rdI C dX11_allow_126 fl_X11_237 e186 ?_
                replace hr := Option.bind_eq_some_iff.mp hr
                obtain ⟨a187, e188, hr⟩ := hr
                subst e188
                replace hr := Option.bind_eq_some_iff.mp hr
                obtain ⟨h189, e190, hr⟩ := hr
                refine rr_stI C dX11_allow_129 e190 ?_
                refine rr_aload_n (i := 0) C dX11_allow_130 rfl rfl ?_
                refine rr_iconst (v := 0) C dX11_allow_131 (by decide) ?_
                refine rr_sipush (v := 200) C dX11_allow_132 (by decide) ?_
                replace hr := Option.bind_eq_some_iff.mp hr
                obtain ⟨u191, e192, hr⟩ := hr
                replace hr := Option.bind_eq_some_iff.mp hr
                obtain ⟨v193, e194, hr⟩ := hr
                refine rr_callVq (as := [.int 0, .int 200]) (st := []) (mc' := 0) (ms' := 0) C dX11_allow_135 iv_X11_240 (by decide) e192 rfl (Nat.le_of_ble_eq_true rfl) (c_X11_takesNumber l0 0 200 (by omega) e194) (fun v_ h_ n_ q_ => ?_)
                obtain ⟨q1_, q2_, q3_⟩ := q_
                subst v_; subst h_; subst n_
                show WW W0 G 2 _ _ _ 138 [some (.ref l0), some (.int l1)] [.int v193.1] v193.2 n _ _
                refine rr_if_ne (tgt := 143) C dX11_allow_138 (by decide) (fun c138_ => ?_) (fun c138_ => ?_)
                · replace hr := (if_neg c138_).symm.trans hr
                  refine rr_aload_n (i := 0) C dX11_allow_143 rfl rfl ?_
                  replace hr := Option.bind_eq_some_iff.mp hr
                  obtain ⟨v195, e196, hr⟩ := hr
                  refine rr_rdR C dX11_allow_144 fl_X11_93 e196 ?_
                  refine rr_iload_n (i := 1) C dX11_allow_147 rfl rfl ?_
                  refine rr_aload_n (i := 0) C dX11_allow_148 rfl rfl ?_
                  replace hr := Option.bind_eq_some_iff.mp hr
                  obtain ⟨v197, e198, hr⟩ := hr
                  refine rr_rdI C dX11_allow_149 fl_X11_237 e198 ?_
                  replace hr := Option.bind_eq_some_iff.mp hr
                  obtain ⟨a199, e200, hr⟩ := hr
                  subst e200
                  replace hr := Option.bind_eq_some_iff.mp hr
                  obtain ⟨h201, e202, hr⟩ := hr
                  refine rr_stI C dX11_allow_152 e202 ?_
                  refine rr_iconst (v := 1) C dX11_allow_153 (by decide) ?_
                  obtain rfl := Option.some.inj hr
                  exact rr_iret (ty := .boolean) C dX11_allow_154 rfl rfl ⟨rfl, rfl, rfl⟩
                · replace hr := (if_pos c138_).symm.trans hr
                  refine rr_iconst (v := 0) C dX11_allow_141 (by decide) ?_
                  obtain rfl := Option.some.inj hr
                  exact rr_iret (ty := .boolean) C dX11_allow_142 rfl rfl ⟨rfl, rfl, rfl⟩
              · replace hr := (if_pos c115_).symm.trans hr
                refine rr_iconst (v := 0) C dX11_allow_118 (by decide) ?_
                obtain rfl := Option.some.inj hr
                exact rr_iret (ty := .boolean) C dX11_allow_119 rfl rfl ⟨rfl, rfl, rfl⟩
          · replace hr := (if_pos c87_).symm.trans hr
            refine rr_iconst (v := 0) C dX11_allow_90 (by decide) ?_
            obtain rfl := Option.some.inj hr
            exact rr_iret (ty := .boolean) C dX11_allow_91 rfl rfl ⟨rfl, rfl, rfl⟩
      · replace hr := (if_neg c43_).symm.trans hr
        refine rr_iconst (v := 1) C dX11_allow_46 (by decide) ?_
        refine rr_goto (tgt := 79) C dX11_allow_47 (by decide) ?_
        replace hr := Option.bind_eq_some_iff.mp hr
        obtain ⟨a203, e204, hr⟩ := hr
        subst e204
        replace hr := Option.bind_eq_some_iff.mp hr
        obtain ⟨h205, e206, hr⟩ := hr
        refine rr_stI C dX11_allow_79 e206 ?_
        refine rr_aload_n (i := 0) C dX11_allow_80 rfl rfl ?_
        replace hr := Option.bind_eq_some_iff.mp hr
        obtain ⟨v207, e208, hr⟩ := hr
        refine rr_rdR C dX11_allow_81 fl_X11_87 e208 ?_
        refine rr_iload_n (i := 1) C dX11_allow_84 rfl rfl ?_
        replace hr := Option.bind_eq_some_iff.mp hr
        obtain ⟨a209, e210, hr⟩ := hr
        subst e210
        replace hr := Option.bind_eq_some_iff.mp hr
        obtain ⟨v211, e212, hr⟩ := hr
        refine rr_ldI C dX11_allow_85 e212 ?_
        refine rr_iconst (v := (-1)) C dX11_allow_86 (by decide) ?_
        refine rr_icmp_ne (tgt := 92) C dX11_allow_87 (by decide) (fun c87_ => ?_) (fun c87_ => ?_)
        · replace hr := (if_neg c87_).symm.trans hr
          refine rr_aload_n (i := 0) C dX11_allow_92 rfl rfl ?_
          replace hr := Option.bind_eq_some_iff.mp hr
          obtain ⟨v213, e214, hr⟩ := hr
          refine rr_rdR C dX11_allow_93 fl_X11_90 e214 ?_
          refine rr_iload_n (i := 1) C dX11_allow_96 rfl rfl ?_
          refine rr_iconst (v := 0) C dX11_allow_97 (by decide) ?_
          replace hr := Option.bind_eq_some_iff.mp hr
          obtain ⟨a215, e216, hr⟩ := hr
          subst e216
          replace hr := Option.bind_eq_some_iff.mp hr
          obtain ⟨h217, e218, hr⟩ := hr
          refine rr_stI C dX11_allow_98 e218 ?_
          refine rr_aload_n (i := 0) C dX11_allow_99 rfl rfl ?_
          replace hr := Option.bind_eq_some_iff.mp hr
          obtain ⟨v219, e220, hr⟩ := hr
          refine rr_rdR C dX11_allow_100 fl_X11_87 e220 ?_
          refine rr_iload_n (i := 1) C dX11_allow_103 rfl rfl ?_
          replace hr := Option.bind_eq_some_iff.mp hr
          obtain ⟨a221, e222, hr⟩ := hr
          subst e222
          replace hr := Option.bind_eq_some_iff.mp hr
          obtain ⟨v223, e224, hr⟩ := hr
          refine rr_ldI C dX11_allow_104 e224 ?_
          refine rr_iconst (v := 3) C dX11_allow_105 (by decide) ?_
          refine rr_icmp_eq (tgt := 130) C dX11_allow_106 (by decide) (fun c106_ => ?_) (fun c106_ => ?_)
          · replace hr := (if_pos c106_).symm.trans hr
            refine rr_aload_n (i := 0) C dX11_allow_130 rfl rfl ?_
            refine rr_iconst (v := 0) C dX11_allow_131 (by decide) ?_
            refine rr_sipush (v := 200) C dX11_allow_132 (by decide) ?_
            replace hr := Option.bind_eq_some_iff.mp hr
            obtain ⟨u225, e226, hr⟩ := hr
            replace hr := Option.bind_eq_some_iff.mp hr
            obtain ⟨v227, e228, hr⟩ := hr
            refine rr_callVq (as := [.int 0, .int 200]) (st := []) (mc' := 0) (ms' := 0) C dX11_allow_135 iv_X11_240 (by decide) e226 rfl (Nat.le_of_ble_eq_true rfl) (c_X11_takesNumber l0 0 200 (by omega) e228) (fun v_ h_ n_ q_ => ?_)
            obtain ⟨q1_, q2_, q3_⟩ := q_
            subst v_; subst h_; subst n_
            show WW W0 G 2 _ _ _ 138 [some (.ref l0), some (.int l1)] [.int v227.1] v227.2 n _ _
            refine rr_if_ne (tgt := 143) C dX11_allow_138 (by decide) (fun c138_ => ?_) (fun c138_ => ?_)
            · replace hr := (if_neg c138_).symm.trans hr
              refine rr_aload_n (i := 0) C dX11_allow_143 rfl rfl ?_
              replace hr := Option.bind_eq_some_iff.mp hr
              obtain ⟨v229, e230, hr⟩ := hr
              refine rr_rdR C dX11_allow_144 fl_X11_93 e230 ?_
              refine rr_iload_n (i := 1) C dX11_allow_147 rfl rfl ?_
              refine rr_aload_n (i := 0) C dX11_allow_148 rfl rfl ?_
              replace hr := Option.bind_eq_some_iff.mp hr
              obtain ⟨v231, e232, hr⟩ := hr
              refine rr_rdI C dX11_allow_149 fl_X11_237 e232 ?_
              replace hr := Option.bind_eq_some_iff.mp hr
              obtain ⟨a233, e234, hr⟩ := hr
              subst e234
              replace hr := Option.bind_eq_some_iff.mp hr
              obtain ⟨h235, e236, hr⟩ := hr
              refine rr_stI C dX11_allow_152 e236 ?_
              refine rr_iconst (v := 1) C dX11_allow_153 (by decide) ?_
              obtain rfl := Option.some.inj hr
              exact rr_iret (ty := .boolean) C dX11_allow_154 rfl rfl ⟨rfl, rfl, rfl⟩
            · replace hr := (if_pos c138_).symm.trans hr
              refine rr_iconst (v := 0) C dX11_allow_141 (by decide) ?_
              obtain rfl := Option.some.inj hr
              exact rr_iret (ty := .boolean) C dX11_allow_142 rfl rfl ⟨rfl, rfl, rfl⟩
          · replace hr := (if_neg c106_).symm.trans hr
            refine rr_aload_n (i := 0) C dX11_allow_109 rfl rfl ?_
            refine rr_iconst (v := 0) C dX11_allow_110 (by decide) ?_
            refine rr_iconst (v := 2) C dX11_allow_111 (by decide) ?_
            replace hr := Option.bind_eq_some_iff.mp hr
            obtain ⟨u237, e238, hr⟩ := hr
            replace hr := Option.bind_eq_some_iff.mp hr
            obtain ⟨v239, e240, hr⟩ := hr
            refine rr_callVq (as := [.int 0, .int 2]) (st := []) (mc' := 0) (ms' := 0) C dX11_allow_112 iv_X11_240 (by decide) e238 rfl (Nat.le_of_ble_eq_true rfl) (c_X11_takesNumber l0 0 2 (by omega) e240) (fun v_ h_ n_ q_ => ?_)
            obtain ⟨q1_, q2_, q3_⟩ := q_
            subst v_; subst h_; subst n_
            show WW W0 G 2 _ _ _ 115 [some (.ref l0), some (.int l1)] [.int v239.1] v239.2 n _ _
            refine rr_if_ne (tgt := 120) C dX11_allow_115 (by decide) (fun c115_ => ?_) (fun c115_ => ?_)
            · replace hr := (if_neg c115_).symm.trans hr
              refine rr_aload_n (i := 0) C dX11_allow_120 rfl rfl ?_
              replace hr := Option.bind_eq_some_iff.mp hr
              obtain ⟨v241, e242, hr⟩ := hr
              refine rr_rdR C dX11_allow_121 fl_X11_90 e242 ?_
              refine rr_iload_n (i := 1) C dX11_allow_124 rfl rfl ?_
              refine rr_aload_n (i := 0) C dX11_allow_125 rfl rfl ?_
              replace hr := Option.bind_eq_some_iff.mp hr
              obtain ⟨v243, e244, hr⟩ := hr
              refine rr_rdI C dX11_allow_126 fl_X11_237 e244 ?_
              replace hr := Option.bind_eq_some_iff.mp hr
              obtain ⟨a245, e246, hr⟩ := hr
              subst e246
              replace hr := Option.bind_eq_some_iff.mp hr
              obtain ⟨h247, e248, hr⟩ := hr
              refine rr_stI C dX11_allow_129 e248 ?_
              refine rr_aload_n (i := 0) C dX11_allow_130 rfl rfl ?_
              refine rr_iconst (v := 0) C dX11_allow_131 (by decide) ?_
              refine rr_sipush (v := 200) C dX11_allow_132 (by decide) ?_
              replace hr := Option.bind_eq_some_iff.mp hr
              obtain ⟨u249, e250, hr⟩ := hr
              replace hr := Option.bind_eq_some_iff.mp hr
              obtain ⟨v251, e252, hr⟩ := hr
              refine rr_callVq (as := [.int 0, .int 200]) (st := []) (mc' := 0) (ms' := 0) C dX11_allow_135 iv_X11_240 (by decide) e250 rfl (Nat.le_of_ble_eq_true rfl) (c_X11_takesNumber l0 0 200 (by omega) e252) (fun v_ h_ n_ q_ => ?_)
              obtain ⟨q1_, q2_, q3_⟩ := q_
              subst v_; subst h_; subst n_
              show WW W0 G 2 _ _ _ 138 [some (.ref l0), some (.int l1)] [.int v251.1] v251.2 n _ _
              refine rr_if_ne (tgt := 143) C dX11_allow_138 (by decide) (fun c138_ => ?_) (fun c138_ => ?_)
              · replace hr := (if_neg c138_).symm.trans hr
                refine rr_aload_n (i := 0) C dX11_allow_143 rfl rfl ?_
                replace hr := Option.bind_eq_some_iff.mp hr
                obtain ⟨v253, e254, hr⟩ := hr
                refine rr_rdR C dX11_allow_144 fl_X11_93 e254 ?_
                refine rr_iload_n (i := 1) C dX11_allow_147 rfl rfl ?_
                refine rr_aload_n (i := 0) C dX11_allow_148 rfl rfl ?_
                replace hr := Option.bind_eq_some_iff.mp hr
                obtain ⟨v255, e256, hr⟩ := hr
                refine rr_rdI C dX11_allow_149 fl_X11_237 e256 ?_
                replace hr := Option.bind_eq_some_iff.mp hr
                obtain ⟨a257, e258, hr⟩ := hr
                subst e258
                replace hr := Option.bind_eq_some_iff.mp hr
                obtain ⟨h259, e260, hr⟩ := hr
                refine rr_stI C dX11_allow_152 e260 ?_
                refine rr_iconst (v := 1) C dX11_allow_153 (by decide) ?_
                obtain rfl := Option.some.inj hr
                exact rr_iret (ty := .boolean) C dX11_allow_154 rfl rfl ⟨rfl, rfl, rfl⟩
              · replace hr := (if_pos c138_).symm.trans hr
                refine rr_iconst (v := 0) C dX11_allow_141 (by decide) ?_
                obtain rfl := Option.some.inj hr
                exact rr_iret (ty := .boolean) C dX11_allow_142 rfl rfl ⟨rfl, rfl, rfl⟩
            · replace hr := (if_pos c115_).symm.trans hr
              refine rr_iconst (v := 0) C dX11_allow_118 (by decide) ?_
              obtain rfl := Option.some.inj hr
              exact rr_iret (ty := .boolean) C dX11_allow_119 rfl rfl ⟨rfl, rfl, rfl⟩
        · replace hr := (if_pos c87_).symm.trans hr
          refine rr_iconst (v := 0) C dX11_allow_90 (by decide) ?_
          obtain rfl := Option.some.inj hr
          exact rr_iret (ty := .boolean) C dX11_allow_91 rfl rfl ⟨rfl, rfl, rfl⟩
    · replace hr := (if_neg c29_).symm.trans hr
      refine rr_iconst (v := 0) C dX11_allow_32 (by decide) ?_
      refine rr_goto (tgt := 79) C dX11_allow_33 (by decide) ?_
      replace hr := Option.bind_eq_some_iff.mp hr
      obtain ⟨a261, e262, hr⟩ := hr
      subst e262
      replace hr := Option.bind_eq_some_iff.mp hr
      obtain ⟨h263, e264, hr⟩ := hr
      refine rr_stI C dX11_allow_79 e264 ?_
      refine rr_aload_n (i := 0) C dX11_allow_80 rfl rfl ?_
      replace hr := Option.bind_eq_some_iff.mp hr
      obtain ⟨v265, e266, hr⟩ := hr
      refine rr_rdR C dX11_allow_81 fl_X11_87 e266 ?_
      refine rr_iload_n (i := 1) C dX11_allow_84 rfl rfl ?_
      replace hr := Option.bind_eq_some_iff.mp hr
      obtain ⟨a267, e268, hr⟩ := hr
      subst e268
      replace hr := Option.bind_eq_some_iff.mp hr
      obtain ⟨v269, e270, hr⟩ := hr
      refine rr_ldI C dX11_allow_85 e270 ?_
      refine rr_iconst (v := (-1)) C dX11_allow_86 (by decide) ?_
      refine rr_icmp_ne (tgt := 92) C dX11_allow_87 (by decide) (fun c87_ => ?_) (fun c87_ => ?_)
      · replace hr := (if_neg c87_).symm.trans hr
        refine rr_aload_n (i := 0) C dX11_allow_92 rfl rfl ?_
        replace hr := Option.bind_eq_some_iff.mp hr
        obtain ⟨v271, e272, hr⟩ := hr
        refine rr_rdR C dX11_allow_93 fl_X11_90 e272 ?_
        refine rr_iload_n (i := 1) C dX11_allow_96 rfl rfl ?_
        refine rr_iconst (v := 0) C dX11_allow_97 (by decide) ?_
        replace hr := Option.bind_eq_some_iff.mp hr
        obtain ⟨a273, e274, hr⟩ := hr
        subst e274
        replace hr := Option.bind_eq_some_iff.mp hr
        obtain ⟨h275, e276, hr⟩ := hr
        refine rr_stI C dX11_allow_98 e276 ?_
        refine rr_aload_n (i := 0) C dX11_allow_99 rfl rfl ?_
        replace hr := Option.bind_eq_some_iff.mp hr
        obtain ⟨v277, e278, hr⟩ := hr
        refine rr_rdR C dX11_allow_100 fl_X11_87 e278 ?_
        refine rr_iload_n (i := 1) C dX11_allow_103 rfl rfl ?_
        replace hr := Option.bind_eq_some_iff.mp hr
        obtain ⟨a279, e280, hr⟩ := hr
        subst e280
        replace hr := Option.bind_eq_some_iff.mp hr
        obtain ⟨v281, e282, hr⟩ := hr
        refine rr_ldI C dX11_allow_104 e282 ?_
        refine rr_iconst (v := 3) C dX11_allow_105 (by decide) ?_
        refine rr_icmp_eq (tgt := 130) C dX11_allow_106 (by decide) (fun c106_ => ?_) (fun c106_ => ?_)
        · replace hr := (if_pos c106_).symm.trans hr
          refine rr_aload_n (i := 0) C dX11_allow_130 rfl rfl ?_
          refine rr_iconst (v := 0) C dX11_allow_131 (by decide) ?_
          refine rr_sipush (v := 200) C dX11_allow_132 (by decide) ?_
          replace hr := Option.bind_eq_some_iff.mp hr
          obtain ⟨u283, e284, hr⟩ := hr
          replace hr := Option.bind_eq_some_iff.mp hr
          obtain ⟨v285, e286, hr⟩ := hr
          refine rr_callVq (as := [.int 0, .int 200]) (st := []) (mc' := 0) (ms' := 0) C dX11_allow_135 iv_X11_240 (by decide) e284 rfl (Nat.le_of_ble_eq_true rfl) (c_X11_takesNumber l0 0 200 (by omega) e286) (fun v_ h_ n_ q_ => ?_)
          obtain ⟨q1_, q2_, q3_⟩ := q_
          subst v_; subst h_; subst n_
          show WW W0 G 2 _ _ _ 138 [some (.ref l0), some (.int l1)] [.int v285.1] v285.2 n _ _
          refine rr_if_ne (tgt := 143) C dX11_allow_138 (by decide) (fun c138_ => ?_) (fun c138_ => ?_)
          · replace hr := (if_neg c138_).symm.trans hr
            refine rr_aload_n (i := 0) C dX11_allow_143 rfl rfl ?_
            replace hr := Option.bind_eq_some_iff.mp hr
            obtain ⟨v287, e288, hr⟩ := hr
            refine rr_rdR C dX11_allow_144 fl_X11_93 e288 ?_
            refine rr_iload_n (i := 1) C dX11_allow_147 rfl rfl ?_
            refine rr_aload_n (i := 0) C dX11_allow_148 rfl rfl ?_
            replace hr := Option.bind_eq_some_iff.mp hr
            obtain ⟨v289, e290, hr⟩ := hr
            refine rr_rdI C dX11_allow_149 fl_X11_237 e290 ?_
            replace hr := Option.bind_eq_some_iff.mp hr
            obtain ⟨a291, e292, hr⟩ := hr
            subst e292
            replace hr := Option.bind_eq_some_iff.mp hr
            obtain ⟨h293, e294, hr⟩ := hr
            refine rr_stI C dX11_allow_152 e294 ?_
            refine rr_iconst (v := 1) C dX11_allow_153 (by decide) ?_
            obtain rfl := Option.some.inj hr
            exact rr_iret (ty := .boolean) C dX11_allow_154 rfl rfl ⟨rfl, rfl, rfl⟩
          · replace hr := (if_pos c138_).symm.trans hr
            refine rr_iconst (v := 0) C dX11_allow_141 (by decide) ?_
            obtain rfl := Option.some.inj hr
            exact rr_iret (ty := .boolean) C dX11_allow_142 rfl rfl ⟨rfl, rfl, rfl⟩
        · replace hr := (if_neg c106_).symm.trans hr
          refine rr_aload_n (i := 0) C dX11_allow_109 rfl rfl ?_
          refine rr_iconst (v := 0) C dX11_allow_110 (by decide) ?_
          refine rr_iconst (v := 2) C dX11_allow_111 (by decide) ?_
          replace hr := Option.bind_eq_some_iff.mp hr
          obtain ⟨u295, e296, hr⟩ := hr
          replace hr := Option.bind_eq_some_iff.mp hr
          obtain ⟨v297, e298, hr⟩ := hr
          refine rr_callVq (as := [.int 0, .int 2]) (st := []) (mc' := 0) (ms' := 0) C dX11_allow_112 iv_X11_240 (by decide) e296 rfl (Nat.le_of_ble_eq_true rfl) (c_X11_takesNumber l0 0 2 (by omega) e298) (fun v_ h_ n_ q_ => ?_)
          obtain ⟨q1_, q2_, q3_⟩ := q_
          subst v_; subst h_; subst n_
          show WW W0 G 2 _ _ _ 115 [some (.ref l0), some (.int l1)] [.int v297.1] v297.2 n _ _
          refine rr_if_ne (tgt := 120) C dX11_allow_115 (by decide) (fun c115_ => ?_) (fun c115_ => ?_)
          · replace hr := (if_neg c115_).symm.trans hr
            refine rr_aload_n (i := 0) C dX11_allow_120 rfl rfl ?_
            replace hr := Option.bind_eq_some_iff.mp hr
            obtain ⟨v299, e300, hr⟩ := hr
            refine rr_rdR C dX11_allow_121 fl_X11_90 e300 ?_
            refine rr_iload_n (i := 1) C dX11_allow_124 rfl rfl ?_
            refine rr_aload_n (i := 0) C dX11_allow_125 rfl rfl ?_
            replace hr := Option.bind_eq_some_iff.mp hr
            obtain ⟨v301, e302, hr⟩ := hr
            refine rr_rdI C dX11_allow_126 fl_X11_237 e302 ?_
            replace hr := Option.bind_eq_some_iff.mp hr
            obtain ⟨a303, e304, hr⟩ := hr
            subst e304
            replace hr := Option.bind_eq_some_iff.mp hr
            obtain ⟨h305, e306, hr⟩ := hr
            refine rr_stI C dX11_allow_129 e306 ?_
            refine rr_aload_n (i := 0) C dX11_allow_130 rfl rfl ?_
            refine rr_iconst (v := 0) C dX11_allow_131 (by decide) ?_
            refine rr_sipush (v := 200) C dX11_allow_132 (by decide) ?_
            replace hr := Option.bind_eq_some_iff.mp hr
            obtain ⟨u307, e308, hr⟩ := hr
            replace hr := Option.bind_eq_some_iff.mp hr
            obtain ⟨v309, e310, hr⟩ := hr
            refine rr_callVq (as := [.int 0, .int 200]) (st := []) (mc' := 0) (ms' := 0) C dX11_allow_135 iv_X11_240 (by decide) e308 rfl (Nat.le_of_ble_eq_true rfl) (c_X11_takesNumber l0 0 200 (by omega) e310) (fun v_ h_ n_ q_ => ?_)
            obtain ⟨q1_, q2_, q3_⟩ := q_
            subst v_; subst h_; subst n_
            show WW W0 G 2 _ _ _ 138 [some (.ref l0), some (.int l1)] [.int v309.1] v309.2 n _ _
            refine rr_if_ne (tgt := 143) C dX11_allow_138 (by decide) (fun c138_ => ?_) (fun c138_ => ?_)
            · replace hr := (if_neg c138_).symm.trans hr
              refine rr_aload_n (i := 0) C dX11_allow_143 rfl rfl ?_
              replace hr := Option.bind_eq_some_iff.mp hr
              obtain ⟨v311, e312, hr⟩ := hr
              refine rr_rdR C dX11_allow_144 fl_X11_93 e312 ?_
              refine rr_iload_n (i := 1) C dX11_allow_147 rfl rfl ?_
              refine rr_aload_n (i := 0) C dX11_allow_148 rfl rfl ?_
              replace hr := Option.bind_eq_some_iff.mp hr
              obtain ⟨v313, e314, hr⟩ := hr
              refine rr_rdI C dX11_allow_149 fl_X11_237 e314 ?_
              replace hr := Option.bind_eq_some_iff.mp hr
              obtain ⟨a315, e316, hr⟩ := hr
              subst e316
              replace hr := Option.bind_eq_some_iff.mp hr
              obtain ⟨h317, e318, hr⟩ := hr
              refine rr_stI C dX11_allow_152 e318 ?_
              refine rr_iconst (v := 1) C dX11_allow_153 (by decide) ?_
              obtain rfl := Option.some.inj hr
              exact rr_iret (ty := .boolean) C dX11_allow_154 rfl rfl ⟨rfl, rfl, rfl⟩
            · replace hr := (if_pos c138_).symm.trans hr
              refine rr_iconst (v := 0) C dX11_allow_141 (by decide) ?_
              obtain rfl := Option.some.inj hr
              exact rr_iret (ty := .boolean) C dX11_allow_142 rfl rfl ⟨rfl, rfl, rfl⟩
          · replace hr := (if_pos c115_).symm.trans hr
            refine rr_iconst (v := 0) C dX11_allow_118 (by decide) ?_
            obtain rfl := Option.some.inj hr
            exact rr_iret (ty := .boolean) C dX11_allow_119 rfl rfl ⟨rfl, rfl, rfl⟩
      · replace hr := (if_pos c87_).symm.trans hr
        refine rr_iconst (v := 0) C dX11_allow_90 (by decide) ?_
        obtain rfl := Option.some.inj hr
        exact rr_iret (ty := .boolean) C dX11_allow_91 rfl rfl ⟨rfl, rfl, rfl⟩
  · replace hr := (if_pos c12_).symm.trans hr
    refine rr_iconst (v := 0) C dX11_allow_15 (by decide) ?_
    obtain rfl := Option.some.inj hr
    exact rr_iret (ty := .boolean) C dX11_allow_16 rfl rfl ⟨rfl, rfl, rfl⟩
def q_X11_share (K : Nat) (h : mm_H) (n : Nat) (l0 : Nat) (l1 : Int32) : Option (Int32 × mm_H) :=
  (rdR h n l0 10 36).bind fun v1 =>
  v1.bind fun a3 =>
  (stI h n a3 l1 1).bind fun h5 =>
  (ckq h5 n l0 10).bind fun u7 =>
  (q_X11_head K h5 n l0 l1).bind fun v9 =>
  if v9.1 = 0 then
    some (0, v9.2)
  else
  (ckq v9.2 n l0 10).bind fun u11 =>
  (q_X11_takesNumber K v9.2 n l0 0 100).bind fun v13 =>
  if v13.1 = 0 then
    some (0, v13.2)
  else
  (rdR v13.2 n l0 10 39).bind fun v15 =>
  (rdI v13.2 n l0 10 55).bind fun v17 =>
  v15.bind fun a19 =>
  (stI v13.2 n a19 l1 v17).bind fun h21 =>
  (ckq h21 n l0 10).bind fun u23 =>
  (q_X11_takesNumber K h21 n l0 0 100).bind fun v25 =>
  if v25.1 = 0 then
    some (0, v25.2)
  else
  (rdR v25.2 n l0 10 40).bind fun v27 =>
  (rdI v25.2 n l0 10 55).bind fun v29 =>
  v27.bind fun a31 =>
  (stI v25.2 n a31 l1 v29).bind fun h33 =>
  some (1, h33)
set_option maxRecDepth 100000 in
set_option maxHeartbeats 4000000 in
theorem c_X11_share {K : Nat} {G : mm_G} {l : Launch} {h : mm_H} {n : Nat} (l0 : Nat) (l1 : Int32) {r_ : Int32 × mm_H} (hn : 48 ≤ n) (hr : q_X11_share K h n l0 l1 = some r_) : Sp G l yX11_share cX11_share 2 (some .boolean) 4 0 0 [.ref l0, .int l1] h n (fun v h' n' => v = some (.int r_.1) ∧ h' = r_.2 ∧ n' = n) := by
  refine Sp_of (by decide +kernel) (Nat.le_of_ble_eq_true rfl) hn ?_
  intro W0 hwl C
  subst hwl
  unfold q_X11_share at hr
  show WW W0 G 2 0 0 _ 0 [some (.ref l0), some (.int l1)] [] h n 0 0
  refine rr_aload_n (i := 0) C dX11_share_0 rfl rfl ?_
  replace hr := Option.bind_eq_some_iff.mp hr
  obtain ⟨v1, e2, hr⟩ := hr
  refine rr_rdR C dX11_share_1 fl_X11_81 e2 ?_
  refine rr_iload_n (i := 1) C dX11_share_4 rfl rfl ?_
  refine rr_iconst (v := 1) C dX11_share_5 (by decide) ?_
  replace hr := Option.bind_eq_some_iff.mp hr
  obtain ⟨a3, e4, hr⟩ := hr
  subst e4
  replace hr := Option.bind_eq_some_iff.mp hr
  obtain ⟨h5, e6, hr⟩ := hr
  refine rr_stI C dX11_share_6 e6 ?_
  refine rr_aload_n (i := 0) C dX11_share_7 rfl rfl ?_
  refine rr_iload_n (i := 1) C dX11_share_8 rfl rfl ?_
  replace hr := Option.bind_eq_some_iff.mp hr
  obtain ⟨u7, e8, hr⟩ := hr
  replace hr := Option.bind_eq_some_iff.mp hr
  obtain ⟨v9, e10, hr⟩ := hr
  refine rr_callVq (as := [.int l1]) (st := []) (mc' := 0) (ms' := 0) C dX11_share_9 iv_X11_300 (by decide) e8 rfl (Nat.le_of_ble_eq_true rfl) (c_X11_head l0 l1 (by omega) e10) (fun v_ h_ n_ q_ => ?_)
  obtain ⟨q1_, q2_, q3_⟩ := q_
  subst v_; subst h_; subst n_
  show WW W0 G 2 _ _ _ 12 [some (.ref l0), some (.int l1)] [.int v9.1] v9.2 n _ _
  refine rr_if_eq (tgt := 25) C dX11_share_12 (by decide) (fun c12_ => ?_) (fun c12_ => ?_)
  · replace hr := (if_pos c12_).symm.trans hr
    refine rr_iconst (v := 0) C dX11_share_25 (by decide) ?_
    obtain rfl := Option.some.inj hr
    exact rr_iret (ty := .boolean) C dX11_share_26 rfl rfl ⟨rfl, rfl, rfl⟩
  · replace hr := (if_neg c12_).symm.trans hr
    refine rr_aload_n (i := 0) C dX11_share_15 rfl rfl ?_
    refine rr_iconst (v := 0) C dX11_share_16 (by decide) ?_
    refine rr_bipush (v := 100) C dX11_share_17 (by decide) ?_
    replace hr := Option.bind_eq_some_iff.mp hr
    obtain ⟨u11, e12, hr⟩ := hr
    replace hr := Option.bind_eq_some_iff.mp hr
    obtain ⟨v13, e14, hr⟩ := hr
    refine rr_callVq (as := [.int 0, .int 100]) (st := []) (mc' := 0) (ms' := 0) C dX11_share_19 iv_X11_240 (by decide) e12 rfl (Nat.le_of_ble_eq_true rfl) (c_X11_takesNumber l0 0 100 (by omega) e14) (fun v_ h_ n_ q_ => ?_)
    obtain ⟨q1_, q2_, q3_⟩ := q_
    subst v_; subst h_; subst n_
    show WW W0 G 2 _ _ _ 22 [some (.ref l0), some (.int l1)] [.int v13.1] v13.2 n _ _
    refine rr_if_ne (tgt := 27) C dX11_share_22 (by decide) (fun c22_ => ?_) (fun c22_ => ?_)
    · replace hr := (if_neg c22_).symm.trans hr
      refine rr_aload_n (i := 0) C dX11_share_27 rfl rfl ?_
      replace hr := Option.bind_eq_some_iff.mp hr
      obtain ⟨v15, e16, hr⟩ := hr
      refine rr_rdR C dX11_share_28 fl_X11_90 e16 ?_
      refine rr_iload_n (i := 1) C dX11_share_31 rfl rfl ?_
      refine rr_aload_n (i := 0) C dX11_share_32 rfl rfl ?_
      replace hr := Option.bind_eq_some_iff.mp hr
      obtain ⟨v17, e18, hr⟩ := hr
      refine rr_rdI C dX11_share_33 fl_X11_237 e18 ?_
      replace hr := Option.bind_eq_some_iff.mp hr
      obtain ⟨a19, e20, hr⟩ := hr
      subst e20
      replace hr := Option.bind_eq_some_iff.mp hr
      obtain ⟨h21, e22, hr⟩ := hr
      refine rr_stI C dX11_share_36 e22 ?_
      refine rr_aload_n (i := 0) C dX11_share_37 rfl rfl ?_
      refine rr_iconst (v := 0) C dX11_share_38 (by decide) ?_
      refine rr_bipush (v := 100) C dX11_share_39 (by decide) ?_
      replace hr := Option.bind_eq_some_iff.mp hr
      obtain ⟨u23, e24, hr⟩ := hr
      replace hr := Option.bind_eq_some_iff.mp hr
      obtain ⟨v25, e26, hr⟩ := hr
      refine rr_callVq (as := [.int 0, .int 100]) (st := []) (mc' := 0) (ms' := 0) C dX11_share_41 iv_X11_240 (by decide) e24 rfl (Nat.le_of_ble_eq_true rfl) (c_X11_takesNumber l0 0 100 (by omega) e26) (fun v_ h_ n_ q_ => ?_)
      obtain ⟨q1_, q2_, q3_⟩ := q_
      subst v_; subst h_; subst n_
      show WW W0 G 2 _ _ _ 44 [some (.ref l0), some (.int l1)] [.int v25.1] v25.2 n _ _
      refine rr_if_ne (tgt := 49) C dX11_share_44 (by decide) (fun c44_ => ?_) (fun c44_ => ?_)
      · replace hr := (if_neg c44_).symm.trans hr
        refine rr_aload_n (i := 0) C dX11_share_49 rfl rfl ?_
        replace hr := Option.bind_eq_some_iff.mp hr
        obtain ⟨v27, e28, hr⟩ := hr
        refine rr_rdR C dX11_share_50 fl_X11_93 e28 ?_
        refine rr_iload_n (i := 1) C dX11_share_53 rfl rfl ?_
        refine rr_aload_n (i := 0) C dX11_share_54 rfl rfl ?_
        replace hr := Option.bind_eq_some_iff.mp hr
        obtain ⟨v29, e30, hr⟩ := hr
        refine rr_rdI C dX11_share_55 fl_X11_237 e30 ?_
        replace hr := Option.bind_eq_some_iff.mp hr
        obtain ⟨a31, e32, hr⟩ := hr
        subst e32
        replace hr := Option.bind_eq_some_iff.mp hr
        obtain ⟨h33, e34, hr⟩ := hr
        refine rr_stI C dX11_share_58 e34 ?_
        refine rr_iconst (v := 1) C dX11_share_59 (by decide) ?_
        obtain rfl := Option.some.inj hr
        exact rr_iret (ty := .boolean) C dX11_share_60 rfl rfl ⟨rfl, rfl, rfl⟩
      · replace hr := (if_pos c44_).symm.trans hr
        refine rr_iconst (v := 0) C dX11_share_47 (by decide) ?_
        obtain rfl := Option.some.inj hr
        exact rr_iret (ty := .boolean) C dX11_share_48 rfl rfl ⟨rfl, rfl, rfl⟩
    · replace hr := (if_pos c22_).symm.trans hr
      refine rr_iconst (v := 0) C dX11_share_25 (by decide) ?_
      obtain rfl := Option.some.inj hr
      exact rr_iret (ty := .boolean) C dX11_share_26 rfl rfl ⟨rfl, rfl, rfl⟩
def q_X11_target (K : Nat) (h : mm_H) (n : Nat) (l0 : Nat) (l1 : Int32) : Option (Int32 × mm_H) :=
  (rdR h n l0 10 36).bind fun v1 =>
  v1.bind fun a3 =>
  (stI h n a3 l1 2).bind fun h5 =>
  (ckq h5 n l0 10).bind fun u7 =>
  (q_X11_takesNumber K h5 n l0 0 2).bind fun v9 =>
  if v9.1 = 0 then
    some (0, v9.2)
  else
  (rdR v9.2 n l0 10 37).bind fun v11 =>
  (rdI v9.2 n l0 10 55).bind fun v13 =>
  v11.bind fun a15 =>
  (stI v9.2 n a15 l1 v13).bind fun h17 =>
  (rdR h17 n l0 10 38).bind fun v19 =>
  (ckq h17 n l0 10).bind fun u21 =>
  (q_X11_takes K h17 n l0 1836020325).bind fun v23 =>
  if v23.1 = 0 then
    (ckq v23.2 n l0 10).bind fun u25 =>
    (q_X11_takes K v23.2 n l0 1818588019).bind fun v27 =>
    if v27.1 = 0 then
      v19.bind fun a29 =>
      (stI v27.2 n a29 l1 (-1)).bind fun h31 =>
      (rdR h31 n l0 10 38).bind fun v33 =>
      v33.bind fun a35 =>
      (ldI h31 n a35 l1).bind fun v37 =>
      if v37 = (-1) then
        some (0, h31)
      else
      (ckq h31 n l0 10).bind fun u39 =>
      (q_X11_takesPlain K h31 n l0).bind fun v41 =>
      if v41.1 = 0 then
        some (0, v41.2)
      else
      (rdR v41.2 n l0 10 39).bind fun v43 =>
      (rdI v41.2 n l0 10 55).bind fun v45 =>
      v43.bind fun a47 =>
      (stI v41.2 n a47 l1 v45).bind fun h49 =>
      (ckq h49 n l0 10).bind fun u51 =>
      (q_X11_takes K h49 n l0 1937007984).bind fun v53 =>
      if v53.1 = 0 then
        some (0, v53.2)
      else
      (ckq v53.2 n l0 10).bind fun u55 =>
      (q_X11_takesNumber K v53.2 n l0 1 99999).bind fun v57 =>
      if v57.1 = 0 then
        some (0, v57.2)
      else
      (rdR v57.2 n l0 10 40).bind fun v59 =>
      (rdI v57.2 n l0 10 55).bind fun v61 =>
      v59.bind fun a63 =>
      (stI v57.2 n a63 l1 v61).bind fun h65 =>
      (ckq h65 n l0 10).bind fun u67 =>
      (q_X11_takes K h65 n l0 1668245870).bind fun v69 =>
      if v69.1 = 0 then
        some (0, v69.2)
      else
      (ckq v69.2 n l0 10).bind fun u71 =>
      (q_X11_takesPlain K v69.2 n l0).bind fun v73 =>
      if v73.1 = 0 then
        some (0, v73.2)
      else
      (rdR v73.2 n l0 10 41).bind fun v75 =>
      (rdI v73.2 n l0 10 55).bind fun v77 =>
      v75.bind fun a79 =>
      (stI v73.2 n a79 l1 v77).bind fun h81 =>
      (ckq h81 n l0 10).bind fun u83 =>
      (q_X11_takes K h81 n l0 1684365668).bind fun v85 =>
      if v85.1 = 0 then
        some (0, v85.2)
      else
      (ckq v85.2 n l0 10).bind fun u87 =>
      (q_X11_takesPlain K v85.2 n l0).bind fun v89 =>
      if v89.1 = 0 then
        some (0, v89.2)
      else
      (rdR v89.2 n l0 10 42).bind fun v91 =>
      (rdI v89.2 n l0 10 55).bind fun v93 =>
      v91.bind fun a95 =>
      (stI v89.2 n a95 l1 v93).bind fun h97 =>
      (ckq h97 n l0 10).bind fun u99 =>
      (q_X11_takes K h97 n l0 6513008).bind fun v101 =>
      if v101.1 = 0 then
        some (0, v101.2)
      else
      (ckq v101.2 n l0 10).bind fun u103 =>
      (q_X11_takesPlain K v101.2 n l0).bind fun v105 =>
      if v105.1 = 0 then
        some (0, v105.2)
      else
      (rdR v105.2 n l0 10 43).bind fun v107 =>
      (rdI v105.2 n l0 10 55).bind fun v109 =>
      v107.bind fun a111 =>
      (stI v105.2 n a111 l1 v109).bind fun h113 =>
      some (1, h113)
    else
    v19.bind fun a115 =>
    (stI v27.2 n a115 l1 1).bind fun h117 =>
    (rdR h117 n l0 10 38).bind fun v119 =>
    v119.bind fun a121 =>
    (ldI h117 n a121 l1).bind fun v123 =>
    if v123 = (-1) then
      some (0, h117)
    else
    (ckq h117 n l0 10).bind fun u125 =>
    (q_X11_takesPlain K h117 n l0).bind fun v127 =>
    if v127.1 = 0 then
      some (0, v127.2)
    else
    (rdR v127.2 n l0 10 39).bind fun v129 =>
    (rdI v127.2 n l0 10 55).bind fun v131 =>
    v129.bind fun a133 =>
    (stI v127.2 n a133 l1 v131).bind fun h135 =>
    (ckq h135 n l0 10).bind fun u137 =>
    (q_X11_takes K h135 n l0 1937007984).bind fun v139 =>
    if v139.1 = 0 then
      some (0, v139.2)
    else
    (ckq v139.2 n l0 10).bind fun u141 =>
    (q_X11_takesNumber K v139.2 n l0 1 99999).bind fun v143 =>
    if v143.1 = 0 then
      some (0, v143.2)
    else
    (rdR v143.2 n l0 10 40).bind fun v145 =>
    (rdI v143.2 n l0 10 55).bind fun v147 =>
    v145.bind fun a149 =>
    (stI v143.2 n a149 l1 v147).bind fun h151 =>
    (ckq h151 n l0 10).bind fun u153 =>
    (q_X11_takes K h151 n l0 1668245870).bind fun v155 =>
    if v155.1 = 0 then
      some (0, v155.2)
    else
    (ckq v155.2 n l0 10).bind fun u157 =>
    (q_X11_takesPlain K v155.2 n l0).bind fun v159 =>
    if v159.1 = 0 then
      some (0, v159.2)
    else
    (rdR v159.2 n l0 10 41).bind fun v161 =>
    (rdI v159.2 n l0 10 55).bind fun v163 =>
    v161.bind fun a165 =>
    (stI v159.2 n a165 l1 v163).bind fun h167 =>
    (ckq h167 n l0 10).bind fun u169 =>
    (q_X11_takes K h167 n l0 1684365668).bind fun v171 =>
    if v171.1 = 0 then
      some (0, v171.2)
    else
    (ckq v171.2 n l0 10).bind fun u173 =>
    (q_X11_takesPlain K v171.2 n l0).bind fun v175 =>
    if v175.1 = 0 then
      some (0, v175.2)
    else
    (rdR v175.2 n l0 10 42).bind fun v177 =>
    (rdI v175.2 n l0 10 55).bind fun v179 =>
    v177.bind fun a181 =>
    (stI v175.2 n a181 l1 v179).bind fun h183 =>
    (ckq h183 n l0 10).bind fun u185 =>
    (q_X11_takes K h183 n l0 6513008).bind fun v187 =>
    if v187.1 = 0 then
      some (0, v187.2)
    else
    (ckq v187.2 n l0 10).bind fun u189 =>
    (q_X11_takesPlain K v187.2 n l0).bind fun v191 =>
    if v191.1 = 0 then
      some (0, v191.2)
    else
    (rdR v191.2 n l0 10 43).bind fun v193 =>
    (rdI v191.2 n l0 10 55).bind fun v195 =>
    v193.bind fun a197 =>
    (stI v191.2 n a197 l1 v195).bind fun h199 =>
    some (1, h199)
  else
  v19.bind fun a201 =>
  (stI v23.2 n a201 l1 0).bind fun h203 =>
  (rdR h203 n l0 10 38).bind fun v205 =>
  v205.bind fun a207 =>
  (ldI h203 n a207 l1).bind fun v209 =>
  if v209 = (-1) then
    some (0, h203)
  else
  (ckq h203 n l0 10).bind fun u211 =>
  (q_X11_takesPlain K h203 n l0).bind fun v213 =>
  if v213.1 = 0 then
    some (0, v213.2)
  else
  (rdR v213.2 n l0 10 39).bind fun v215 =>
  (rdI v213.2 n l0 10 55).bind fun v217 =>
  v215.bind fun a219 =>
  (stI v213.2 n a219 l1 v217).bind fun h221 =>
  (ckq h221 n l0 10).bind fun u223 =>
  (q_X11_takes K h221 n l0 1937007984).bind fun v225 =>
  if v225.1 = 0 then
    some (0, v225.2)
  else
  (ckq v225.2 n l0 10).bind fun u227 =>
  (q_X11_takesNumber K v225.2 n l0 1 99999).bind fun v229 =>
  if v229.1 = 0 then
    some (0, v229.2)
  else
  (rdR v229.2 n l0 10 40).bind fun v231 =>
  (rdI v229.2 n l0 10 55).bind fun v233 =>
  v231.bind fun a235 =>
  (stI v229.2 n a235 l1 v233).bind fun h237 =>
  (ckq h237 n l0 10).bind fun u239 =>
  (q_X11_takes K h237 n l0 1668245870).bind fun v241 =>
  if v241.1 = 0 then
    some (0, v241.2)
  else
  (ckq v241.2 n l0 10).bind fun u243 =>
  (q_X11_takesPlain K v241.2 n l0).bind fun v245 =>
  if v245.1 = 0 then
    some (0, v245.2)
  else
  (rdR v245.2 n l0 10 41).bind fun v247 =>
  (rdI v245.2 n l0 10 55).bind fun v249 =>
  v247.bind fun a251 =>
  (stI v245.2 n a251 l1 v249).bind fun h253 =>
  (ckq h253 n l0 10).bind fun u255 =>
  (q_X11_takes K h253 n l0 1684365668).bind fun v257 =>
  if v257.1 = 0 then
    some (0, v257.2)
  else
  (ckq v257.2 n l0 10).bind fun u259 =>
  (q_X11_takesPlain K v257.2 n l0).bind fun v261 =>
  if v261.1 = 0 then
    some (0, v261.2)
  else
  (rdR v261.2 n l0 10 42).bind fun v263 =>
  (rdI v261.2 n l0 10 55).bind fun v265 =>
  v263.bind fun a267 =>
  (stI v261.2 n a267 l1 v265).bind fun h269 =>
  (ckq h269 n l0 10).bind fun u271 =>
  (q_X11_takes K h269 n l0 6513008).bind fun v273 =>
  if v273.1 = 0 then
    some (0, v273.2)
  else
  (ckq v273.2 n l0 10).bind fun u275 =>
  (q_X11_takesPlain K v273.2 n l0).bind fun v277 =>
  if v277.1 = 0 then
    some (0, v277.2)
  else
  (rdR v277.2 n l0 10 43).bind fun v279 =>
  (rdI v277.2 n l0 10 55).bind fun v281 =>
  v279.bind fun a283 =>
  (stI v277.2 n a283 l1 v281).bind fun h285 =>
  some (1, h285)
set_option maxRecDepth 100000 in
set_option maxHeartbeats 4000000 in
theorem c_X11_target {K : Nat} {G : mm_G} {l : Launch} {h : mm_H} {n : Nat} (l0 : Nat) (l1 : Int32) {r_ : Int32 × mm_H} (hn : 48 ≤ n) (hr : q_X11_target K h n l0 l1 = some r_) : Sp G l yX11_target cX11_target 2 (some .boolean) 3 0 0 [.ref l0, .int l1] h n (fun v h' n' => v = some (.int r_.1) ∧ h' = r_.2 ∧ n' = n) := by
  refine Sp_of (by decide +kernel) (Nat.le_of_ble_eq_true rfl) hn ?_
  intro W0 hwl C
  subst hwl
  unfold q_X11_target at hr
  show WW W0 G 2 0 0 _ 0 [some (.ref l0), some (.int l1)] [] h n 0 0
  refine rr_aload_n (i := 0) C dX11_target_0 rfl rfl ?_
  replace hr := Option.bind_eq_some_iff.mp hr
  obtain ⟨v1, e2, hr⟩ := hr
  refine rr_rdR C dX11_target_1 fl_X11_81 e2 ?_
  refine rr_iload_n (i := 1) C dX11_target_4 rfl rfl ?_
  refine rr_iconst (v := 2) C dX11_target_5 (by decide) ?_
  replace hr := Option.bind_eq_some_iff.mp hr
  obtain ⟨a3, e4, hr⟩ := hr
  subst e4
  replace hr := Option.bind_eq_some_iff.mp hr
  obtain ⟨h5, e6, hr⟩ := hr
  refine rr_stI C dX11_target_6 e6 ?_
  refine rr_aload_n (i := 0) C dX11_target_7 rfl rfl ?_
  refine rr_iconst (v := 0) C dX11_target_8 (by decide) ?_
  refine rr_iconst (v := 2) C dX11_target_9 (by decide) ?_
  replace hr := Option.bind_eq_some_iff.mp hr
  obtain ⟨u7, e8, hr⟩ := hr
  replace hr := Option.bind_eq_some_iff.mp hr
  obtain ⟨v9, e10, hr⟩ := hr
  refine rr_callVq (as := [.int 0, .int 2]) (st := []) (mc' := 0) (ms' := 0) C dX11_target_10 iv_X11_240 (by decide) e8 rfl (Nat.le_of_ble_eq_true rfl) (c_X11_takesNumber l0 0 2 (by omega) e10) (fun v_ h_ n_ q_ => ?_)
  obtain ⟨q1_, q2_, q3_⟩ := q_
  subst v_; subst h_; subst n_
  show WW W0 G 2 _ _ _ 13 [some (.ref l0), some (.int l1)] [.int v9.1] v9.2 n _ _
  refine rr_if_ne (tgt := 18) C dX11_target_13 (by decide) (fun c13_ => ?_) (fun c13_ => ?_)
  · replace hr := (if_neg c13_).symm.trans hr
    refine rr_aload_n (i := 0) C dX11_target_18 rfl rfl ?_
    replace hr := Option.bind_eq_some_iff.mp hr
    obtain ⟨v11, e12, hr⟩ := hr
    refine rr_rdR C dX11_target_19 fl_X11_84 e12 ?_
    refine rr_iload_n (i := 1) C dX11_target_22 rfl rfl ?_
    refine rr_aload_n (i := 0) C dX11_target_23 rfl rfl ?_
    replace hr := Option.bind_eq_some_iff.mp hr
    obtain ⟨v13, e14, hr⟩ := hr
    refine rr_rdI C dX11_target_24 fl_X11_237 e14 ?_
    replace hr := Option.bind_eq_some_iff.mp hr
    obtain ⟨a15, e16, hr⟩ := hr
    subst e16
    replace hr := Option.bind_eq_some_iff.mp hr
    obtain ⟨h17, e18, hr⟩ := hr
    refine rr_stI C dX11_target_27 e18 ?_
    refine rr_aload_n (i := 0) C dX11_target_28 rfl rfl ?_
    replace hr := Option.bind_eq_some_iff.mp hr
    obtain ⟨v19, e20, hr⟩ := hr
    refine rr_rdR C dX11_target_29 fl_X11_87 e20 ?_
    refine rr_iload_n (i := 1) C dX11_target_32 rfl rfl ?_
    refine rr_aload_n (i := 0) C dX11_target_33 rfl rfl ?_
    refine rr_ldc2 C dX11_target_34 ct_X11_311 ?_
    replace hr := Option.bind_eq_some_iff.mp hr
    obtain ⟨u21, e22, hr⟩ := hr
    replace hr := Option.bind_eq_some_iff.mp hr
    obtain ⟨v23, e24, hr⟩ := hr
    refine rr_callVq (as := [.long 1836020325]) (st := [.int l1, va_rf v19]) (mc' := 0) (ms' := 0) C dX11_target_37 iv_X11_254 (by decide) e22 rfl (by rcases v19 with _ | _ <;> exact Nat.le_of_ble_eq_true rfl) (c_X11_takes l0 1836020325 (by omega) e24) (fun v_ h_ n_ q_ => ?_)
    obtain ⟨q1_, q2_, q3_⟩ := q_
    subst v_; subst h_; subst n_
    show WW W0 G 2 _ _ _ 40 [some (.ref l0), some (.int l1)] [.int v23.1, .int l1, va_rf v19] v23.2 n _ _
    refine rr_if_eq (tgt := 47) C dX11_target_40 (by decide) (fun c40_ => ?_) (fun c40_ => ?_)
    · replace hr := (if_pos c40_).symm.trans hr
      refine rr_aload_n (i := 0) C dX11_target_47 rfl rfl ?_
      refine rr_ldc2 C dX11_target_48 ct_X11_313 ?_
      replace hr := Option.bind_eq_some_iff.mp hr
      obtain ⟨u25, e26, hr⟩ := hr
      replace hr := Option.bind_eq_some_iff.mp hr
      obtain ⟨v27, e28, hr⟩ := hr
      refine rr_callVq (as := [.long 1818588019]) (st := [.int l1, va_rf v19]) (mc' := 0) (ms' := 0) C dX11_target_51 iv_X11_254 (by decide) e26 rfl (by rcases v19 with _ | _ <;> exact Nat.le_of_ble_eq_true rfl) (c_X11_takes l0 1818588019 (by omega) e28) (fun v_ h_ n_ q_ => ?_)
      obtain ⟨q1_, q2_, q3_⟩ := q_
      subst v_; subst h_; subst n_
      show WW W0 G 2 _ _ _ 54 [some (.ref l0), some (.int l1)] [.int v27.1, .int l1, va_rf v19] v27.2 n _ _
      refine rr_if_eq (tgt := 61) C dX11_target_54 (by decide) (fun c54_ => ?_) (fun c54_ => ?_)
      · replace hr := (if_pos c54_).symm.trans hr
        refine rr_iconst (v := (-1)) C dX11_target_61 (by decide) ?_
        replace hr := Option.bind_eq_some_iff.mp hr
        obtain ⟨a29, e30, hr⟩ := hr
        subst e30
        replace hr := Option.bind_eq_some_iff.mp hr
        obtain ⟨h31, e32, hr⟩ := hr
        refine rr_stI C dX11_target_62 e32 ?_
        refine rr_aload_n (i := 0) C dX11_target_63 rfl rfl ?_
        replace hr := Option.bind_eq_some_iff.mp hr
        obtain ⟨v33, e34, hr⟩ := hr
        refine rr_rdR C dX11_target_64 fl_X11_87 e34 ?_
        refine rr_iload_n (i := 1) C dX11_target_67 rfl rfl ?_
        replace hr := Option.bind_eq_some_iff.mp hr
        obtain ⟨a35, e36, hr⟩ := hr
        subst e36
        replace hr := Option.bind_eq_some_iff.mp hr
        obtain ⟨v37, e38, hr⟩ := hr
        refine rr_ldI C dX11_target_68 e38 ?_
        refine rr_iconst (v := (-1)) C dX11_target_69 (by decide) ?_
        refine rr_icmp_eq (tgt := 80) C dX11_target_70 (by decide) (fun c70_ => ?_) (fun c70_ => ?_)
        · replace hr := (if_pos c70_).symm.trans hr
          refine rr_iconst (v := 0) C dX11_target_80 (by decide) ?_
          obtain rfl := Option.some.inj hr
          exact rr_iret (ty := .boolean) C dX11_target_81 rfl rfl ⟨rfl, rfl, rfl⟩
        · replace hr := (if_neg c70_).symm.trans hr
          refine rr_aload_n (i := 0) C dX11_target_73 rfl rfl ?_
          replace hr := Option.bind_eq_some_iff.mp hr
          obtain ⟨u39, e40, hr⟩ := hr
          replace hr := Option.bind_eq_some_iff.mp hr
          obtain ⟨v41, e42, hr⟩ := hr
          refine rr_callVq (as := []) (st := []) (mc' := 0) (ms' := 0) C dX11_target_74 iv_X11_288 (by decide) e40 rfl (Nat.le_of_ble_eq_true rfl) (c_X11_takesPlain l0 (by omega) e42) (fun v_ h_ n_ q_ => ?_)
          obtain ⟨q1_, q2_, q3_⟩ := q_
          subst v_; subst h_; subst n_
          show WW W0 G 2 _ _ _ 77 [some (.ref l0), some (.int l1)] [.int v41.1] v41.2 n _ _
          refine rr_if_ne (tgt := 82) C dX11_target_77 (by decide) (fun c77_ => ?_) (fun c77_ => ?_)
          · replace hr := (if_neg c77_).symm.trans hr
            refine rr_aload_n (i := 0) C dX11_target_82 rfl rfl ?_
            replace hr := Option.bind_eq_some_iff.mp hr
            obtain ⟨v43, e44, hr⟩ := hr
            refine rr_rdR C dX11_target_83 fl_X11_90 e44 ?_
            refine rr_iload_n (i := 1) C dX11_target_86 rfl rfl ?_
            refine rr_aload_n (i := 0) C dX11_target_87 rfl rfl ?_
            replace hr := Option.bind_eq_some_iff.mp hr
            obtain ⟨v45, e46, hr⟩ := hr
            refine rr_rdI C dX11_target_88 fl_X11_237 e46 ?_
            replace hr := Option.bind_eq_some_iff.mp hr
            obtain ⟨a47, e48, hr⟩ := hr
            subst e48
            replace hr := Option.bind_eq_some_iff.mp hr
            obtain ⟨h49, e50, hr⟩ := hr
            refine rr_stI C dX11_target_91 e50 ?_
            refine rr_aload_n (i := 0) C dX11_target_92 rfl rfl ?_
            refine rr_ldc2 C dX11_target_93 ct_X11_315 ?_
            replace hr := Option.bind_eq_some_iff.mp hr
            obtain ⟨u51, e52, hr⟩ := hr
            replace hr := Option.bind_eq_some_iff.mp hr
            obtain ⟨v53, e54, hr⟩ := hr
            refine rr_callVq (as := [.long 1937007984]) (st := []) (mc' := 0) (ms' := 0) C dX11_target_96 iv_X11_254 (by decide) e52 rfl (Nat.le_of_ble_eq_true rfl) (c_X11_takes l0 1937007984 (by omega) e54) (fun v_ h_ n_ q_ => ?_)
            obtain ⟨q1_, q2_, q3_⟩ := q_
            subst v_; subst h_; subst n_
            show WW W0 G 2 _ _ _ 99 [some (.ref l0), some (.int l1)] [.int v53.1] v53.2 n _ _
            refine rr_if_eq (tgt := 112) C dX11_target_99 (by decide) (fun c99_ => ?_) (fun c99_ => ?_)
            · replace hr := (if_pos c99_).symm.trans hr
              refine rr_iconst (v := 0) C dX11_target_112 (by decide) ?_
              obtain rfl := Option.some.inj hr
              exact rr_iret (ty := .boolean) C dX11_target_113 rfl rfl ⟨rfl, rfl, rfl⟩
            · replace hr := (if_neg c99_).symm.trans hr
              refine rr_aload_n (i := 0) C dX11_target_102 rfl rfl ?_
              refine rr_iconst (v := 1) C dX11_target_103 (by decide) ?_
              refine rr_ldc C dX11_target_104 ct_X11_176 ?_
              replace hr := Option.bind_eq_some_iff.mp hr
              obtain ⟨u55, e56, hr⟩ := hr
              replace hr := Option.bind_eq_some_iff.mp hr
              obtain ⟨v57, e58, hr⟩ := hr
              refine rr_callVq (as := [.int 1, .int 99999]) (st := []) (mc' := 0) (ms' := 0) C dX11_target_106 iv_X11_240 (by decide) e56 rfl (Nat.le_of_ble_eq_true rfl) (c_X11_takesNumber l0 1 99999 (by omega) e58) (fun v_ h_ n_ q_ => ?_)
              obtain ⟨q1_, q2_, q3_⟩ := q_
              subst v_; subst h_; subst n_
              show WW W0 G 2 _ _ _ 109 [some (.ref l0), some (.int l1)] [.int v57.1] v57.2 n _ _
              refine rr_if_ne (tgt := 114) C dX11_target_109 (by decide) (fun c109_ => ?_) (fun c109_ => ?_)
              · replace hr := (if_neg c109_).symm.trans hr
                refine rr_aload_n (i := 0) C dX11_target_114 rfl rfl ?_
                replace hr := Option.bind_eq_some_iff.mp hr
                obtain ⟨v59, e60, hr⟩ := hr
                refine rr_rdR C dX11_target_115 fl_X11_93 e60 ?_
                refine rr_iload_n (i := 1) C dX11_target_118 rfl rfl ?_
                refine rr_aload_n (i := 0) C dX11_target_119 rfl rfl ?_
                replace hr := Option.bind_eq_some_iff.mp hr
                obtain ⟨v61, e62, hr⟩ := hr
                refine rr_rdI C dX11_target_120 fl_X11_237 e62 ?_
                replace hr := Option.bind_eq_some_iff.mp hr
                obtain ⟨a63, e64, hr⟩ := hr
                subst e64
                replace hr := Option.bind_eq_some_iff.mp hr
                obtain ⟨h65, e66, hr⟩ := hr
                refine rr_stI C dX11_target_123 e66 ?_
                refine rr_aload_n (i := 0) C dX11_target_124 rfl rfl ?_
                refine rr_ldc2 C dX11_target_125 ct_X11_317 ?_
                replace hr := Option.bind_eq_some_iff.mp hr
                obtain ⟨u67, e68, hr⟩ := hr
                replace hr := Option.bind_eq_some_iff.mp hr
                obtain ⟨v69, e70, hr⟩ := hr
                refine rr_callVq (as := [.long 1668245870]) (st := []) (mc' := 0) (ms' := 0) C dX11_target_128 iv_X11_254 (by decide) e68 rfl (Nat.le_of_ble_eq_true rfl) (c_X11_takes l0 1668245870 (by omega) e70) (fun v_ h_ n_ q_ => ?_)
                obtain ⟨q1_, q2_, q3_⟩ := q_
                subst v_; subst h_; subst n_
                show WW W0 G 2 _ _ _ 131 [some (.ref l0), some (.int l1)] [.int v69.1] v69.2 n _ _
                refine rr_if_eq (tgt := 141) C dX11_target_131 (by decide) (fun c131_ => ?_) (fun c131_ => ?_)
                · replace hr := (if_pos c131_).symm.trans hr
                  refine rr_iconst (v := 0) C dX11_target_141 (by decide) ?_
                  obtain rfl := Option.some.inj hr
                  exact rr_iret (ty := .boolean) C dX11_target_142 rfl rfl ⟨rfl, rfl, rfl⟩
                · replace hr := (if_neg c131_).symm.trans hr
                  refine rr_aload_n (i := 0) C dX11_target_134 rfl rfl ?_
                  replace hr := Option.bind_eq_some_iff.mp hr
                  obtain ⟨u71, e72, hr⟩ := hr
                  replace hr := Option.bind_eq_some_iff.mp hr
                  obtain ⟨v73, e74, hr⟩ := hr
                  refine rr_callVq (as := []) (st := []) (mc' := 0) (ms' := 0) C dX11_target_135 iv_X11_288 (by decide) e72 rfl (Nat.le_of_ble_eq_true rfl) (c_X11_takesPlain l0 (by omega) e74) (fun v_ h_ n_ q_ => ?_)
                  obtain ⟨q1_, q2_, q3_⟩ := q_
                  subst v_; subst h_; subst n_
                  show WW W0 G 2 _ _ _ 138 [some (.ref l0), some (.int l1)] [.int v73.1] v73.2 n _ _
                  refine rr_if_ne (tgt := 143) C dX11_target_138 (by decide) (fun c138_ => ?_) (fun c138_ => ?_)
                  · replace hr := (if_neg c138_).symm.trans hr
                    refine rr_aload_n (i := 0) C dX11_target_143 rfl rfl ?_
                    replace hr := Option.bind_eq_some_iff.mp hr
                    obtain ⟨v75, e76, hr⟩ := hr
                    refine rr_rdR C dX11_target_144 fl_X11_96 e76 ?_
                    refine rr_iload_n (i := 1) C dX11_target_147 rfl rfl ?_
                    refine rr_aload_n (i := 0) C dX11_target_148 rfl rfl ?_
                    replace hr := Option.bind_eq_some_iff.mp hr
                    obtain ⟨v77, e78, hr⟩ := hr
                    refine rr_rdI C dX11_target_149 fl_X11_237 e78 ?_
                    replace hr := Option.bind_eq_some_iff.mp hr
                    obtain ⟨a79, e80, hr⟩ := hr
                    subst e80
                    replace hr := Option.bind_eq_some_iff.mp hr
                    obtain ⟨h81, e82, hr⟩ := hr
                    refine rr_stI C dX11_target_152 e82 ?_
                    refine rr_aload_n (i := 0) C dX11_target_153 rfl rfl ?_
                    refine rr_ldc2 C dX11_target_154 ct_X11_319 ?_
                    replace hr := Option.bind_eq_some_iff.mp hr
                    obtain ⟨u83, e84, hr⟩ := hr
                    replace hr := Option.bind_eq_some_iff.mp hr
                    obtain ⟨v85, e86, hr⟩ := hr
                    refine rr_callVq (as := [.long 1684365668]) (st := []) (mc' := 0) (ms' := 0) C dX11_target_157 iv_X11_254 (by decide) e84 rfl (Nat.le_of_ble_eq_true rfl) (c_X11_takes l0 1684365668 (by omega) e86) (fun v_ h_ n_ q_ => ?_)
                    obtain ⟨q1_, q2_, q3_⟩ := q_
                    subst v_; subst h_; subst n_
                    show WW W0 G 2 _ _ _ 160 [some (.ref l0), some (.int l1)] [.int v85.1] v85.2 n _ _
                    refine rr_if_eq (tgt := 170) C dX11_target_160 (by decide) (fun c160_ => ?_) (fun c160_ => ?_)
                    · replace hr := (if_pos c160_).symm.trans hr
                      refine rr_iconst (v := 0) C dX11_target_170 (by decide) ?_
                      obtain rfl := Option.some.inj hr
                      exact rr_iret (ty := .boolean) C dX11_target_171 rfl rfl ⟨rfl, rfl, rfl⟩
                    · replace hr := (if_neg c160_).symm.trans hr
                      refine rr_aload_n (i := 0) C dX11_target_163 rfl rfl ?_
                      replace hr := Option.bind_eq_some_iff.mp hr
                      obtain ⟨u87, e88, hr⟩ := hr
                      replace hr := Option.bind_eq_some_iff.mp hr
                      obtain ⟨v89, e90, hr⟩ := hr
                      refine rr_callVq (as := []) (st := []) (mc' := 0) (ms' := 0) C dX11_target_164 iv_X11_288 (by decide) e88 rfl (Nat.le_of_ble_eq_true rfl) (c_X11_takesPlain l0 (by omega) e90) (fun v_ h_ n_ q_ => ?_)
                      obtain ⟨q1_, q2_, q3_⟩ := q_
                      subst v_; subst h_; subst n_
                      show WW W0 G 2 _ _ _ 167 [some (.ref l0), some (.int l1)] [.int v89.1] v89.2 n _ _
                      refine rr_if_ne (tgt := 172) C dX11_target_167 (by decide) (fun c167_ => ?_) (fun c167_ => ?_)
                      · replace hr := (if_neg c167_).symm.trans hr
                        refine rr_aload_n (i := 0) C dX11_target_172 rfl rfl ?_
                        replace hr := Option.bind_eq_some_iff.mp hr
                        obtain ⟨v91, e92, hr⟩ := hr
                        refine rr_rdR C dX11_target_173 fl_X11_99 e92 ?_
                        refine rr_iload_n (i := 1) C dX11_target_176 rfl rfl ?_
                        refine rr_aload_n (i := 0) C dX11_target_177 rfl rfl ?_
                        replace hr := Option.bind_eq_some_iff.mp hr
                        obtain ⟨v93, e94, hr⟩ := hr
                        refine rr_rdI C dX11_target_178 fl_X11_237 e94 ?_
                        replace hr := Option.bind_eq_some_iff.mp hr
                        obtain ⟨a95, e96, hr⟩ := hr
                        subst e96
                        replace hr := Option.bind_eq_some_iff.mp hr
                        obtain ⟨h97, e98, hr⟩ := hr
                        refine rr_stI C dX11_target_181 e98 ?_
                        refine rr_aload_n (i := 0) C dX11_target_182 rfl rfl ?_
                        refine rr_ldc2 C dX11_target_183 ct_X11_321 ?_
                        replace hr := Option.bind_eq_some_iff.mp hr
                        obtain ⟨u99, e100, hr⟩ := hr
                        replace hr := Option.bind_eq_some_iff.mp hr
                        obtain ⟨v101, e102, hr⟩ := hr
                        refine rr_callVq (as := [.long 6513008]) (st := []) (mc' := 0) (ms' := 0) C dX11_target_186 iv_X11_254 (by decide) e100 rfl (Nat.le_of_ble_eq_true rfl) (c_X11_takes l0 6513008 (by omega) e102) (fun v_ h_ n_ q_ => ?_)
                        obtain ⟨q1_, q2_, q3_⟩ := q_
                        subst v_; subst h_; subst n_
                        show WW W0 G 2 _ _ _ 189 [some (.ref l0), some (.int l1)] [.int v101.1] v101.2 n _ _
                        refine rr_if_eq (tgt := 199) C dX11_target_189 (by decide) (fun c189_ => ?_) (fun c189_ => ?_)
                        · replace hr := (if_pos c189_).symm.trans hr
                          refine rr_iconst (v := 0) C dX11_target_199 (by decide) ?_
                          obtain rfl := Option.some.inj hr
                          exact rr_iret (ty := .boolean) C dX11_target_200 rfl rfl ⟨rfl, rfl, rfl⟩
                        · replace hr := (if_neg c189_).symm.trans hr
                          refine rr_aload_n (i := 0) C dX11_target_192 rfl rfl ?_
                          replace hr := Option.bind_eq_some_iff.mp hr
                          obtain ⟨u103, e104, hr⟩ := hr
                          replace hr := Option.bind_eq_some_iff.mp hr
                          obtain ⟨v105, e106, hr⟩ := hr
                          refine rr_callVq (as := []) (st := []) (mc' := 0) (ms' := 0) C dX11_target_193 iv_X11_288 (by decide) e104 rfl (Nat.le_of_ble_eq_true rfl) (c_X11_takesPlain l0 (by omega) e106) (fun v_ h_ n_ q_ => ?_)
                          obtain ⟨q1_, q2_, q3_⟩ := q_
                          subst v_; subst h_; subst n_
                          show WW W0 G 2 _ _ _ 196 [some (.ref l0), some (.int l1)] [.int v105.1] v105.2 n _ _
                          refine rr_if_ne (tgt := 201) C dX11_target_196 (by decide) (fun c196_ => ?_) (fun c196_ => ?_)
                          · replace hr := (if_neg c196_).symm.trans hr
                            refine rr_aload_n (i := 0) C dX11_target_201 rfl rfl ?_
                            replace hr := Option.bind_eq_some_iff.mp hr
                            obtain ⟨v107, e108, hr⟩ := hr
                            refine rr_rdR C dX11_target_202 fl_X11_102 e108 ?_
                            refine rr_iload_n (i := 1) C dX11_target_205 rfl rfl ?_
                            refine rr_aload_n (i := 0) C dX11_target_206 rfl rfl ?_
                            replace hr := Option.bind_eq_some_iff.mp hr
                            obtain ⟨v109, e110, hr⟩ := hr
                            refine rr_rdI C dX11_target_207 fl_X11_237 e110 ?_
                            replace hr := Option.bind_eq_some_iff.mp hr
                            obtain ⟨a111, e112, hr⟩ := hr
                            subst e112
                            replace hr := Option.bind_eq_some_iff.mp hr
                            obtain ⟨h113, e114, hr⟩ := hr
                            refine rr_stI C dX11_target_210 e114 ?_
                            refine rr_iconst (v := 1) C dX11_target_211 (by decide) ?_
                            obtain rfl := Option.some.inj hr
                            exact rr_iret (ty := .boolean) C dX11_target_212 rfl rfl ⟨rfl, rfl, rfl⟩
                          · replace hr := (if_pos c196_).symm.trans hr
                            refine rr_iconst (v := 0) C dX11_target_199 (by decide) ?_
                            obtain rfl := Option.some.inj hr
                            exact rr_iret (ty := .boolean) C dX11_target_200 rfl rfl ⟨rfl, rfl, rfl⟩
                      · replace hr := (if_pos c167_).symm.trans hr
                        refine rr_iconst (v := 0) C dX11_target_170 (by decide) ?_
                        obtain rfl := Option.some.inj hr
                        exact rr_iret (ty := .boolean) C dX11_target_171 rfl rfl ⟨rfl, rfl, rfl⟩
                  · replace hr := (if_pos c138_).symm.trans hr
                    refine rr_iconst (v := 0) C dX11_target_141 (by decide) ?_
                    obtain rfl := Option.some.inj hr
                    exact rr_iret (ty := .boolean) C dX11_target_142 rfl rfl ⟨rfl, rfl, rfl⟩
              · replace hr := (if_pos c109_).symm.trans hr
                refine rr_iconst (v := 0) C dX11_target_112 (by decide) ?_
                obtain rfl := Option.some.inj hr
                exact rr_iret (ty := .boolean) C dX11_target_113 rfl rfl ⟨rfl, rfl, rfl⟩
          · replace hr := (if_pos c77_).symm.trans hr
            refine rr_iconst (v := 0) C dX11_target_80 (by decide) ?_
            obtain rfl := Option.some.inj hr
            exact rr_iret (ty := .boolean) C dX11_target_81 rfl rfl ⟨rfl, rfl, rfl⟩
      · replace hr := (if_neg c54_).symm.trans hr
        refine rr_iconst (v := 1) C dX11_target_57 (by decide) ?_
        refine rr_goto (tgt := 62) C dX11_target_58 (by decide) ?_
        replace hr := Option.bind_eq_some_iff.mp hr
        obtain ⟨a115, e116, hr⟩ := hr
        subst e116
        replace hr := Option.bind_eq_some_iff.mp hr
        obtain ⟨h117, e118, hr⟩ := hr
        refine rr_stI C dX11_target_62 e118 ?_
        refine rr_aload_n (i := 0) C dX11_target_63 rfl rfl ?_
        replace hr := Option.bind_eq_some_iff.mp hr
        obtain ⟨v119, e120, hr⟩ := hr
        refine rr_rdR C dX11_target_64 fl_X11_87 e120 ?_
        refine rr_iload_n (i := 1) C dX11_target_67 rfl rfl ?_
        replace hr := Option.bind_eq_some_iff.mp hr
        obtain ⟨a121, e122, hr⟩ := hr
        subst e122
        replace hr := Option.bind_eq_some_iff.mp hr
        obtain ⟨v123, e124, hr⟩ := hr
        refine rr_ldI C dX11_target_68 e124 ?_
        refine rr_iconst (v := (-1)) C dX11_target_69 (by decide) ?_
        refine rr_icmp_eq (tgt := 80) C dX11_target_70 (by decide) (fun c70_ => ?_) (fun c70_ => ?_)
        · replace hr := (if_pos c70_).symm.trans hr
          refine rr_iconst (v := 0) C dX11_target_80 (by decide) ?_
          obtain rfl := Option.some.inj hr
          exact rr_iret (ty := .boolean) C dX11_target_81 rfl rfl ⟨rfl, rfl, rfl⟩
        · replace hr := (if_neg c70_).symm.trans hr
          refine rr_aload_n (i := 0) C dX11_target_73 rfl rfl ?_
          replace hr := Option.bind_eq_some_iff.mp hr
          obtain ⟨u125, e126, hr⟩ := hr
          replace hr := Option.bind_eq_some_iff.mp hr
          obtain ⟨v127, e128, hr⟩ := hr
          refine rr_callVq (as := []) (st := []) (mc' := 0) (ms' := 0) C dX11_target_74 iv_X11_288 (by decide) e126 rfl (Nat.le_of_ble_eq_true rfl) (c_X11_takesPlain l0 (by omega) e128) (fun v_ h_ n_ q_ => ?_)
          obtain ⟨q1_, q2_, q3_⟩ := q_
          subst v_; subst h_; subst n_
          show WW W0 G 2 _ _ _ 77 [some (.ref l0), some (.int l1)] [.int v127.1] v127.2 n _ _
          refine rr_if_ne (tgt := 82) C dX11_target_77 (by decide) (fun c77_ => ?_) (fun c77_ => ?_)
          · replace hr := (if_neg c77_).symm.trans hr
            refine rr_aload_n (i := 0) C dX11_target_82 rfl rfl ?_
            replace hr := Option.bind_eq_some_iff.mp hr
            obtain ⟨v129, e130, hr⟩ := hr
            refine rr_rdR C dX11_target_83 fl_X11_90 e130 ?_
            refine rr_iload_n (i := 1) C dX11_target_86 rfl rfl ?_
            refine rr_aload_n (i := 0) C dX11_target_87 rfl rfl ?_
            replace hr := Option.bind_eq_some_iff.mp hr
            obtain ⟨v131, e132, hr⟩ := hr
            refine rr_rdI C dX11_target_88 fl_X11_237 e132 ?_
            replace hr := Option.bind_eq_some_iff.mp hr
            obtain ⟨a133, e134, hr⟩ := hr
            subst e134
            replace hr := Option.bind_eq_some_iff.mp hr
            obtain ⟨h135, e136, hr⟩ := hr
            refine rr_stI C dX11_target_91 e136 ?_
            refine rr_aload_n (i := 0) C dX11_target_92 rfl rfl ?_
            refine rr_ldc2 C dX11_target_93 ct_X11_315 ?_
            replace hr := Option.bind_eq_some_iff.mp hr
            obtain ⟨u137, e138, hr⟩ := hr
            replace hr := Option.bind_eq_some_iff.mp hr
            obtain ⟨v139, e140, hr⟩ := hr
            refine rr_callVq (as := [.long 1937007984]) (st := []) (mc' := 0) (ms' := 0) C dX11_target_96 iv_X11_254 (by decide) e138 rfl (Nat.le_of_ble_eq_true rfl) (c_X11_takes l0 1937007984 (by omega) e140) (fun v_ h_ n_ q_ => ?_)
            obtain ⟨q1_, q2_, q3_⟩ := q_
            subst v_; subst h_; subst n_
            show WW W0 G 2 _ _ _ 99 [some (.ref l0), some (.int l1)] [.int v139.1] v139.2 n _ _
            refine rr_if_eq (tgt := 112) C dX11_target_99 (by decide) (fun c99_ => ?_) (fun c99_ => ?_)
            · replace hr := (if_pos c99_).symm.trans hr
              refine rr_iconst (v := 0) C dX11_target_112 (by decide) ?_
              obtain rfl := Option.some.inj hr
              exact rr_iret (ty := .boolean) C dX11_target_113 rfl rfl ⟨rfl, rfl, rfl⟩
            · replace hr := (if_neg c99_).symm.trans hr
              refine rr_aload_n (i := 0) C dX11_target_102 rfl rfl ?_
              refine rr_iconst (v := 1) C dX11_target_103 (by decide) ?_
              refine rr_ldc C dX11_target_104 ct_X11_176 ?_
              replace hr := Option.bind_eq_some_iff.mp hr
              obtain ⟨u141, e142, hr⟩ := hr
              replace hr := Option.bind_eq_some_iff.mp hr
              obtain ⟨v143, e144, hr⟩ := hr
              refine rr_callVq (as := [.int 1, .int 99999]) (st := []) (mc' := 0) (ms' := 0) C dX11_target_106 iv_X11_240 (by decide) e142 rfl (Nat.le_of_ble_eq_true rfl) (c_X11_takesNumber l0 1 99999 (by omega) e144) (fun v_ h_ n_ q_ => ?_)
              obtain ⟨q1_, q2_, q3_⟩ := q_
              subst v_; subst h_; subst n_
              show WW W0 G 2 _ _ _ 109 [some (.ref l0), some (.int l1)] [.int v143.1] v143.2 n _ _
              refine rr_if_ne (tgt := 114) C dX11_target_109 (by decide) (fun c109_ => ?_) (fun c109_ => ?_)
              · replace hr := (if_neg c109_).symm.trans hr
                refine rr_aload_n (i := 0) C dX11_target_114 rfl rfl ?_
                replace hr := Option.bind_eq_some_iff.mp hr
                obtain ⟨v145, e146, hr⟩ := hr
                refine rr_rdR C dX11_target_115 fl_X11_93 e146 ?_
                refine rr_iload_n (i := 1) C dX11_target_118 rfl rfl ?_
                refine rr_aload_n (i := 0) C dX11_target_119 rfl rfl ?_
                replace hr := Option.bind_eq_some_iff.mp hr
                obtain ⟨v147, e148, hr⟩ := hr
                refine rr_rdI C dX11_target_120 fl_X11_237 e148 ?_
                replace hr := Option.bind_eq_some_iff.mp hr
                obtain ⟨a149, e150, hr⟩ := hr
                subst e150
                replace hr := Option.bind_eq_some_iff.mp hr
                obtain ⟨h151, e152, hr⟩ := hr
                refine rr_stI C dX11_target_123 e152 ?_
                refine rr_aload_n (i := 0) C dX11_target_124 rfl rfl ?_
                refine rr_ldc2 C dX11_target_125 ct_X11_317 ?_
                replace hr := Option.bind_eq_some_iff.mp hr
                obtain ⟨u153, e154, hr⟩ := hr
                replace hr := Option.bind_eq_some_iff.mp hr
                obtain ⟨v155, e156, hr⟩ := hr
                refine rr_callVq (as := [.long 1668245870]) (st := []) (mc' := 0) (ms' := 0) C dX11_target_128 iv_X11_254 (by decide) e154 rfl (Nat.le_of_ble_eq_true rfl) (c_X11_takes l0 1668245870 (by omega) e156) (fun v_ h_ n_ q_ => ?_)
                obtain ⟨q1_, q2_, q3_⟩ := q_
                subst v_; subst h_; subst n_
                show WW W0 G 2 _ _ _ 131 [some (.ref l0), some (.int l1)] [.int v155.1] v155.2 n _ _
                refine rr_if_eq (tgt := 141) C dX11_target_131 (by decide) (fun c131_ => ?_) (fun c131_ => ?_)
                · replace hr := (if_pos c131_).symm.trans hr
                  refine rr_iconst (v := 0) C dX11_target_141 (by decide) ?_
                  obtain rfl := Option.some.inj hr
                  exact rr_iret (ty := .boolean) C dX11_target_142 rfl rfl ⟨rfl, rfl, rfl⟩
                · replace hr := (if_neg c131_).symm.trans hr
                  refine rr_aload_n (i := 0) C dX11_target_134 rfl rfl ?_
                  replace hr := Option.bind_eq_some_iff.mp hr
                  obtain ⟨u157, e158, hr⟩ := hr
                  replace hr := Option.bind_eq_some_iff.mp hr
                  obtain ⟨v159, e160, hr⟩ := hr
                  refine rr_callVq (as := []) (st := []) (mc' := 0) (ms' := 0) C dX11_target_135 iv_X11_288 (by decide) e158 rfl (Nat.le_of_ble_eq_true rfl) (c_X11_takesPlain l0 (by omega) e160) (fun v_ h_ n_ q_ => ?_)
                  obtain ⟨q1_, q2_, q3_⟩ := q_
                  subst v_; subst h_; subst n_
                  show WW W0 G 2 _ _ _ 138 [some (.ref l0), some (.int l1)] [.int v159.1] v159.2 n _ _
                  refine rr_if_ne (tgt := 143) C dX11_target_138 (by decide) (fun c138_ => ?_) (fun c138_ => ?_)
                  · replace hr := (if_neg c138_).symm.trans hr
                    refine rr_aload_n (i := 0) C dX11_target_143 rfl rfl ?_
                    replace hr := Option.bind_eq_some_iff.mp hr
                    obtain ⟨v161, e162, hr⟩ := hr
                    refine rr_rdR C dX11_target_144 fl_X11_96 e162 ?_
                    refine rr_iload_n (i := 1) C dX11_target_147 rfl rfl ?_
                    refine rr_aload_n (i := 0) C dX11_target_148 rfl rfl ?_
                    replace hr := Option.bind_eq_some_iff.mp hr
                    obtain ⟨v163, e164, hr⟩ := hr
                    refine rr_rdI C dX11_target_149 fl_X11_237 e164 ?_
                    replace hr := Option.bind_eq_some_iff.mp hr
                    obtain ⟨a165, e166, hr⟩ := hr
                    subst e166
                    replace hr := Option.bind_eq_some_iff.mp hr
                    obtain ⟨h167, e168, hr⟩ := hr
                    refine rr_stI C dX11_target_152 e168 ?_
                    refine rr_aload_n (i := 0) C dX11_target_153 rfl rfl ?_
                    refine rr_ldc2 C dX11_target_154 ct_X11_319 ?_
                    replace hr := Option.bind_eq_some_iff.mp hr
                    obtain ⟨u169, e170, hr⟩ := hr
                    replace hr := Option.bind_eq_some_iff.mp hr
                    obtain ⟨v171, e172, hr⟩ := hr
                    refine rr_callVq (as := [.long 1684365668]) (st := []) (mc' := 0) (ms' := 0) C dX11_target_157 iv_X11_254 (by decide) e170 rfl (Nat.le_of_ble_eq_true rfl) (c_X11_takes l0 1684365668 (by omega) e172) (fun v_ h_ n_ q_ => ?_)
                    obtain ⟨q1_, q2_, q3_⟩ := q_
                    subst v_; subst h_; subst n_
                    show WW W0 G 2 _ _ _ 160 [some (.ref l0), some (.int l1)] [.int v171.1] v171.2 n _ _
                    refine rr_if_eq (tgt := 170) C dX11_target_160 (by decide) (fun c160_ => ?_) (fun c160_ => ?_)
                    · replace hr := (if_pos c160_).symm.trans hr
                      refine rr_iconst (v := 0) C dX11_target_170 (by decide) ?_
                      obtain rfl := Option.some.inj hr
                      exact rr_iret (ty := .boolean) C dX11_target_171 rfl rfl ⟨rfl, rfl, rfl⟩
                    · replace hr := (if_neg c160_).symm.trans hr
                      refine rr_aload_n (i := 0) C dX11_target_163 rfl rfl ?_
                      replace hr := Option.bind_eq_some_iff.mp hr
                      obtain ⟨u173, e174, hr⟩ := hr
                      replace hr := Option.bind_eq_some_iff.mp hr
                      obtain ⟨v175, e176, hr⟩ := hr
                      refine rr_callVq (as := []) (st := []) (mc' := 0) (ms' := 0) C dX11_target_164 iv_X11_288 (by decide) e174 rfl (Nat.le_of_ble_eq_true rfl) (c_X11_takesPlain l0 (by omega) e176) (fun v_ h_ n_ q_ => ?_)
                      obtain ⟨q1_, q2_, q3_⟩ := q_
                      subst v_; subst h_; subst n_
                      show WW W0 G 2 _ _ _ 167 [some (.ref l0), some (.int l1)] [.int v175.1] v175.2 n _ _
                      refine rr_if_ne (tgt := 172) C dX11_target_167 (by decide) (fun c167_ => ?_) (fun c167_ => ?_)
                      · replace hr := (if_neg c167_).symm.trans hr
                        refine rr_aload_n (i := 0) C dX11_target_172 rfl rfl ?_
                        replace hr := Option.bind_eq_some_iff.mp hr
                        obtain ⟨v177, e178, hr⟩ := hr
                        refine rr_rdR C dX11_target_173 fl_X11_99 e178 ?_
                        refine rr_iload_n (i := 1) C dX11_target_176 rfl rfl ?_
                        refine rr_aload_n (i := 0) C dX11_target_177 rfl rfl ?_
                        replace hr := Option.bind_eq_some_iff.mp hr
                        obtain ⟨v179, e180, hr⟩ := hr
                        refine rr_rdI C dX11_target_178 fl_X11_237 e180 ?_
                        replace hr := Option.bind_eq_some_iff.mp hr
                        obtain ⟨a181, e182, hr⟩ := hr
                        subst e182
                        replace hr := Option.bind_eq_some_iff.mp hr
                        obtain ⟨h183, e184, hr⟩ := hr
                        refine rr_stI C dX11_target_181 e184 ?_
                        refine rr_aload_n (i := 0) C dX11_target_182 rfl rfl ?_
                        refine rr_ldc2 C dX11_target_183 ct_X11_321 ?_
                        replace hr := Option.bind_eq_some_iff.mp hr
                        obtain ⟨u185, e186, hr⟩ := hr
                        replace hr := Option.bind_eq_some_iff.mp hr
                        obtain ⟨v187, e188, hr⟩ := hr
                        refine rr_callVq (as := [.long 6513008]) (st := []) (mc' := 0) (ms' := 0) C dX11_target_186 iv_X11_254 (by decide) e186 rfl (Nat.le_of_ble_eq_true rfl) (c_X11_takes l0 6513008 (by omega) e188) (fun v_ h_ n_ q_ => ?_)
                        obtain ⟨q1_, q2_, q3_⟩ := q_
                        subst v_; subst h_; subst n_
                        show WW W0 G 2 _ _ _ 189 [some (.ref l0), some (.int l1)] [.int v187.1] v187.2 n _ _
                        refine rr_if_eq (tgt := 199) C dX11_target_189 (by decide) (fun c189_ => ?_) (fun c189_ => ?_)
                        · replace hr := (if_pos c189_).symm.trans hr
                          refine rr_iconst (v := 0) C dX11_target_199 (by decide) ?_
                          obtain rfl := Option.some.inj hr
                          exact rr_iret (ty := .boolean) C dX11_target_200 rfl rfl ⟨rfl, rfl, rfl⟩
                        · replace hr := (if_neg c189_).symm.trans hr
                          refine rr_aload_n (i := 0) C dX11_target_192 rfl rfl ?_
                          replace hr := Option.bind_eq_some_iff.mp hr
                          obtain ⟨u189, e190, hr⟩ := hr
                          replace hr := Option.bind_eq_some_iff.mp hr
                          obtain ⟨v191, e192, hr⟩ := hr
                          refine rr_callVq (as := []) (st := []) (mc' := 0) (ms' := 0) C dX11_target_193 iv_X11_288 (by decide) e190 rfl (Nat.le_of_ble_eq_true rfl) (c_X11_takesPlain l0 (by omega) e192) (fun v_ h_ n_ q_ => ?_)
                          obtain ⟨q1_, q2_, q3_⟩ := q_
                          subst v_; subst h_; subst n_
                          show WW W0 G 2 _ _ _ 196 [some (.ref l0), some (.int l1)] [.int v191.1] v191.2 n _ _
                          refine rr_if_ne (tgt := 201) C dX11_target_196 (by decide) (fun c196_ => ?_) (fun c196_ => ?_)
                          · replace hr := (if_neg c196_).symm.trans hr
                            refine rr_aload_n (i := 0) C dX11_target_201 rfl rfl ?_
                            replace hr := Option.bind_eq_some_iff.mp hr
                            obtain ⟨v193, e194, hr⟩ := hr
                            refine rr_rdR C dX11_target_202 fl_X11_102 e194 ?_
                            refine rr_iload_n (i := 1) C dX11_target_205 rfl rfl ?_
                            refine rr_aload_n (i := 0) C dX11_target_206 rfl rfl ?_
                            replace hr := Option.bind_eq_some_iff.mp hr
                            obtain ⟨v195, e196, hr⟩ := hr
                            refine rr_rdI C dX11_target_207 fl_X11_237 e196 ?_
                            replace hr := Option.bind_eq_some_iff.mp hr
                            obtain ⟨a197, e198, hr⟩ := hr
                            subst e198
                            replace hr := Option.bind_eq_some_iff.mp hr
                            obtain ⟨h199, e200, hr⟩ := hr
                            refine rr_stI C dX11_target_210 e200 ?_
                            refine rr_iconst (v := 1) C dX11_target_211 (by decide) ?_
                            obtain rfl := Option.some.inj hr
                            exact rr_iret (ty := .boolean) C dX11_target_212 rfl rfl ⟨rfl, rfl, rfl⟩
                          · replace hr := (if_pos c196_).symm.trans hr
                            refine rr_iconst (v := 0) C dX11_target_199 (by decide) ?_
                            obtain rfl := Option.some.inj hr
                            exact rr_iret (ty := .boolean) C dX11_target_200 rfl rfl ⟨rfl, rfl, rfl⟩
                      · replace hr := (if_pos c167_).symm.trans hr
                        refine rr_iconst (v := 0) C dX11_target_170 (by decide) ?_
                        obtain rfl := Option.some.inj hr
                        exact rr_iret (ty := .boolean) C dX11_target_171 rfl rfl ⟨rfl, rfl, rfl⟩
                  · replace hr := (if_pos c138_).symm.trans hr
                    refine rr_iconst (v := 0) C dX11_target_141 (by decide) ?_
                    obtain rfl := Option.some.inj hr
                    exact rr_iret (ty := .boolean) C dX11_target_142 rfl rfl ⟨rfl, rfl, rfl⟩
              · replace hr := (if_pos c109_).symm.trans hr
                refine rr_iconst (v := 0) C dX11_target_112 (by decide) ?_
                obtain rfl := Option.some.inj hr
                exact rr_iret (ty := .boolean) C dX11_target_113 rfl rfl ⟨rfl, rfl, rfl⟩
          · replace hr := (if_pos c77_).symm.trans hr
            refine rr_iconst (v := 0) C dX11_target_80 (by decide) ?_
            obtain rfl := Option.some.inj hr
            exact rr_iret (ty := .boolean) C dX11_target_81 rfl rfl ⟨rfl, rfl, rfl⟩
    · replace hr := (if_neg c40_).symm.trans hr
      refine rr_iconst (v := 0) C dX11_target_43 (by decide) ?_
      refine rr_goto (tgt := 62) C dX11_target_44 (by decide) ?_
      replace hr := Option.bind_eq_some_iff.mp hr
      obtain ⟨a201, e202, hr⟩ := hr
      subst e202
      replace hr := Option.bind_eq_some_iff.mp hr
      obtain ⟨h203, e204, hr⟩ := hr
      refine rr_stI C dX11_target_62 e204 ?_
      refine rr_aload_n (i := 0) C dX11_target_63 rfl rfl ?_
      replace hr := Option.bind_eq_some_iff.mp hr
      obtain ⟨v205, e206, hr⟩ := hr
      refine rr_rdR C dX11_target_64 fl_X11_87 e206 ?_
      refine rr_iload_n (i := 1) C dX11_target_67 rfl rfl ?_
      replace hr := Option.bind_eq_some_iff.mp hr
      obtain ⟨a207, e208, hr⟩ := hr
      subst e208
      replace hr := Option.bind_eq_some_iff.mp hr
      obtain ⟨v209, e210, hr⟩ := hr
      refine rr_ldI C dX11_target_68 e210 ?_
      refine rr_iconst (v := (-1)) C dX11_target_69 (by decide) ?_
      refine rr_icmp_eq (tgt := 80) C dX11_target_70 (by decide) (fun c70_ => ?_) (fun c70_ => ?_)
      · replace hr := (if_pos c70_).symm.trans hr
        refine rr_iconst (v := 0) C dX11_target_80 (by decide) ?_
        obtain rfl := Option.some.inj hr
        exact rr_iret (ty := .boolean) C dX11_target_81 rfl rfl ⟨rfl, rfl, rfl⟩
      · replace hr := (if_neg c70_).symm.trans hr
        refine rr_aload_n (i := 0) C dX11_target_73 rfl rfl ?_
        replace hr := Option.bind_eq_some_iff.mp hr
        obtain ⟨u211, e212, hr⟩ := hr
        replace hr := Option.bind_eq_some_iff.mp hr
        obtain ⟨v213, e214, hr⟩ := hr
        refine rr_callVq (as := []) (st := []) (mc' := 0) (ms' := 0) C dX11_target_74 iv_X11_288 (by decide) e212 rfl (Nat.le_of_ble_eq_true rfl) (c_X11_takesPlain l0 (by omega) e214) (fun v_ h_ n_ q_ => ?_)
        obtain ⟨q1_, q2_, q3_⟩ := q_
        subst v_; subst h_; subst n_
        show WW W0 G 2 _ _ _ 77 [some (.ref l0), some (.int l1)] [.int v213.1] v213.2 n _ _
        refine rr_if_ne (tgt := 82) C dX11_target_77 (by decide) (fun c77_ => ?_) (fun c77_ => ?_)
        · replace hr := (if_neg c77_).symm.trans hr
          refine rr_aload_n (i := 0) C dX11_target_82 rfl rfl ?_
          replace hr := Option.bind_eq_some_iff.mp hr
          obtain ⟨v215, e216, hr⟩ := hr
          refine rr_rdR C dX11_target_83 fl_X11_90 e216 ?_
          refine rr_iload_n (i := 1) C dX11_target_86 rfl rfl ?_
          refine rr_aload_n (i := 0) C dX11_target_87 rfl rfl ?_
          replace hr := Option.bind_eq_some_iff.mp hr
          obtain ⟨v217, e218, hr⟩ := hr
          refine rr_rdI C dX11_target_88 fl_X11_237 e218 ?_
          replace hr := Option.bind_eq_some_iff.mp hr
          obtain ⟨a219, e220, hr⟩ := hr
          subst e220
          replace hr := Option.bind_eq_some_iff.mp hr
          obtain ⟨h221, e222, hr⟩ := hr
          refine rr_stI C dX11_target_91 e222 ?_
          refine rr_aload_n (i := 0) C dX11_target_92 rfl rfl ?_
          refine rr_ldc2 C dX11_target_93 ct_X11_315 ?_
          replace hr := Option.bind_eq_some_iff.mp hr
          obtain ⟨u223, e224, hr⟩ := hr
          replace hr := Option.bind_eq_some_iff.mp hr
          obtain ⟨v225, e226, hr⟩ := hr
          refine rr_callVq (as := [.long 1937007984]) (st := []) (mc' := 0) (ms' := 0) C dX11_target_96 iv_X11_254 (by decide) e224 rfl (Nat.le_of_ble_eq_true rfl) (c_X11_takes l0 1937007984 (by omega) e226) (fun v_ h_ n_ q_ => ?_)
          obtain ⟨q1_, q2_, q3_⟩ := q_
          subst v_; subst h_; subst n_
          show WW W0 G 2 _ _ _ 99 [some (.ref l0), some (.int l1)] [.int v225.1] v225.2 n _ _
          refine rr_if_eq (tgt := 112) C dX11_target_99 (by decide) (fun c99_ => ?_) (fun c99_ => ?_)
          · replace hr := (if_pos c99_).symm.trans hr
            refine rr_iconst (v := 0) C dX11_target_112 (by decide) ?_
            obtain rfl := Option.some.inj hr
            exact rr_iret (ty := .boolean) C dX11_target_113 rfl rfl ⟨rfl, rfl, rfl⟩
          · replace hr := (if_neg c99_).symm.trans hr
            refine rr_aload_n (i := 0) C dX11_target_102 rfl rfl ?_
            refine rr_iconst (v := 1) C dX11_target_103 (by decide) ?_
            refine rr_ldc C dX11_target_104 ct_X11_176 ?_
            replace hr := Option.bind_eq_some_iff.mp hr
            obtain ⟨u227, e228, hr⟩ := hr
            replace hr := Option.bind_eq_some_iff.mp hr
            obtain ⟨v229, e230, hr⟩ := hr
            refine rr_callVq (as := [.int 1, .int 99999]) (st := []) (mc' := 0) (ms' := 0) C dX11_target_106 iv_X11_240 (by decide) e228 rfl (Nat.le_of_ble_eq_true rfl) (c_X11_takesNumber l0 1 99999 (by omega) e230) (fun v_ h_ n_ q_ => ?_)
            obtain ⟨q1_, q2_, q3_⟩ := q_
            subst v_; subst h_; subst n_
            show WW W0 G 2 _ _ _ 109 [some (.ref l0), some (.int l1)] [.int v229.1] v229.2 n _ _
            refine rr_if_ne (tgt := 114) C dX11_target_109 (by decide) (fun c109_ => ?_) (fun c109_ => ?_)
            · replace hr := (if_neg c109_).symm.trans hr
              refine rr_aload_n (i := 0) C dX11_target_114 rfl rfl ?_
              replace hr := Option.bind_eq_some_iff.mp hr
              obtain ⟨v231, e232, hr⟩ := hr
              refine rr_rdR C dX11_target_115 fl_X11_93 e232 ?_
              refine rr_iload_n (i := 1) C dX11_target_118 rfl rfl ?_
              refine rr_aload_n (i := 0) C dX11_target_119 rfl rfl ?_
              replace hr := Option.bind_eq_some_iff.mp hr
              obtain ⟨v233, e234, hr⟩ := hr
              refine rr_rdI C dX11_target_120 fl_X11_237 e234 ?_
              replace hr := Option.bind_eq_some_iff.mp hr
              obtain ⟨a235, e236, hr⟩ := hr
              subst e236
              replace hr := Option.bind_eq_some_iff.mp hr
              obtain ⟨h237, e238, hr⟩ := hr
              refine rr_stI C dX11_target_123 e238 ?_
              refine rr_aload_n (i := 0) C dX11_target_124 rfl rfl ?_
              refine rr_ldc2 C dX11_target_125 ct_X11_317 ?_
              replace hr := Option.bind_eq_some_iff.mp hr
              obtain ⟨u239, e240, hr⟩ := hr
              replace hr := Option.bind_eq_some_iff.mp hr
              obtain ⟨v241, e242, hr⟩ := hr
              refine rr_callVq (as := [.long 1668245870]) (st := []) (mc' := 0) (ms' := 0) C dX11_target_128 iv_X11_254 (by decide) e240 rfl (Nat.le_of_ble_eq_true rfl) (c_X11_takes l0 1668245870 (by omega) e242) (fun v_ h_ n_ q_ => ?_)
              obtain ⟨q1_, q2_, q3_⟩ := q_
              subst v_; subst h_; subst n_
              show WW W0 G 2 _ _ _ 131 [some (.ref l0), some (.int l1)] [.int v241.1] v241.2 n _ _
              refine rr_if_eq (tgt := 141) C dX11_target_131 (by decide) (fun c131_ => ?_) (fun c131_ => ?_)
              · replace hr := (if_pos c131_).symm.trans hr
                refine rr_iconst (v := 0) C dX11_target_141 (by decide) ?_
                obtain rfl := Option.some.inj hr
                exact rr_iret (ty := .boolean) C dX11_target_142 rfl rfl ⟨rfl, rfl, rfl⟩
              · replace hr := (if_neg c131_).symm.trans hr
                refine rr_aload_n (i := 0) C dX11_target_134 rfl rfl ?_
                replace hr := Option.bind_eq_some_iff.mp hr
                obtain ⟨u243, e244, hr⟩ := hr
                replace hr := Option.bind_eq_some_iff.mp hr
                obtain ⟨v245, e246, hr⟩ := hr
                refine rr_callVq (as := []) (st := []) (mc' := 0) (ms' := 0) C dX11_target_135 iv_X11_288 (by decide) e244 rfl (Nat.le_of_ble_eq_true rfl) (c_X11_takesPlain l0 (by omega) e246) (fun v_ h_ n_ q_ => ?_)
                obtain ⟨q1_, q2_, q3_⟩ := q_
                subst v_; subst h_; subst n_
                show WW W0 G 2 _ _ _ 138 [some (.ref l0), some (.int l1)] [.int v245.1] v245.2 n _ _
                refine rr_if_ne (tgt := 143) C dX11_target_138 (by decide) (fun c138_ => ?_) (fun c138_ => ?_)
                · replace hr := (if_neg c138_).symm.trans hr
                  refine rr_aload_n (i := 0) C dX11_target_143 rfl rfl ?_
                  replace hr := Option.bind_eq_some_iff.mp hr
                  obtain ⟨v247, e248, hr⟩ := hr
                  refine rr_rdR C dX11_target_144 fl_X11_96 e248 ?_
                  refine rr_iload_n (i := 1) C dX11_target_147 rfl rfl ?_
                  refine rr_aload_n (i := 0) C dX11_target_148 rfl rfl ?_
                  replace hr := Option.bind_eq_some_iff.mp hr
                  obtain ⟨v249, e250, hr⟩ := hr
                  refine rr_rdI C dX11_target_149 fl_X11_237 e250 ?_
                  replace hr := Option.bind_eq_some_iff.mp hr
                  obtain ⟨a251, e252, hr⟩ := hr
                  subst e252
                  replace hr := Option.bind_eq_some_iff.mp hr
                  obtain ⟨h253, e254, hr⟩ := hr
                  refine rr_stI C dX11_target_152 e254 ?_
                  refine rr_aload_n (i := 0) C dX11_target_153 rfl rfl ?_
                  refine rr_ldc2 C dX11_target_154 ct_X11_319 ?_
                  replace hr := Option.bind_eq_some_iff.mp hr
                  obtain ⟨u255, e256, hr⟩ := hr
                  replace hr := Option.bind_eq_some_iff.mp hr
                  obtain ⟨v257, e258, hr⟩ := hr
                  refine rr_callVq (as := [.long 1684365668]) (st := []) (mc' := 0) (ms' := 0) C dX11_target_157 iv_X11_254 (by decide) e256 rfl (Nat.le_of_ble_eq_true rfl) (c_X11_takes l0 1684365668 (by omega) e258) (fun v_ h_ n_ q_ => ?_)
                  obtain ⟨q1_, q2_, q3_⟩ := q_
                  subst v_; subst h_; subst n_
                  show WW W0 G 2 _ _ _ 160 [some (.ref l0), some (.int l1)] [.int v257.1] v257.2 n _ _
                  refine rr_if_eq (tgt := 170) C dX11_target_160 (by decide) (fun c160_ => ?_) (fun c160_ => ?_)
                  · replace hr := (if_pos c160_).symm.trans hr
                    refine rr_iconst (v := 0) C dX11_target_170 (by decide) ?_
                    obtain rfl := Option.some.inj hr
                    exact rr_iret (ty := .boolean) C dX11_target_171 rfl rfl ⟨rfl, rfl, rfl⟩
                  · replace hr := (if_neg c160_).symm.trans hr
                    refine rr_aload_n (i := 0) C dX11_target_163 rfl rfl ?_
                    replace hr := Option.bind_eq_some_iff.mp hr
                    obtain ⟨u259, e260, hr⟩ := hr
                    replace hr := Option.bind_eq_some_iff.mp hr
                    obtain ⟨v261, e262, hr⟩ := hr
                    refine rr_callVq (as := []) (st := []) (mc' := 0) (ms' := 0) C dX11_target_164 iv_X11_288 (by decide) e260 rfl (Nat.le_of_ble_eq_true rfl) (c_X11_takesPlain l0 (by omega) e262) (fun v_ h_ n_ q_ => ?_)
                    obtain ⟨q1_, q2_, q3_⟩ := q_
                    subst v_; subst h_; subst n_
                    show WW W0 G 2 _ _ _ 167 [some (.ref l0), some (.int l1)] [.int v261.1] v261.2 n _ _
                    refine rr_if_ne (tgt := 172) C dX11_target_167 (by decide) (fun c167_ => ?_) (fun c167_ => ?_)
                    · replace hr := (if_neg c167_).symm.trans hr
                      refine rr_aload_n (i := 0) C dX11_target_172 rfl rfl ?_
                      replace hr := Option.bind_eq_some_iff.mp hr
                      obtain ⟨v263, e264, hr⟩ := hr
                      refine rr_rdR C dX11_target_173 fl_X11_99 e264 ?_
                      refine rr_iload_n (i := 1) C dX11_target_176 rfl rfl ?_
                      refine rr_aload_n (i := 0) C dX11_target_177 rfl rfl ?_
                      replace hr := Option.bind_eq_some_iff.mp hr
                      obtain ⟨v265, e266, hr⟩ := hr
                      refine rr_rdI C dX11_target_178 fl_X11_237 e266 ?_
                      replace hr := Option.bind_eq_some_iff.mp hr
                      obtain ⟨a267, e268, hr⟩ := hr
                      subst e268
                      replace hr := Option.bind_eq_some_iff.mp hr
                      obtain ⟨h269, e270, hr⟩ := hr
                      refine rr_stI C dX11_target_181 e270 ?_
                      refine rr_aload_n (i := 0) C dX11_target_182 rfl rfl ?_
                      refine rr_ldc2 C dX11_target_183 ct_X11_321 ?_
                      replace hr := Option.bind_eq_some_iff.mp hr
                      obtain ⟨u271, e272, hr⟩ := hr
                      replace hr := Option.bind_eq_some_iff.mp hr
                      obtain ⟨v273, e274, hr⟩ := hr
                      refine rr_callVq (as := [.long 6513008]) (st := []) (mc' := 0) (ms' := 0) C dX11_target_186 iv_X11_254 (by decide) e272 rfl (Nat.le_of_ble_eq_true rfl) (c_X11_takes l0 6513008 (by omega) e274) (fun v_ h_ n_ q_ => ?_)
                      obtain ⟨q1_, q2_, q3_⟩ := q_
                      subst v_; subst h_; subst n_
                      show WW W0 G 2 _ _ _ 189 [some (.ref l0), some (.int l1)] [.int v273.1] v273.2 n _ _
                      refine rr_if_eq (tgt := 199) C dX11_target_189 (by decide) (fun c189_ => ?_) (fun c189_ => ?_)
                      · replace hr := (if_pos c189_).symm.trans hr
                        refine rr_iconst (v := 0) C dX11_target_199 (by decide) ?_
                        obtain rfl := Option.some.inj hr
                        exact rr_iret (ty := .boolean) C dX11_target_200 rfl rfl ⟨rfl, rfl, rfl⟩
                      · replace hr := (if_neg c189_).symm.trans hr
                        refine rr_aload_n (i := 0) C dX11_target_192 rfl rfl ?_
                        replace hr := Option.bind_eq_some_iff.mp hr
                        obtain ⟨u275, e276, hr⟩ := hr
                        replace hr := Option.bind_eq_some_iff.mp hr
                        obtain ⟨v277, e278, hr⟩ := hr
                        refine rr_callVq (as := []) (st := []) (mc' := 0) (ms' := 0) C dX11_target_193 iv_X11_288 (by decide) e276 rfl (Nat.le_of_ble_eq_true rfl) (c_X11_takesPlain l0 (by omega) e278) (fun v_ h_ n_ q_ => ?_)
                        obtain ⟨q1_, q2_, q3_⟩ := q_
                        subst v_; subst h_; subst n_
                        show WW W0 G 2 _ _ _ 196 [some (.ref l0), some (.int l1)] [.int v277.1] v277.2 n _ _
                        refine rr_if_ne (tgt := 201) C dX11_target_196 (by decide) (fun c196_ => ?_) (fun c196_ => ?_)
                        · replace hr := (if_neg c196_).symm.trans hr
                          refine rr_aload_n (i := 0) C dX11_target_201 rfl rfl ?_
                          replace hr := Option.bind_eq_some_iff.mp hr
                          obtain ⟨v279, e280, hr⟩ := hr
                          refine rr_rdR C dX11_target_202 fl_X11_102 e280 ?_
                          refine rr_iload_n (i := 1) C dX11_target_205 rfl rfl ?_
                          refine rr_aload_n (i := 0) C dX11_target_206 rfl rfl ?_
                          replace hr := Option.bind_eq_some_iff.mp hr
                          obtain ⟨v281, e282, hr⟩ := hr
                          refine rr_rdI C dX11_target_207 fl_X11_237 e282 ?_
                          replace hr := Option.bind_eq_some_iff.mp hr
                          obtain ⟨a283, e284, hr⟩ := hr
                          subst e284
                          replace hr := Option.bind_eq_some_iff.mp hr
                          obtain ⟨h285, e286, hr⟩ := hr
                          refine rr_stI C dX11_target_210 e286 ?_
                          refine rr_iconst (v := 1) C dX11_target_211 (by decide) ?_
                          obtain rfl := Option.some.inj hr
                          exact rr_iret (ty := .boolean) C dX11_target_212 rfl rfl ⟨rfl, rfl, rfl⟩
                        · replace hr := (if_pos c196_).symm.trans hr
                          refine rr_iconst (v := 0) C dX11_target_199 (by decide) ?_
                          obtain rfl := Option.some.inj hr
                          exact rr_iret (ty := .boolean) C dX11_target_200 rfl rfl ⟨rfl, rfl, rfl⟩
                    · replace hr := (if_pos c167_).symm.trans hr
                      refine rr_iconst (v := 0) C dX11_target_170 (by decide) ?_
                      obtain rfl := Option.some.inj hr
                      exact rr_iret (ty := .boolean) C dX11_target_171 rfl rfl ⟨rfl, rfl, rfl⟩
                · replace hr := (if_pos c138_).symm.trans hr
                  refine rr_iconst (v := 0) C dX11_target_141 (by decide) ?_
                  obtain rfl := Option.some.inj hr
                  exact rr_iret (ty := .boolean) C dX11_target_142 rfl rfl ⟨rfl, rfl, rfl⟩
            · replace hr := (if_pos c109_).symm.trans hr
              refine rr_iconst (v := 0) C dX11_target_112 (by decide) ?_
              obtain rfl := Option.some.inj hr
              exact rr_iret (ty := .boolean) C dX11_target_113 rfl rfl ⟨rfl, rfl, rfl⟩
        · replace hr := (if_pos c77_).symm.trans hr
          refine rr_iconst (v := 0) C dX11_target_80 (by decide) ?_
          obtain rfl := Option.some.inj hr
          exact rr_iret (ty := .boolean) C dX11_target_81 rfl rfl ⟨rfl, rfl, rfl⟩
  · replace hr := (if_pos c13_).symm.trans hr
    refine rr_iconst (v := 0) C dX11_target_16 (by decide) ?_
    obtain rfl := Option.some.inj hr
    exact rr_iret (ty := .boolean) C dX11_target_17 rfl rfl ⟨rfl, rfl, rfl⟩

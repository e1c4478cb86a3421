def lp_X11_homesBy_26 (K : Nat) (h : mm_H) (n : Nat) (l0 : Nat) (l1 : Int32) (l3 : Int32) (l4 : Int32) : Nat → Int32 → Int32 → Int32 → Option (Int32 × Int32)
  | 0, _, _, _ => none
  | k_ + 1, l5, l6, l7 =>
    if 14 ≤ l7 then
      some (l5, l6)
    else
    (ckq h n l0 10).bind fun u2 =>
    (q_X11_factBy K h n l0 l1 l4 l7 l3).bind fun v4 =>
    if l6 = 0 then
      if v4 = (-1) then
        lp_X11_homesBy_26 K h n l0 l1 l3 l4 k_ (l5 + (i_max 0 v4)) 0 (l7 + 1)
      else
      lp_X11_homesBy_26 K h n l0 l1 l3 l4 k_ (l5 + (i_max 0 v4)) 1 (l7 + 1)
    else
    lp_X11_homesBy_26 K h n l0 l1 l3 l4 k_ (l5 + (i_max 0 v4)) 1 (l7 + 1)
def lp_X11_homesBy_11 (K : Nat) (h : mm_H) (n : Nat) (l0 : Nat) (l1 : Int32) (l3 : Int32) : Nat → Int32 → Option (Nat × Int32)
  | 0, _ => none
  | k_ + 1, l4 =>
    if l4 < 0 then
      some (1, 0)
    else
    (lp_X11_homesBy_26 K h n l0 l1 l3 l4 K 0 0 11).bind fun v9 =>
    if v9.2 = 0 then
      lp_X11_homesBy_11 K h n l0 l1 l3 k_ (l4 + (-1))
    else
    some (0, v9.1)
def q_X11_homesBy (K : Nat) (h : mm_H) (n : Nat) (l0 : Nat) (l1 : Int32) (l2 : Int32) : Option (Int32) :=
  (lp_X11_homesBy_11 K h n l0 l1 (500 * (l2 / 5)) K l2).bind fun v11 =>
  if v11.1 = 0 then
    some v11.2
  else
  if v11.1 = 1 then
    some 0
  else
    none
set_option maxRecDepth 100000 in
set_option maxHeartbeats 4000000 in
theorem w_X11_homesBy_26 {K : Nat} {W0 : mm_X} {G : mm_G} {mc ms kc ks : Nat} {Q_ : State → Prop} {h : mm_H} {n : Nat} (C : mm_C W0 G cX11_homesBy yX11_homesBy.cls 9 mc ms (some .int) 2 yX11_homesBy.name) (hn : 48 ≤ n) (l0 : Nat) (l1 : Int32) (l3 : Int32) (l4 : Int32) : ∀ (k_ : Nat) (l5 : Int32) (l6 : Int32) (l7 : Int32) {r_ : Int32 × Int32} (hr : lp_X11_homesBy_26 K h n l0 l1 l3 l4 k_ l5 l6 l7 = some r_) (hx0 : WW W0 G 9 mc ms Q_ 80 [some (.ref l0), some (.int l1), none, some (.int l3), some (.int l4), some (.int r_.1), some (.int r_.2), none, none] [] h n kc ks), WW W0 G 9 mc ms Q_ 26 [some (.ref l0), some (.int l1), none, some (.int l3), some (.int l4), some (.int l5), some (.int l6), some (.int l7), none] [] h n kc ks := by
  intro k_
  induction k_ with
  | zero =>
    intro l5 l6 l7 r_ hr
    cases hr
  | succ k_ ih_ =>
    intro l5 l6 l7 r_ hr hx0
    unfold lp_X11_homesBy_26 at hr
    refine rr_iload C dX11_homesBy_26 rfl ?_
    refine rr_bipush (v := 14) C dX11_homesBy_28 (by decide) ?_
    refine rr_icmp_ge (tgt := 80) C dX11_homesBy_30 (by decide) (fun c30_ => ?_) (fun c30_ => ?_)
    · replace hr := (if_pos c30_).symm.trans hr
      obtain rfl := Option.some.inj hr
      exact rr_keep [true, true, false, true, true, true, true, false, false] (hx0)
    · replace hr := (if_neg c30_).symm.trans hr
      refine rr_aload_n (i := 0) C dX11_homesBy_33 rfl rfl ?_
      refine rr_iload_n (i := 1) C dX11_homesBy_34 rfl rfl ?_
      refine rr_iload C dX11_homesBy_35 rfl ?_
      refine rr_iload C dX11_homesBy_37 rfl ?_
      refine rr_iload_n (i := 3) C dX11_homesBy_39 rfl rfl ?_
      replace hr := Option.bind_eq_some_iff.mp hr
      obtain ⟨u2, e3, hr⟩ := hr
      replace hr := Option.bind_eq_some_iff.mp hr
      obtain ⟨v4, e5, hr⟩ := hr
      refine rr_callVq (as := [.int l1, .int l4, .int l7, .int l3]) (st := []) (mc' := 0) (ms' := 0) C dX11_homesBy_40 iv_X11_198 (by decide) e3 rfl (Nat.le_of_ble_eq_true rfl) (c_X11_factBy l0 l1 l4 l7 l3 (by omega) e5) (fun v_ h_ n_ q_ => ?_)
      obtain ⟨q1_, q2_, q3_⟩ := q_
      subst v_; subst h_; subst n_
      show WW W0 G 9 _ _ _ 43 [some (.ref l0), some (.int l1), none, some (.int l3), some (.int l4), some (.int l5), some (.int l6), some (.int l7), none] [.int v4] h n _ _
      refine rr_istore C dX11_homesBy_43 (by decide) ?_
      show WW W0 G 9 _ _ _ 45 [some (.ref l0), some (.int l1), none, some (.int l3), some (.int l4), some (.int l5), some (.int l6), some (.int l7), some (.int v4)] [] h n _ _
      refine rr_iload C dX11_homesBy_45 rfl ?_
      refine rr_if_ne (tgt := 56) C dX11_homesBy_47 (by decide) (fun c47_ => ?_) (fun c47_ => ?_)
      · replace hr := (if_neg c47_).symm.trans hr
        refine rr_iconst (v := 1) C dX11_homesBy_56 (by decide) ?_
        refine rr_goto (tgt := 61) C dX11_homesBy_57 (by decide) ?_
        refine rr_istore C dX11_homesBy_61 (by decide) ?_
        show WW W0 G 9 _ _ _ 63 [some (.ref l0), some (.int l1), none, some (.int l3), some (.int l4), some (.int l5), some (.int 1), some (.int l7), some (.int v4)] [] h n _ _
        refine rr_iload C dX11_homesBy_63 rfl ?_
        refine rr_iconst (v := 0) C dX11_homesBy_65 (by decide) ?_
        refine rr_iload C dX11_homesBy_66 rfl ?_
        refine rr_mmax C dX11_homesBy_68 ma_X11_406 (by decide) (Nat.le_of_ble_eq_true rfl) ?_
        refine rr_iadd C dX11_homesBy_71 ?_
        refine rr_istore C dX11_homesBy_72 (by decide) ?_
        show WW W0 G 9 _ _ _ 74 [some (.ref l0), some (.int l1), none, some (.int l3), some (.int l4), some (.int (l5 + (i_max 0 v4))), some (.int 1), some (.int l7), some (.int v4)] [] h n _ _
        refine rr_iinc (v := l7 + 1) C dX11_homesBy_74 rfl rfl ?_
        show WW W0 G 9 _ _ _ 77 [some (.ref l0), some (.int l1), none, some (.int l3), some (.int l4), some (.int (l5 + (i_max 0 v4))), some (.int 1), some (.int (l7 + 1)), some (.int v4)] [] h n _ _
        refine rr_goto (tgt := 26) C dX11_homesBy_77 (by decide) ?_
        exact rr_keep [true, true, false, true, true, true, true, true, false] (ih_ _ _ _ hr hx0)
      · replace hr := (if_pos c47_).symm.trans hr
        refine rr_iload C dX11_homesBy_50 rfl ?_
        refine rr_iconst (v := (-1)) C dX11_homesBy_52 (by decide) ?_
        refine rr_icmp_eq (tgt := 60) C dX11_homesBy_53 (by decide) (fun c53_ => ?_) (fun c53_ => ?_)
        · replace hr := (if_pos c53_).symm.trans hr
          refine rr_iconst (v := 0) C dX11_homesBy_60 (by decide) ?_
          refine rr_istore C dX11_homesBy_61 (by decide) ?_
          show WW W0 G 9 _ _ _ 63 [some (.ref l0), some (.int l1), none, some (.int l3), some (.int l4), some (.int l5), some (.int 0), some (.int l7), some (.int v4)] [] h n _ _
          refine rr_iload C dX11_homesBy_63 rfl ?_
          refine rr_iconst (v := 0) C dX11_homesBy_65 (by decide) ?_
          refine rr_iload C dX11_homesBy_66 rfl ?_
          refine rr_mmax C dX11_homesBy_68 ma_X11_406 (by decide) (Nat.le_of_ble_eq_true rfl) ?_
          refine rr_iadd C dX11_homesBy_71 ?_
          refine rr_istore C dX11_homesBy_72 (by decide) ?_
          show WW W0 G 9 _ _ _ 74 [some (.ref l0), some (.int l1), none, some (.int l3), some (.int l4), some (.int (l5 + (i_max 0 v4))), some (.int 0), some (.int l7), some (.int v4)] [] h n _ _
          refine rr_iinc (v := l7 + 1) C dX11_homesBy_74 rfl rfl ?_
          show WW W0 G 9 _ _ _ 77 [some (.ref l0), some (.int l1), none, some (.int l3), some (.int l4), some (.int (l5 + (i_max 0 v4))), some (.int 0), some (.int (l7 + 1)), some (.int v4)] [] h n _ _
          refine rr_goto (tgt := 26) C dX11_homesBy_77 (by decide) ?_
          exact rr_keep [true, true, false, true, true, true, true, true, false] (ih_ _ _ _ hr hx0)
        · replace hr := (if_neg c53_).symm.trans hr
          refine rr_iconst (v := 1) C dX11_homesBy_56 (by decide) ?_
          refine rr_goto (tgt := 61) C dX11_homesBy_57 (by decide) ?_
          refine rr_istore C dX11_homesBy_61 (by decide) ?_
          show WW W0 G 9 _ _ _ 63 [some (.ref l0), some (.int l1), none, some (.int l3), some (.int l4), some (.int l5), some (.int 1), some (.int l7), some (.int v4)] [] h n _ _
          refine rr_iload C dX11_homesBy_63 rfl ?_
          refine rr_iconst (v := 0) C dX11_homesBy_65 (by decide) ?_
          refine rr_iload C dX11_homesBy_66 rfl ?_
          refine rr_mmax C dX11_homesBy_68 ma_X11_406 (by decide) (Nat.le_of_ble_eq_true rfl) ?_
          refine rr_iadd C dX11_homesBy_71 ?_
          refine rr_istore C dX11_homesBy_72 (by decide) ?_
          show WW W0 G 9 _ _ _ 74 [some (.ref l0), some (.int l1), none, some (.int l3), some (.int l4), some (.int (l5 + (i_max 0 v4))), some (.int 1), some (.int l7), some (.int v4)] [] h n _ _
          refine rr_iinc (v := l7 + 1) C dX11_homesBy_74 rfl rfl ?_
          show WW W0 G 9 _ _ _ 77 [some (.ref l0), some (.int l1), none, some (.int l3), some (.int l4), some (.int (l5 + (i_max 0 v4))), some (.int 1), some (.int (l7 + 1)), some (.int v4)] [] h n _ _
          refine rr_goto (tgt := 26) C dX11_homesBy_77 (by decide) ?_
          exact rr_keep [true, true, false, true, true, true, true, true, false] (ih_ _ _ _ hr hx0)
set_option maxRecDepth 100000 in
set_option maxHeartbeats 4000000 in
theorem w_X11_homesBy_11 {K : Nat} {W0 : mm_X} {G : mm_G} {mc ms kc ks : Nat} {Q_ : State → Prop} {h : mm_H} {n : Nat} (C : mm_C W0 G cX11_homesBy yX11_homesBy.cls 9 mc ms (some .int) 2 yX11_homesBy.name) (hn : 48 ≤ n) (l0 : Nat) (l1 : Int32) (l3 : Int32) : ∀ (k_ : Nat) (l4 : Int32) {r_ : Nat × Int32} (hr : lp_X11_homesBy_11 K h n l0 l1 l3 k_ l4 = some r_) (hx0 : r_.1 = 0 → WW W0 G 9 mc ms Q_ 85 [none, none, none, none, none, some (.int r_.2), none, none, none] [] h n kc ks) (hx1 : r_.1 = 1 → WW W0 G 9 mc ms Q_ 94 [none, none, none, none, none, none, none, none, none] [] h n kc ks), WW W0 G 9 mc ms Q_ 11 [some (.ref l0), some (.int l1), none, some (.int l3), some (.int l4), none, none, none, none] [] h n kc ks := by
  intro k_
  induction k_ with
  | zero =>
    intro l4 r_ hr
    cases hr
  | succ k_ ih_ =>
    intro l4 r_ hr hx0 hx1
    unfold lp_X11_homesBy_11 at hr
    refine rr_iload C dX11_homesBy_11 rfl ?_
    refine rr_if_lt (tgt := 94) C dX11_homesBy_13 (by decide) (fun c13_ => ?_) (fun c13_ => ?_)
    · replace hr := (if_pos c13_).symm.trans hr
      obtain rfl := Option.some.inj hr
      exact rr_keep [false, false, false, false, false, false, false, false, false] (hx1 rfl)
    · replace hr := (if_neg c13_).symm.trans hr
      refine rr_iconst (v := 0) C dX11_homesBy_16 (by decide) ?_
      refine rr_istore C dX11_homesBy_17 (by decide) ?_
      show WW W0 G 9 _ _ _ 19 [some (.ref l0), some (.int l1), none, some (.int l3), some (.int l4), some (.int 0), none, none, none] [] h n _ _
      refine rr_iconst (v := 0) C dX11_homesBy_19 (by decide) ?_
      refine rr_istore C dX11_homesBy_20 (by decide) ?_
      show WW W0 G 9 _ _ _ 22 [some (.ref l0), some (.int l1), none, some (.int l3), some (.int l4), some (.int 0), some (.int 0), none, none] [] h n _ _
      refine rr_bipush (v := 11) C dX11_homesBy_22 (by decide) ?_
      refine rr_istore C dX11_homesBy_24 (by decide) ?_
      show WW W0 G 9 _ _ _ 26 [some (.ref l0), some (.int l1), none, some (.int l3), some (.int l4), some (.int 0), some (.int 0), some (.int 11), none] [] h n _ _
      replace hr := Option.bind_eq_some_iff.mp hr
      obtain ⟨v9, e10, hr⟩ := hr
      refine rr_keep [true, true, false, true, true, true, true, true, false] (w_X11_homesBy_26 C (by omega) l0 l1 l3 l4 K 0 0 11 e10 ?_)
      show WW W0 G 9 _ _ _ 80 [some (.ref l0), some (.int l1), none, some (.int l3), some (.int l4), some (.int v9.1), some (.int v9.2), none, none] [] h n _ _
      refine rr_iload C dX11_homesBy_80 rfl ?_
      refine rr_if_eq (tgt := 88) C dX11_homesBy_82 (by decide) (fun c82_ => ?_) (fun c82_ => ?_)
      · replace hr := (if_pos c82_).symm.trans hr
        refine rr_iinc (v := l4 + (-1)) C dX11_homesBy_88 rfl rfl ?_
        show WW W0 G 9 _ _ _ 91 [some (.ref l0), some (.int l1), none, some (.int l3), some (.int (l4 + (-1))), some (.int v9.1), some (.int v9.2), none, none] [] h n _ _
        refine rr_goto (tgt := 11) C dX11_homesBy_91 (by decide) ?_
        exact rr_keep [true, true, false, true, true, false, false, false, false] (ih_ _ hr hx0 hx1)
      · replace hr := (if_neg c82_).symm.trans hr
        obtain rfl := Option.some.inj hr
        exact rr_keep [false, false, false, false, false, true, false, false, false] (hx0 rfl)
set_option maxRecDepth 100000 in
set_option maxHeartbeats 4000000 in
theorem c_X11_homesBy {K : Nat} {G : mm_G} {l : Launch} {h : mm_H} {n : Nat} (l0 : Nat) (l1 : Int32) (l2 : Int32) {r_ : Int32} (hn : 48 ≤ n) (hr : q_X11_homesBy K h n l0 l1 l2 = some r_) : Sp G l yX11_homesBy cX11_homesBy 9 (some .int) 2 0 0 [.ref l0, .int l1, .int l2] h n (fun v h' n' => v = some (.int r_) ∧ h' = h ∧ n' = n) := by
  refine Sp_of (by decide +kernel) (Nat.le_of_ble_eq_true rfl) hn ?_
  intro W0 hwl C
  subst hwl
  unfold q_X11_homesBy at hr
  show WW W0 G 9 0 0 _ 0 [some (.ref l0), some (.int l1), some (.int l2), none, none, none, none, none, none] [] h n 0 0
  refine rr_sipush (v := 500) C dX11_homesBy_0 (by decide) ?_
  refine rr_iload_n (i := 2) C dX11_homesBy_3 rfl rfl ?_
  refine rr_iconst (v := 5) C dX11_homesBy_4 (by decide) ?_
  refine rr_idiv C dX11_homesBy_5 (by decide) ?_
  refine rr_imul C dX11_homesBy_6 ?_
  refine rr_istore_n (i := 3) C dX11_homesBy_7 rfl (by decide) ?_
  show WW W0 G 9 _ _ _ 8 [some (.ref l0), some (.int l1), some (.int l2), some (.int (500 * (l2 / 5))), none, none, none, none, none] [] h n _ _
  refine rr_iload_n (i := 2) C dX11_homesBy_8 rfl rfl ?_
  refine rr_istore C dX11_homesBy_9 (by decide) ?_
  show WW W0 G 9 _ _ _ 11 [some (.ref l0), some (.int l1), some (.int l2), some (.int (500 * (l2 / 5))), some (.int l2), none, none, none, none] [] h n _ _
  replace hr := Option.bind_eq_some_iff.mp hr
  obtain ⟨v11, e12, hr⟩ := hr
  refine rr_keep [true, true, false, true, true, false, false, false, false] (w_X11_homesBy_11 C (by omega) l0 l1 (500 * (l2 / 5)) K l2 e12 ?_ ?_)
  · intro cx_
    replace hr := (if_pos cx_).symm.trans hr
    show WW W0 G 9 _ _ _ 85 [none, none, none, none, none, some (.int v11.2), none, none, none] [] h n _ _
    refine rr_iload C dX11_homesBy_85 rfl ?_
    obtain rfl := Option.some.inj hr
    exact rr_iret (ty := .int) C dX11_homesBy_87 rfl rfl ⟨rfl, rfl, rfl⟩
  · intro cx_
    replace hr := (if_neg (fun z_ => absurd (z_.symm.trans cx_) (by decide))).symm.trans hr
    replace hr := (if_pos cx_).symm.trans hr
    show WW W0 G 9 _ _ _ 94 [none, none, none, none, none, none, none, none, none] [] h n _ _
    refine rr_iconst (v := 0) C dX11_homesBy_94 (by decide) ?_
    obtain rfl := Option.some.inj hr
    exact rr_iret (ty := .int) C dX11_homesBy_95 rfl rfl ⟨rfl, rfl, rfl⟩
def lp_X11_holds_39 (K : Nat) (F_ : (mm_H → Nat → Nat → Int32 → Option (Int32))) (h : mm_H) (n : Nat) (l0 : Nat) : Nat → Int32 → Option (Nat)
  | 0, _ => none
  | k_ + 1, l2 =>
    if l2 = (-1) then
      some (1)
    else
    (ckq h n l0 10).bind fun u13 =>
    (F_ h n l0 l2).bind fun v15 =>
    if v15 = 0 then
      (rdR h n l0 10 47).bind fun v17 =>
      v17.bind fun a19 =>
      (ldI h n a19 l2).bind fun v21 =>
      lp_X11_holds_39 K F_ h n l0 k_ v21
    else
    some (0)
def lp_X11_holds_73 (K : Nat) (F_ : (mm_H → Nat → Nat → Int32 → Option (Int32))) (h : mm_H) (n : Nat) (l0 : Nat) : Nat → Int32 → Option (Nat)
  | 0, _ => none
  | k_ + 1, l2 =>
    if l2 = (-1) then
      some (1)
    else
    (ckq h n l0 10).bind fun u31 =>
    (F_ h n l0 l2).bind fun v33 =>
    if v33 = 0 then
      some (0)
    else
    (rdR h n l0 10 47).bind fun v35 =>
    v35.bind fun a37 =>
    (ldI h n a37 l2).bind fun v39 =>
    lp_X11_holds_73 K F_ h n l0 k_ v39
def b_X11_holds (K : Nat) (F_ : (mm_H → Nat → Nat → Int32 → Option (Int32))) (h : mm_H) (n : Nat) (l0 : Nat) (l1 : Int32) : Option (Int32) :=
  (rdR h n l0 10 45).bind fun v1 =>
  v1.bind fun a3 =>
  (ldI h n a3 l1).bind fun v5 =>
  if v5 = 0 then
    (rdR h n l0 10 46).bind fun v7 =>
    v7.bind fun a9 =>
    (ldI h n a9 l1).bind fun v11 =>
    (lp_X11_holds_39 K F_ h n l0 K v11).bind fun v23 =>
    if v23 = 0 then
      some 1
    else
    if v23 = 1 then
      some 0
    else
      none
  else
  if v5 = 1 then
    (rdR h n l0 10 46).bind fun v25 =>
    v25.bind fun a27 =>
    (ldI h n a27 l1).bind fun v29 =>
    (lp_X11_holds_73 K F_ h n l0 K v29).bind fun v41 =>
    if v41 = 0 then
      some 0
    else
    if v41 = 1 then
      some 1
    else
      none
  else
  if v5 = 2 then
    (rdR h n l0 10 46).bind fun v43 =>
    v43.bind fun a45 =>
    (ldI h n a45 l1).bind fun v47 =>
    (ckq h n l0 10).bind fun u49 =>
    (F_ h n l0 v47).bind fun v51 =>
    if v51 = 0 then
      some 1
    else
    some 0
  else
  (rdR h n l0 10 61).bind fun v53 =>
  (rdR h n l0 10 48).bind fun v55 =>
  v55.bind fun a57 =>
  (ldI h n a57 l1).bind fun v59 =>
  v53.bind fun a61 =>
  (ldJ h n a61 v59).bind fun v63 =>
  (rdR h n l0 10 49).bind fun v65 =>
  v65.bind fun a67 =>
  (ldI h n a67 l1).bind fun v69 =>
  if v69 = 60 then
    (rdR h n l0 10 50).bind fun v71 =>
    v71.bind fun a73 =>
    (ldI h n a73 l1).bind fun v75 =>
    if 0 ≤ (lg_cmp v63 (Int32.toInt64 v75)) then
      some 0
    else
    some 1
  else
  (rdR h n l0 10 49).bind fun v77 =>
  v77.bind fun a79 =>
  (ldI h n a79 l1).bind fun v81 =>
  if v81 = 62 then
    (rdR h n l0 10 50).bind fun v83 =>
    v83.bind fun a85 =>
    (ldI h n a85 l1).bind fun v87 =>
    if (lg_cmp v63 (Int32.toInt64 v87)) ≤ 0 then
      some 0
    else
    some 1
  else
  (rdR h n l0 10 50).bind fun v89 =>
  v89.bind fun a91 =>
  (ldI h n a91 l1).bind fun v93 =>
  if (lg_cmp v63 (Int32.toInt64 v93)) = 0 then
    some 1
  else
  some 0
def g_X11_holdsN (K : Nat) : Nat → (mm_H → Nat → Nat → Int32 → Option (Int32))
  | 0 => fun _ _ _ _ => none
  | d + 1 => b_X11_holds K (g_X11_holdsN K d)
def q_X11_holds (K : Nat) (h : mm_H) (n : Nat) (l0 : Nat) (l1 : Int32) : Option (Int32) := (g_X11_holdsN K 48) h n l0 l1
set_option maxRecDepth 100000 in
set_option maxHeartbeats 4000000 in
theorem w_X11_holds_39 {K : Nat} {W0 : mm_X} {G : mm_G} {D_ : Nat} {F_ : (mm_H → Nat → Nat → Int32 → Option (Int32))} (hd_ : 0 ≤ D_) (hF0 : ∀ {l : Launch} {h : mm_H} {n : Nat} (l0 : Nat) (l1 : Int32) {r_ : Int32}, 48 ≤ n → F_ h n l0 l1 = some r_ → Sp G l yX11_holds cX11_holds 4 (some .boolean) D_ 0 0 [.ref l0, .int l1] h n (fun v h' n' => v = some (.int r_) ∧ h' = h ∧ n' = n)) {mc ms kc ks : Nat} {Q_ : State → Prop} {h : mm_H} {n : Nat} (C : mm_C W0 G cX11_holds yX11_holds.cls 4 mc ms (some .boolean) (D_ + 1) yX11_holds.name) (hn : 48 ≤ n) (l0 : Nat) : ∀ (k_ : Nat) (l2 : Int32) {r_ : Nat} (hr : lp_X11_holds_39 K F_ h n l0 k_ l2 = some r_) (hx0 : r_ = 0 → WW W0 G 4 mc ms Q_ 52 [none, none, none, none] [] h n kc ks) (hx1 : r_ = 1 → WW W0 G 4 mc ms Q_ 64 [none, none, none, none] [] h n kc ks), WW W0 G 4 mc ms Q_ 39 [some (.ref l0), none, some (.int l2), none] [] h n kc ks := by
  intro k_
  induction k_ with
  | zero =>
    intro l2 r_ hr
    cases hr
  | succ k_ ih_ =>
    intro l2 r_ hr hx0 hx1
    unfold lp_X11_holds_39 at hr
    refine rr_iload_n (i := 2) C dX11_holds_39 rfl rfl ?_
    refine rr_iconst (v := (-1)) C dX11_holds_40 (by decide) ?_
    refine rr_icmp_eq (tgt := 64) C dX11_holds_41 (by decide) (fun c41_ => ?_) (fun c41_ => ?_)
    · replace hr := (if_pos c41_).symm.trans hr
      obtain rfl := Option.some.inj hr
      exact rr_keep [false, false, false, false] (hx1 rfl)
    · replace hr := (if_neg c41_).symm.trans hr
      refine rr_aload_n (i := 0) C dX11_holds_44 rfl rfl ?_
      refine rr_iload_n (i := 2) C dX11_holds_45 rfl rfl ?_
      replace hr := Option.bind_eq_some_iff.mp hr
      obtain ⟨u13, e14, hr⟩ := hr
      replace hr := Option.bind_eq_some_iff.mp hr
      obtain ⟨v15, e16, hr⟩ := hr
      refine rr_callVq (as := [.int l2]) (st := []) (mc' := 0) (ms' := 0) C dX11_holds_46 iv_X11_411 (by omega) e14 rfl (Nat.le_of_ble_eq_true rfl) (hF0 l0 l2 (by omega) e16) (fun v_ h_ n_ q_ => ?_)
      obtain ⟨q1_, q2_, q3_⟩ := q_
      subst v_; subst h_; subst n_
      show WW W0 G 4 _ _ _ 49 [some (.ref l0), none, some (.int l2), none] [.int v15] h n _ _
      refine rr_if_eq (tgt := 54) C dX11_holds_49 (by decide) (fun c49_ => ?_) (fun c49_ => ?_)
      · replace hr := (if_pos c49_).symm.trans hr
        refine rr_aload_n (i := 0) C dX11_holds_54 rfl rfl ?_
        replace hr := Option.bind_eq_some_iff.mp hr
        obtain ⟨v17, e18, hr⟩ := hr
        refine rr_rdR C dX11_holds_55 fl_X11_115 e18 ?_
        refine rr_iload_n (i := 2) C dX11_holds_58 rfl rfl ?_
        replace hr := Option.bind_eq_some_iff.mp hr
        obtain ⟨a19, e20, hr⟩ := hr
        subst e20
        replace hr := Option.bind_eq_some_iff.mp hr
        obtain ⟨v21, e22, hr⟩ := hr
        refine rr_ldI C dX11_holds_59 e22 ?_
        refine rr_istore_n (i := 2) C dX11_holds_60 rfl (by decide) ?_
        show WW W0 G 4 _ _ _ 61 [some (.ref l0), none, some (.int v21), none] [] h n _ _
        refine rr_goto (tgt := 39) C dX11_holds_61 (by decide) ?_
        exact rr_keep [true, false, true, false] (ih_ _ hr hx0 hx1)
      · replace hr := (if_neg c49_).symm.trans hr
        obtain rfl := Option.some.inj hr
        exact rr_keep [false, false, false, false] (hx0 rfl)
set_option maxRecDepth 100000 in
set_option maxHeartbeats 4000000 in
theorem w_X11_holds_73 {K : Nat} {W0 : mm_X} {G : mm_G} {D_ : Nat} {F_ : (mm_H → Nat → Nat → Int32 → Option (Int32))} (hd_ : 0 ≤ D_) (hF0 : ∀ {l : Launch} {h : mm_H} {n : Nat} (l0 : Nat) (l1 : Int32) {r_ : Int32}, 48 ≤ n → F_ h n l0 l1 = some r_ → Sp G l yX11_holds cX11_holds 4 (some .boolean) D_ 0 0 [.ref l0, .int l1] h n (fun v h' n' => v = some (.int r_) ∧ h' = h ∧ n' = n)) {mc ms kc ks : Nat} {Q_ : State → Prop} {h : mm_H} {n : Nat} (C : mm_C W0 G cX11_holds yX11_holds.cls 4 mc ms (some .boolean) (D_ + 1) yX11_holds.name) (hn : 48 ≤ n) (l0 : Nat) : ∀ (k_ : Nat) (l2 : Int32) {r_ : Nat} (hr : lp_X11_holds_73 K F_ h n l0 k_ l2 = some r_) (hx0 : r_ = 0 → WW W0 G 4 mc ms Q_ 86 [none, none, none, none] [] h n kc ks) (hx1 : r_ = 1 → WW W0 G 4 mc ms Q_ 98 [none, none, none, none] [] h n kc ks), WW W0 G 4 mc ms Q_ 73 [some (.ref l0), none, some (.int l2), none] [] h n kc ks := by
  intro k_
  induction k_ with
  | zero =>
    intro l2 r_ hr
    cases hr
  | succ k_ ih_ =>
    intro l2 r_ hr hx0 hx1
    unfold lp_X11_holds_73 at hr
    refine rr_iload_n (i := 2) C dX11_holds_73 rfl rfl ?_
    refine rr_iconst (v := (-1)) C dX11_holds_74 (by decide) ?_
    refine rr_icmp_eq (tgt := 98) C dX11_holds_75 (by decide) (fun c75_ => ?_) (fun c75_ => ?_)
    · replace hr := (if_pos c75_).symm.trans hr
      obtain rfl := Option.some.inj hr
      exact rr_keep [false, false, false, false] (hx1 rfl)
    · replace hr := (if_neg c75_).symm.trans hr
      refine rr_aload_n (i := 0) C dX11_holds_78 rfl rfl ?_
      refine rr_iload_n (i := 2) C dX11_holds_79 rfl rfl ?_
      replace hr := Option.bind_eq_some_iff.mp hr
      obtain ⟨u31, e32, hr⟩ := hr
      replace hr := Option.bind_eq_some_iff.mp hr
      obtain ⟨v33, e34, hr⟩ := hr
      refine rr_callVq (as := [.int l2]) (st := []) (mc' := 0) (ms' := 0) C dX11_holds_80 iv_X11_411 (by omega) e32 rfl (Nat.le_of_ble_eq_true rfl) (hF0 l0 l2 (by omega) e34) (fun v_ h_ n_ q_ => ?_)
      obtain ⟨q1_, q2_, q3_⟩ := q_
      subst v_; subst h_; subst n_
      show WW W0 G 4 _ _ _ 83 [some (.ref l0), none, some (.int l2), none] [.int v33] h n _ _
      refine rr_if_ne (tgt := 88) C dX11_holds_83 (by decide) (fun c83_ => ?_) (fun c83_ => ?_)
      · replace hr := (if_neg c83_).symm.trans hr
        refine rr_aload_n (i := 0) C dX11_holds_88 rfl rfl ?_
        replace hr := Option.bind_eq_some_iff.mp hr
        obtain ⟨v35, e36, hr⟩ := hr
        refine rr_rdR C dX11_holds_89 fl_X11_115 e36 ?_
        refine rr_iload_n (i := 2) C dX11_holds_92 rfl rfl ?_
        replace hr := Option.bind_eq_some_iff.mp hr
        obtain ⟨a37, e38, hr⟩ := hr
        subst e38
        replace hr := Option.bind_eq_some_iff.mp hr
        obtain ⟨v39, e40, hr⟩ := hr
        refine rr_ldI C dX11_holds_93 e40 ?_
        refine rr_istore_n (i := 2) C dX11_holds_94 rfl (by decide) ?_
        show WW W0 G 4 _ _ _ 95 [some (.ref l0), none, some (.int v39), none] [] h n _ _
        refine rr_goto (tgt := 73) C dX11_holds_95 (by decide) ?_
        exact rr_keep [true, false, true, false] (ih_ _ hr hx0 hx1)
      · replace hr := (if_pos c83_).symm.trans hr
        obtain rfl := Option.some.inj hr
        exact rr_keep [false, false, false, false] (hx0 rfl)
set_option maxRecDepth 100000 in
set_option maxHeartbeats 4000000 in
theorem cb_X11_holds {K : Nat} {G : mm_G} {D_ : Nat} {F_ : (mm_H → Nat → Nat → Int32 → Option (Int32))} (hd_ : 0 ≤ D_) (hF0 : ∀ {l : Launch} {h : mm_H} {n : Nat} (l0 : Nat) (l1 : Int32) {r_ : Int32}, 48 ≤ n → F_ h n l0 l1 = some r_ → Sp G l yX11_holds cX11_holds 4 (some .boolean) D_ 0 0 [.ref l0, .int l1] h n (fun v h' n' => v = some (.int r_) ∧ h' = h ∧ n' = n)) {l : Launch} {h : mm_H} {n : Nat} (l0 : Nat) (l1 : Int32) {r_ : Int32} (hn : 48 ≤ n) (hr : b_X11_holds K F_ h n l0 l1 = some r_) : Sp G l yX11_holds cX11_holds 4 (some .boolean) (D_ + 1) 0 0 [.ref l0, .int l1] h n (fun v h' n' => v = some (.int r_) ∧ h' = h ∧ n' = n) := by
  refine Sp_of (by decide +kernel) (Nat.le_of_ble_eq_true rfl) hn ?_
  intro W0 hwl C
  subst hwl
  unfold b_X11_holds at hr
  show WW W0 G 4 0 0 _ 0 [some (.ref l0), some (.int l1), none, none] [] h n 0 0
  refine rr_aload_n (i := 0) C dX11_holds_0 rfl rfl ?_
  replace hr := Option.bind_eq_some_iff.mp hr
  obtain ⟨v1, e2, hr⟩ := hr
  refine rr_rdR C dX11_holds_1 fl_X11_109 e2 ?_
  refine rr_iload_n (i := 1) C dX11_holds_4 rfl rfl ?_
  replace hr := Option.bind_eq_some_iff.mp hr
  obtain ⟨a3, e4, hr⟩ := hr
  subst e4
  replace hr := Option.bind_eq_some_iff.mp hr
  obtain ⟨v5, e6, hr⟩ := hr
  refine rr_ldI C dX11_holds_5 e6 ?_
  by_cases s6_0 : v5 = 0
  · replace hr := (if_pos s6_0).symm.trans hr
    refine rr_tabIn (off := 26) (tgt := 32) C dX11_holds_6 (by rw [s6_0]; decide) (by rw [s6_0]; decide) (by rw [s6_0]; rfl) (by decide) ?_
    refine rr_aload_n (i := 0) C dX11_holds_32 rfl rfl ?_
    replace hr := Option.bind_eq_some_iff.mp hr
    obtain ⟨v7, e8, hr⟩ := hr
    refine rr_rdR C dX11_holds_33 fl_X11_112 e8 ?_
    refine rr_iload_n (i := 1) C dX11_holds_36 rfl rfl ?_
    replace hr := Option.bind_eq_some_iff.mp hr
    obtain ⟨a9, e10, hr⟩ := hr
    subst e10
    replace hr := Option.bind_eq_some_iff.mp hr
    obtain ⟨v11, e12, hr⟩ := hr
    refine rr_ldI C dX11_holds_37 e12 ?_
    refine rr_istore_n (i := 2) C dX11_holds_38 rfl (by decide) ?_
    show WW W0 G 4 _ _ _ 39 [some (.ref l0), some (.int l1), some (.int v11), none] [] h n _ _
    replace hr := Option.bind_eq_some_iff.mp hr
    obtain ⟨v23, e24, hr⟩ := hr
    refine rr_keep [true, false, true, false] (w_X11_holds_39 hd_ hF0 C (by omega) l0 K v11 e24 ?_ ?_)
    · intro cx_
      replace hr := (if_pos cx_).symm.trans hr
      show WW W0 G 4 _ _ _ 52 [none, none, none, none] [] h n _ _
      refine rr_iconst (v := 1) C dX11_holds_52 (by decide) ?_
      obtain rfl := Option.some.inj hr
      exact rr_iret (ty := .boolean) C dX11_holds_53 rfl rfl ⟨rfl, rfl, rfl⟩
    · intro cx_
      replace hr := (if_neg (fun z_ => absurd (z_.symm.trans cx_) (by decide))).symm.trans hr
      replace hr := (if_pos cx_).symm.trans hr
      show WW W0 G 4 _ _ _ 64 [none, none, none, none] [] h n _ _
      refine rr_iconst (v := 0) C dX11_holds_64 (by decide) ?_
      obtain rfl := Option.some.inj hr
      exact rr_iret (ty := .boolean) C dX11_holds_65 rfl rfl ⟨rfl, rfl, rfl⟩
  replace hr := (if_neg s6_0).symm.trans hr
  by_cases s6_1 : v5 = 1
  · replace hr := (if_pos s6_1).symm.trans hr
    refine rr_tabIn (off := 60) (tgt := 66) C dX11_holds_6 (by rw [s6_1]; decide) (by rw [s6_1]; decide) (by rw [s6_1]; rfl) (by decide) ?_
    refine rr_aload_n (i := 0) C dX11_holds_66 rfl rfl ?_
    replace hr := Option.bind_eq_some_iff.mp hr
    obtain ⟨v25, e26, hr⟩ := hr
    refine rr_rdR C dX11_holds_67 fl_X11_112 e26 ?_
    refine rr_iload_n (i := 1) C dX11_holds_70 rfl rfl ?_
    replace hr := Option.bind_eq_some_iff.mp hr
    obtain ⟨a27, e28, hr⟩ := hr
    subst e28
    replace hr := Option.bind_eq_some_iff.mp hr
    obtain ⟨v29, e30, hr⟩ := hr
    refine rr_ldI C dX11_holds_71 e30 ?_
    refine rr_istore_n (i := 2) C dX11_holds_72 rfl (by decide) ?_
    show WW W0 G 4 _ _ _ 73 [some (.ref l0), some (.int l1), some (.int v29), none] [] h n _ _
    replace hr := Option.bind_eq_some_iff.mp hr
    obtain ⟨v41, e42, hr⟩ := hr
    refine rr_keep [true, false, true, false] (w_X11_holds_73 hd_ hF0 C (by omega) l0 K v29 e42 ?_ ?_)
    · intro cx_
      replace hr := (if_pos cx_).symm.trans hr
      show WW W0 G 4 _ _ _ 86 [none, none, none, none] [] h n _ _
      refine rr_iconst (v := 0) C dX11_holds_86 (by decide) ?_
      obtain rfl := Option.some.inj hr
      exact rr_iret (ty := .boolean) C dX11_holds_87 rfl rfl ⟨rfl, rfl, rfl⟩
    · intro cx_
      replace hr := (if_neg (fun z_ => absurd (z_.symm.trans cx_) (by decide))).symm.trans hr
      replace hr := (if_pos cx_).symm.trans hr
      show WW W0 G 4 _ _ _ 98 [none, none, none, none] [] h n _ _
      refine rr_iconst (v := 1) C dX11_holds_98 (by decide) ?_
      obtain rfl := Option.some.inj hr
      exact rr_iret (ty := .boolean) C dX11_holds_99 rfl rfl ⟨rfl, rfl, rfl⟩
  replace hr := (if_neg s6_1).symm.trans hr
  by_cases s6_2 : v5 = 2
  · replace hr := (if_pos s6_2).symm.trans hr
    refine rr_tabIn (off := 94) (tgt := 100) C dX11_holds_6 (by rw [s6_2]; decide) (by rw [s6_2]; decide) (by rw [s6_2]; rfl) (by decide) ?_
    refine rr_aload_n (i := 0) C dX11_holds_100 rfl rfl ?_
    refine rr_aload_n (i := 0) C dX11_holds_101 rfl rfl ?_
    replace hr := Option.bind_eq_some_iff.mp hr
    obtain ⟨v43, e44, hr⟩ := hr
    refine rr_rdR C dX11_holds_102 fl_X11_112 e44 ?_
    refine rr_iload_n (i := 1) C dX11_holds_105 rfl rfl ?_
    replace hr := Option.bind_eq_some_iff.mp hr
    obtain ⟨a45, e46, hr⟩ := hr
    subst e46
    replace hr := Option.bind_eq_some_iff.mp hr
    obtain ⟨v47, e48, hr⟩ := hr
    refine rr_ldI C dX11_holds_106 e48 ?_
    replace hr := Option.bind_eq_some_iff.mp hr
    obtain ⟨u49, e50, hr⟩ := hr
    replace hr := Option.bind_eq_some_iff.mp hr
    obtain ⟨v51, e52, hr⟩ := hr
    refine rr_callVq (as := [.int v47]) (st := []) (mc' := 0) (ms' := 0) C dX11_holds_107 iv_X11_411 (by omega) e50 rfl (Nat.le_of_ble_eq_true rfl) (hF0 l0 v47 (by omega) e52) (fun v_ h_ n_ q_ => ?_)
    obtain ⟨q1_, q2_, q3_⟩ := q_
    subst v_; subst h_; subst n_
    show WW W0 G 4 _ _ _ 110 [some (.ref l0), some (.int l1), none, none] [.int v51] h n _ _
    refine rr_if_ne (tgt := 117) C dX11_holds_110 (by decide) (fun c110_ => ?_) (fun c110_ => ?_)
    · replace hr := (if_neg c110_).symm.trans hr
      refine rr_iconst (v := 0) C dX11_holds_117 (by decide) ?_
      obtain rfl := Option.some.inj hr
      exact rr_iret (ty := .boolean) C dX11_holds_118 rfl rfl ⟨rfl, rfl, rfl⟩
    · replace hr := (if_pos c110_).symm.trans hr
      refine rr_iconst (v := 1) C dX11_holds_113 (by decide) ?_
      refine rr_goto (tgt := 118) C dX11_holds_114 (by decide) ?_
      obtain rfl := Option.some.inj hr
      exact rr_iret (ty := .boolean) C dX11_holds_118 rfl rfl ⟨rfl, rfl, rfl⟩
  replace hr := (if_neg s6_2).symm.trans hr
  refine rr_tabOut (tgt := 119) C dX11_holds_6 (by have t0 : ¬ Int32.toInt v5 = 0 := (fun q => s6_0 (Int32.toInt_inj.mp (show Int32.toInt v5 = (0 : Int32).toInt from q))); have t1 : ¬ Int32.toInt v5 = 1 := (fun q => s6_1 (Int32.toInt_inj.mp (show Int32.toInt v5 = (1 : Int32).toInt from q))); have t2 : ¬ Int32.toInt v5 = 2 := (fun q => s6_2 (Int32.toInt_inj.mp (show Int32.toInt v5 = (2 : Int32).toInt from q))); omega) (by decide) ?_
  refine rr_aload_n (i := 0) C dX11_holds_119 rfl rfl ?_
  replace hr := Option.bind_eq_some_iff.mp hr
  obtain ⟨v53, e54, hr⟩ := hr
  refine rr_rdR C dX11_holds_120 fl_X11_150 e54 ?_
  refine rr_aload_n (i := 0) C dX11_holds_123 rfl rfl ?_
  replace hr := Option.bind_eq_some_iff.mp hr
  obtain ⟨v55, e56, hr⟩ := hr
  refine rr_rdR C dX11_holds_124 fl_X11_118 e56 ?_
  refine rr_iload_n (i := 1) C dX11_holds_127 rfl rfl ?_
  replace hr := Option.bind_eq_some_iff.mp hr
  obtain ⟨a57, e58, hr⟩ := hr
  subst e58
  replace hr := Option.bind_eq_some_iff.mp hr
  obtain ⟨v59, e60, hr⟩ := hr
  refine rr_ldI C dX11_holds_128 e60 ?_
  replace hr := Option.bind_eq_some_iff.mp hr
  obtain ⟨a61, e62, hr⟩ := hr
  subst e62
  replace hr := Option.bind_eq_some_iff.mp hr
  obtain ⟨v63, e64, hr⟩ := hr
  refine rr_ldJ C dX11_holds_129 e64 ?_
  refine rr_lstore_n (i := 2) C dX11_holds_130 rfl (by decide) ?_
  show WW W0 G 4 _ _ _ 131 [some (.ref l0), some (.int l1), some (.long v63), none] [] h n _ _
  refine rr_aload_n (i := 0) C dX11_holds_131 rfl rfl ?_
  replace hr := Option.bind_eq_some_iff.mp hr
  obtain ⟨v65, e66, hr⟩ := hr
  refine rr_rdR C dX11_holds_132 fl_X11_121 e66 ?_
  refine rr_iload_n (i := 1) C dX11_holds_135 rfl rfl ?_
  replace hr := Option.bind_eq_some_iff.mp hr
  obtain ⟨a67, e68, hr⟩ := hr
  subst e68
  replace hr := Option.bind_eq_some_iff.mp hr
  obtain ⟨v69, e70, hr⟩ := hr
  refine rr_ldI C dX11_holds_136 e70 ?_
  refine rr_bipush (v := 60) C dX11_holds_137 (by decide) ?_
  refine rr_icmp_ne (tgt := 162) C dX11_holds_139 (by decide) (fun c139_ => ?_) (fun c139_ => ?_)
  · replace hr := (if_neg c139_).symm.trans hr
    refine rr_aload_n (i := 0) C dX11_holds_162 rfl rfl ?_
    replace hr := Option.bind_eq_some_iff.mp hr
    obtain ⟨v77, e78, hr⟩ := hr
    refine rr_rdR C dX11_holds_163 fl_X11_121 e78 ?_
    refine rr_iload_n (i := 1) C dX11_holds_166 rfl rfl ?_
    replace hr := Option.bind_eq_some_iff.mp hr
    obtain ⟨a79, e80, hr⟩ := hr
    subst e80
    replace hr := Option.bind_eq_some_iff.mp hr
    obtain ⟨v81, e82, hr⟩ := hr
    refine rr_ldI C dX11_holds_167 e82 ?_
    refine rr_bipush (v := 62) C dX11_holds_168 (by decide) ?_
    refine rr_icmp_ne (tgt := 193) C dX11_holds_170 (by decide) (fun c170_ => ?_) (fun c170_ => ?_)
    · replace hr := (if_neg c170_).symm.trans hr
      refine rr_lload_n (i := 2) C dX11_holds_193 rfl rfl ?_
      refine rr_aload_n (i := 0) C dX11_holds_194 rfl rfl ?_
      replace hr := Option.bind_eq_some_iff.mp hr
      obtain ⟨v89, e90, hr⟩ := hr
      refine rr_rdR C dX11_holds_195 fl_X11_124 e90 ?_
      refine rr_iload_n (i := 1) C dX11_holds_198 rfl rfl ?_
      replace hr := Option.bind_eq_some_iff.mp hr
      obtain ⟨a91, e92, hr⟩ := hr
      subst e92
      replace hr := Option.bind_eq_some_iff.mp hr
      obtain ⟨v93, e94, hr⟩ := hr
      refine rr_ldI C dX11_holds_199 e94 ?_
      refine rr_i2l C dX11_holds_200 ?_
      refine rr_lcmp C dX11_holds_201 ?_
      refine rr_if_ne (tgt := 209) C dX11_holds_202 (by decide) (fun c202_ => ?_) (fun c202_ => ?_)
      · replace hr := (if_neg c202_).symm.trans hr
        refine rr_iconst (v := 0) C dX11_holds_209 (by decide) ?_
        obtain rfl := Option.some.inj hr
        exact rr_iret (ty := .boolean) C dX11_holds_210 rfl rfl ⟨rfl, rfl, rfl⟩
      · replace hr := (if_pos c202_).symm.trans hr
        refine rr_iconst (v := 1) C dX11_holds_205 (by decide) ?_
        refine rr_goto (tgt := 210) C dX11_holds_206 (by decide) ?_
        obtain rfl := Option.some.inj hr
        exact rr_iret (ty := .boolean) C dX11_holds_210 rfl rfl ⟨rfl, rfl, rfl⟩
    · replace hr := (if_pos c170_).symm.trans hr
      refine rr_lload_n (i := 2) C dX11_holds_173 rfl rfl ?_
      refine rr_aload_n (i := 0) C dX11_holds_174 rfl rfl ?_
      replace hr := Option.bind_eq_some_iff.mp hr
      obtain ⟨v83, e84, hr⟩ := hr
      refine rr_rdR C dX11_holds_175 fl_X11_124 e84 ?_
      refine rr_iload_n (i := 1) C dX11_holds_178 rfl rfl ?_
      replace hr := Option.bind_eq_some_iff.mp hr
      obtain ⟨a85, e86, hr⟩ := hr
      subst e86
      replace hr := Option.bind_eq_some_iff.mp hr
      obtain ⟨v87, e88, hr⟩ := hr
      refine rr_ldI C dX11_holds_179 e88 ?_
      refine rr_i2l C dX11_holds_180 ?_
      refine rr_lcmp C dX11_holds_181 ?_
      refine rr_if_le (tgt := 189) C dX11_holds_182 (by decide) (fun c182_ => ?_) (fun c182_ => ?_)
      · replace hr := (if_pos c182_).symm.trans hr
        refine rr_iconst (v := 0) C dX11_holds_189 (by decide) ?_
        refine rr_goto (tgt := 210) C dX11_holds_190 (by decide) ?_
        obtain rfl := Option.some.inj hr
        exact rr_iret (ty := .boolean) C dX11_holds_210 rfl rfl ⟨rfl, rfl, rfl⟩
      · replace hr := (if_neg c182_).symm.trans hr
        refine rr_iconst (v := 1) C dX11_holds_185 (by decide) ?_
        refine rr_goto (tgt := 210) C dX11_holds_186 (by decide) ?_
        obtain rfl := Option.some.inj hr
        exact rr_iret (ty := .boolean) C dX11_holds_210 rfl rfl ⟨rfl, rfl, rfl⟩
  · replace hr := (if_pos c139_).symm.trans hr
    refine rr_lload_n (i := 2) C dX11_holds_142 rfl rfl ?_
    refine rr_aload_n (i := 0) C dX11_holds_143 rfl rfl ?_
    replace hr := Option.bind_eq_some_iff.mp hr
    obtain ⟨v71, e72, hr⟩ := hr
    refine rr_rdR C dX11_holds_144 fl_X11_124 e72 ?_
    refine rr_iload_n (i := 1) C dX11_holds_147 rfl rfl ?_
    replace hr := Option.bind_eq_some_iff.mp hr
    obtain ⟨a73, e74, hr⟩ := hr
    subst e74
    replace hr := Option.bind_eq_some_iff.mp hr
    obtain ⟨v75, e76, hr⟩ := hr
    refine rr_ldI C dX11_holds_148 e76 ?_
    refine rr_i2l C dX11_holds_149 ?_
    refine rr_lcmp C dX11_holds_150 ?_
    refine rr_if_ge (tgt := 158) C dX11_holds_151 (by decide) (fun c151_ => ?_) (fun c151_ => ?_)
    · replace hr := (if_pos c151_).symm.trans hr
      refine rr_iconst (v := 0) C dX11_holds_158 (by decide) ?_
      refine rr_goto (tgt := 210) C dX11_holds_159 (by decide) ?_
      obtain rfl := Option.some.inj hr
      exact rr_iret (ty := .boolean) C dX11_holds_210 rfl rfl ⟨rfl, rfl, rfl⟩
    · replace hr := (if_neg c151_).symm.trans hr
      refine rr_iconst (v := 1) C dX11_holds_154 (by decide) ?_
      refine rr_goto (tgt := 210) C dX11_holds_155 (by decide) ?_
      obtain rfl := Option.some.inj hr
      exact rr_iret (ty := .boolean) C dX11_holds_210 rfl rfl ⟨rfl, rfl, rfl⟩
set_option maxHeartbeats 4000000 in
theorem cg_X11_holdsN {K : Nat} {G : mm_G} : ∀ d : Nat, (∀ {l : Launch} {h : mm_H} {n : Nat} (l0 : Nat) (l1 : Int32) {r_ : Int32}, 48 ≤ n → g_X11_holdsN K d h n l0 l1 = some r_ → Sp G l yX11_holds cX11_holds 4 (some .boolean) (0 + d) 0 0 [.ref l0, .int l1] h n (fun v h' n' => v = some (.int r_) ∧ h' = h ∧ n' = n)) := by
  intro d
  induction d with
  | zero =>
    exact (by intro l h n l0 l1 r_ _ hr; cases hr)
  | succ d ih =>
    have i0 := @ih
    exact (by intro l h n l0 l1 r_ hn hr; exact cb_X11_holds (D_ := 0 + d) (F_ := g_X11_holdsN K d) (by omega) i0 l0 l1 hn hr)
theorem c_X11_holds {K : Nat} {G : mm_G} : ∀ {l : Launch} {h : mm_H} {n : Nat} (l0 : Nat) (l1 : Int32) {r_ : Int32}, 48 ≤ n → q_X11_holds K h n l0 l1 = some r_ → Sp G l yX11_holds cX11_holds 4 (some .boolean) 48 0 0 [.ref l0, .int l1] h n (fun v h' n' => v = some (.int r_) ∧ h' = h ∧ n' = n) := (cg_X11_holdsN (K := K) (G := G) 48)
def lp_X11_statement_34 (K : Nat) (h : mm_H) (n : Nat) (l0 : Nat) (l3 : Int32) (l4 : Int32) (l5 : Int32) : Nat → Int32 → Int32 → Option (Int32)
  | 0, _, _ => none
  | k_ + 1, l6, l7 =>
    (rdR h n l0 10 32).bind fun v10 =>
    v10.bind fun a12 =>
    (ldI h n a12 l5).bind fun v14 =>
    if ((300 * l5) + v14) ≤ l7 then
      some (l6)
    else
    (rdR h n l0 10 36).bind fun v16 =>
    v16.bind fun a18 =>
    (ldI h n a18 l7).bind fun v20 =>
    if v20 = l3 then
      (rdR h n l0 10 37).bind fun v22 =>
      v22.bind fun a24 =>
      (ldI h n a24 l7).bind fun v26 =>
      if v26 = l4 then
        (rdR h n l0 10 44).bind fun v28 =>
        v28.bind fun a30 =>
        (ldI h n a30 l7).bind fun v32 =>
        if v32 = (-1) then
          lp_X11_statement_34 K h n l0 l3 l4 l5 k_ l7 (l7 + 1)
        else
        (rdR h n l0 10 44).bind fun v34 =>
        v34.bind fun a36 =>
        (ldI h n a36 l7).bind fun v38 =>
        (ckq h n l0 10).bind fun u40 =>
        (q_X11_holds K h n l0 v38).bind fun v42 =>
        if v42 = 0 then
          lp_X11_statement_34 K h n l0 l3 l4 l5 k_ l7 (l7 + 1)
        else
        lp_X11_statement_34 K h n l0 l3 l4 l5 k_ l6 (l7 + 1)
      else
      lp_X11_statement_34 K h n l0 l3 l4 l5 k_ l6 (l7 + 1)
    else
    lp_X11_statement_34 K h n l0 l3 l4 l5 k_ l6 (l7 + 1)
def q_X11_statement (K : Nat) (h : mm_H) (n : Nat) (l0 : Nat) (l1 : Int32) (l2 : Int32) (l3 : Int32) (l4 : Int32) : Option (Int32 × mm_H) :=
  (ckq h n l0 10).bind fun u1 =>
  (q_X11_setOf K h n l0 (l2 / 5)).bind fun v3 =>
  if v3 = (-1) then
    some ((-1), h)
  else
  (ckq h n l0 10).bind fun u5 =>
  (q_X11_asks K h n l0 l1 l2).bind fun v7 =>
  (lp_X11_statement_34 K v7 n l0 l3 l4 v3 K (-1) (300 * v3)).bind fun v44 =>
  some (v44, v7)
set_option maxRecDepth 100000 in
set_option maxHeartbeats 4000000 in
theorem w_X11_statement_34 {K : Nat} {W0 : mm_X} {G : mm_G} {mc ms kc ks : Nat} {Q_ : State → Prop} {h : mm_H} {n : Nat} (C : mm_C W0 G cX11_statement yX11_statement.cls 8 mc ms (some .int) 49 yX11_statement.name) (hn : 48 ≤ n) (l0 : Nat) (l3 : Int32) (l4 : Int32) (l5 : Int32) : ∀ (k_ : Nat) (l6 : Int32) (l7 : Int32) {r_ : Int32} (hr : lp_X11_statement_34 K h n l0 l3 l4 l5 k_ l6 l7 = some r_) (hx0 : WW W0 G 8 mc ms Q_ 111 [none, none, none, none, none, none, some (.int r_), none] [] h n kc ks), WW W0 G 8 mc ms Q_ 34 [some (.ref l0), none, none, some (.int l3), some (.int l4), some (.int l5), some (.int l6), some (.int l7)] [] h n kc ks := by
  intro k_
  induction k_ with
  | zero =>
    intro l6 l7 r_ hr
    cases hr
  | succ k_ ih_ =>
    intro l6 l7 r_ hr hx0
    unfold lp_X11_statement_34 at hr
    refine rr_iload C dX11_statement_34 rfl ?_
    refine rr_sipush (v := 300) C dX11_statement_36 (by decide) ?_
    refine rr_iload C dX11_statement_39 rfl ?_
    refine rr_imul C dX11_statement_41 ?_
    refine rr_aload_n (i := 0) C dX11_statement_42 rfl rfl ?_
    replace hr := Option.bind_eq_some_iff.mp hr
    obtain ⟨v10, e11, hr⟩ := hr
    refine rr_rdR C dX11_statement_43 fl_X11_69 e11 ?_
    refine rr_iload C dX11_statement_46 rfl ?_
    replace hr := Option.bind_eq_some_iff.mp hr
    obtain ⟨a12, e13, hr⟩ := hr
    subst e13
    replace hr := Option.bind_eq_some_iff.mp hr
    obtain ⟨v14, e15, hr⟩ := hr
    refine rr_ldI C dX11_statement_48 e15 ?_
    refine rr_iadd C dX11_statement_49 ?_
    refine rr_icmp_ge (tgt := 111) C dX11_statement_50 (by decide) (fun c50_ => ?_) (fun c50_ => ?_)
    · replace hr := (if_pos c50_).symm.trans hr
      obtain rfl := Option.some.inj hr
      exact rr_keep [false, false, false, false, false, false, true, false] (hx0)
    · replace hr := (if_neg c50_).symm.trans hr
      refine rr_aload_n (i := 0) C dX11_statement_53 rfl rfl ?_
      replace hr := Option.bind_eq_some_iff.mp hr
      obtain ⟨v16, e17, hr⟩ := hr
      refine rr_rdR C dX11_statement_54 fl_X11_81 e17 ?_
      refine rr_iload C dX11_statement_57 rfl ?_
      replace hr := Option.bind_eq_some_iff.mp hr
      obtain ⟨a18, e19, hr⟩ := hr
      subst e19
      replace hr := Option.bind_eq_some_iff.mp hr
      obtain ⟨v20, e21, hr⟩ := hr
      refine rr_ldI C dX11_statement_59 e21 ?_
      refine rr_iload_n (i := 3) C dX11_statement_60 rfl rfl ?_
      refine rr_icmp_ne (tgt := 105) C dX11_statement_61 (by decide) (fun c61_ => ?_) (fun c61_ => ?_)
      · replace hr := (if_neg c61_).symm.trans hr
        refine rr_iinc (v := l7 + 1) C dX11_statement_105 rfl rfl ?_
        show WW W0 G 8 _ _ _ 108 [some (.ref l0), none, none, some (.int l3), some (.int l4), some (.int l5), some (.int l6), some (.int (l7 + 1))] [] h n _ _
        refine rr_goto (tgt := 34) C dX11_statement_108 (by decide) ?_
        exact rr_keep [true, false, false, true, true, true, true, true] (ih_ _ _ hr hx0)
      · replace hr := (if_pos c61_).symm.trans hr
        refine rr_aload_n (i := 0) C dX11_statement_64 rfl rfl ?_
        replace hr := Option.bind_eq_some_iff.mp hr
        obtain ⟨v22, e23, hr⟩ := hr
        refine rr_rdR C dX11_statement_65 fl_X11_84 e23 ?_
        refine rr_iload C dX11_statement_68 rfl ?_
        replace hr := Option.bind_eq_some_iff.mp hr
        obtain ⟨a24, e25, hr⟩ := hr
        subst e25
        replace hr := Option.bind_eq_some_iff.mp hr
        obtain ⟨v26, e27, hr⟩ := hr
        refine rr_ldI C dX11_statement_70 e27 ?_
        refine rr_iload C dX11_statement_71 rfl ?_
        refine rr_icmp_ne (tgt := 105) C dX11_statement_73 (by decide) (fun c73_ => ?_) (fun c73_ => ?_)
        · replace hr := (if_neg c73_).symm.trans hr
          refine rr_iinc (v := l7 + 1) C dX11_statement_105 rfl rfl ?_
          show WW W0 G 8 _ _ _ 108 [some (.ref l0), none, none, some (.int l3), some (.int l4), some (.int l5), some (.int l6), some (.int (l7 + 1))] [] h n _ _
          refine rr_goto (tgt := 34) C dX11_statement_108 (by decide) ?_
          exact rr_keep [true, false, false, true, true, true, true, true] (ih_ _ _ hr hx0)
        · replace hr := (if_pos c73_).symm.trans hr
          refine rr_aload_n (i := 0) C dX11_statement_76 rfl rfl ?_
          replace hr := Option.bind_eq_some_iff.mp hr
          obtain ⟨v28, e29, hr⟩ := hr
          refine rr_rdR C dX11_statement_77 fl_X11_105 e29 ?_
          refine rr_iload C dX11_statement_80 rfl ?_
          replace hr := Option.bind_eq_some_iff.mp hr
          obtain ⟨a30, e31, hr⟩ := hr
          subst e31
          replace hr := Option.bind_eq_some_iff.mp hr
          obtain ⟨v32, e33, hr⟩ := hr
          refine rr_ldI C dX11_statement_82 e33 ?_
          refine rr_iconst (v := (-1)) C dX11_statement_83 (by decide) ?_
          refine rr_icmp_eq (tgt := 101) C dX11_statement_84 (by decide) (fun c84_ => ?_) (fun c84_ => ?_)
          · replace hr := (if_pos c84_).symm.trans hr
            refine rr_iload C dX11_statement_101 rfl ?_
            refine rr_istore C dX11_statement_103 (by decide) ?_
            show WW W0 G 8 _ _ _ 105 [some (.ref l0), none, none, some (.int l3), some (.int l4), some (.int l5), some (.int l7), some (.int l7)] [] h n _ _
            refine rr_iinc (v := l7 + 1) C dX11_statement_105 rfl rfl ?_
            show WW W0 G 8 _ _ _ 108 [some (.ref l0), none, none, some (.int l3), some (.int l4), some (.int l5), some (.int l7), some (.int (l7 + 1))] [] h n _ _
            refine rr_goto (tgt := 34) C dX11_statement_108 (by decide) ?_
            exact rr_keep [true, false, false, true, true, true, true, true] (ih_ _ _ hr hx0)
          · replace hr := (if_neg c84_).symm.trans hr
            refine rr_aload_n (i := 0) C dX11_statement_87 rfl rfl ?_
            refine rr_aload_n (i := 0) C dX11_statement_88 rfl rfl ?_
            replace hr := Option.bind_eq_some_iff.mp hr
            obtain ⟨v34, e35, hr⟩ := hr
            refine rr_rdR C dX11_statement_89 fl_X11_105 e35 ?_
            refine rr_iload C dX11_statement_92 rfl ?_
            replace hr := Option.bind_eq_some_iff.mp hr
            obtain ⟨a36, e37, hr⟩ := hr
            subst e37
            replace hr := Option.bind_eq_some_iff.mp hr
            obtain ⟨v38, e39, hr⟩ := hr
            refine rr_ldI C dX11_statement_94 e39 ?_
            replace hr := Option.bind_eq_some_iff.mp hr
            obtain ⟨u40, e41, hr⟩ := hr
            replace hr := Option.bind_eq_some_iff.mp hr
            obtain ⟨v42, e43, hr⟩ := hr
            refine rr_callVq (as := [.int v38]) (st := []) (mc' := 0) (ms' := 0) C dX11_statement_95 iv_X11_411 (by decide) e41 rfl (Nat.le_of_ble_eq_true rfl) (c_X11_holds l0 v38 (by omega) e43) (fun v_ h_ n_ q_ => ?_)
            obtain ⟨q1_, q2_, q3_⟩ := q_
            subst v_; subst h_; subst n_
            show WW W0 G 8 _ _ _ 98 [some (.ref l0), none, none, some (.int l3), some (.int l4), some (.int l5), some (.int l6), some (.int l7)] [.int v42] h n _ _
            refine rr_if_ne (tgt := 105) C dX11_statement_98 (by decide) (fun c98_ => ?_) (fun c98_ => ?_)
            · replace hr := (if_neg c98_).symm.trans hr
              refine rr_iinc (v := l7 + 1) C dX11_statement_105 rfl rfl ?_
              show WW W0 G 8 _ _ _ 108 [some (.ref l0), none, none, some (.int l3), some (.int l4), some (.int l5), some (.int l6), some (.int (l7 + 1))] [] h n _ _
              refine rr_goto (tgt := 34) C dX11_statement_108 (by decide) ?_
              exact rr_keep [true, false, false, true, true, true, true, true] (ih_ _ _ hr hx0)
            · replace hr := (if_pos c98_).symm.trans hr
              refine rr_iload C dX11_statement_101 rfl ?_
              refine rr_istore C dX11_statement_103 (by decide) ?_
              show WW W0 G 8 _ _ _ 105 [some (.ref l0), none, none, some (.int l3), some (.int l4), some (.int l5), some (.int l7), some (.int l7)] [] h n _ _
              refine rr_iinc (v := l7 + 1) C dX11_statement_105 rfl rfl ?_
              show WW W0 G 8 _ _ _ 108 [some (.ref l0), none, none, some (.int l3), some (.int l4), some (.int l5), some (.int l7), some (.int (l7 + 1))] [] h n _ _
              refine rr_goto (tgt := 34) C dX11_statement_108 (by decide) ?_
              exact rr_keep [true, false, false, true, true, true, true, true] (ih_ _ _ hr hx0)
set_option maxRecDepth 100000 in
set_option maxHeartbeats 4000000 in
theorem c_X11_statement {K : Nat} {G : mm_G} {l : Launch} {h : mm_H} {n : Nat} (l0 : Nat) (l1 : Int32) (l2 : Int32) (l3 : Int32) (l4 : Int32) {r_ : Int32 × mm_H} (hn : 48 ≤ n) (hr : q_X11_statement K h n l0 l1 l2 l3 l4 = some r_) : Sp G l yX11_statement cX11_statement 8 (some .int) 49 0 0 [.ref l0, .int l1, .int l2, .int l3, .int l4] h n (fun v h' n' => v = some (.int r_.1) ∧ h' = r_.2 ∧ n' = n) := by
  refine Sp_of (by decide +kernel) (Nat.le_of_ble_eq_true rfl) hn ?_
  intro W0 hwl C
  subst hwl
  unfold q_X11_statement at hr
  show WW W0 G 8 0 0 _ 0 [some (.ref l0), some (.int l1), some (.int l2), some (.int l3), some (.int l4), none, none, none] [] h n 0 0
  refine rr_aload_n (i := 0) C dX11_statement_0 rfl rfl ?_
  refine rr_iload_n (i := 2) C dX11_statement_1 rfl rfl ?_
  refine rr_iconst (v := 5) C dX11_statement_2 (by decide) ?_
  refine rr_idiv C dX11_statement_3 (by decide) ?_
  replace hr := Option.bind_eq_some_iff.mp hr
  obtain ⟨u1, e2, hr⟩ := hr
  replace hr := Option.bind_eq_some_iff.mp hr
  obtain ⟨v3, e4, hr⟩ := hr
  refine rr_callVq (as := [.int (l2 / 5)]) (st := []) (mc' := 0) (ms' := 0) C dX11_statement_4 iv_X11_400 (by decide) e2 rfl (Nat.le_of_ble_eq_true rfl) (c_X11_setOf l0 (l2 / 5) (by omega) e4) (fun v_ h_ n_ q_ => ?_)
  obtain ⟨q1_, q2_, q3_⟩ := q_
  subst v_; subst h_; subst n_
  show WW W0 G 8 _ _ _ 7 [some (.ref l0), some (.int l1), some (.int l2), some (.int l3), some (.int l4), none, none, none] [.int v3] h n _ _
  refine rr_istore C dX11_statement_7 (by decide) ?_
  show WW W0 G 8 _ _ _ 9 [some (.ref l0), some (.int l1), some (.int l2), some (.int l3), some (.int l4), some (.int v3), none, none] [] h n _ _
  refine rr_iload C dX11_statement_9 rfl ?_
  refine rr_iconst (v := (-1)) C dX11_statement_11 (by decide) ?_
  refine rr_icmp_ne (tgt := 17) C dX11_statement_12 (by decide) (fun c12_ => ?_) (fun c12_ => ?_)
  · replace hr := (if_neg c12_).symm.trans hr
    refine rr_aload_n (i := 0) C dX11_statement_17 rfl rfl ?_
    refine rr_iload_n (i := 1) C dX11_statement_18 rfl rfl ?_
    refine rr_iload_n (i := 2) C dX11_statement_19 rfl rfl ?_
    replace hr := Option.bind_eq_some_iff.mp hr
    obtain ⟨u5, e6, hr⟩ := hr
    replace hr := Option.bind_eq_some_iff.mp hr
    obtain ⟨v7, e8, hr⟩ := hr
    refine rr_callVq (as := [.int l1, .int l2]) (st := []) (mc' := 0) (ms' := 0) C dX11_statement_20 iv_X11_414 (by decide) e6 rfl (Nat.le_of_ble_eq_true rfl) (c_X11_asks l0 l1 l2 (by omega) e8) (fun v_ h_ n_ q_ => ?_)
    obtain ⟨q1_, q2_, q3_⟩ := q_
    subst v_; subst h_; subst n_
    show WW W0 G 8 _ _ _ 23 [some (.ref l0), some (.int l1), some (.int l2), some (.int l3), some (.int l4), some (.int v3), none, none] [] v7 n _ _
    refine rr_iconst (v := (-1)) C dX11_statement_23 (by decide) ?_
    refine rr_istore C dX11_statement_24 (by decide) ?_
    show WW W0 G 8 _ _ _ 26 [some (.ref l0), some (.int l1), some (.int l2), some (.int l3), some (.int l4), some (.int v3), some (.int (-1)), none] [] v7 n _ _
    refine rr_sipush (v := 300) C dX11_statement_26 (by decide) ?_
    refine rr_iload C dX11_statement_29 rfl ?_
    refine rr_imul C dX11_statement_31 ?_
    refine rr_istore C dX11_statement_32 (by decide) ?_
    show WW W0 G 8 _ _ _ 34 [some (.ref l0), some (.int l1), some (.int l2), some (.int l3), some (.int l4), some (.int v3), some (.int (-1)), some (.int (300 * v3))] [] v7 n _ _
    replace hr := Option.bind_eq_some_iff.mp hr
    obtain ⟨v44, e45, hr⟩ := hr
    refine rr_keep [true, false, false, true, true, true, true, true] (w_X11_statement_34 C (by omega) l0 l3 l4 v3 K (-1) (300 * v3) e45 ?_)
    show WW W0 G 8 _ _ _ 111 [none, none, none, none, none, none, some (.int v44), none] [] v7 n _ _
    refine rr_iload C dX11_statement_111 rfl ?_
    obtain rfl := Option.some.inj hr
    exact rr_iret (ty := .int) C dX11_statement_113 rfl rfl ⟨rfl, rfl, rfl⟩
  · replace hr := (if_pos c12_).symm.trans hr
    refine rr_iconst (v := (-1)) C dX11_statement_15 (by decide) ?_
    obtain rfl := Option.some.inj hr
    exact rr_iret (ty := .int) C dX11_statement_16 rfl rfl ⟨rfl, rfl, rfl⟩
def q_X11_plainOf (K : Nat) (h : mm_H) (n : Nat) (l0 : Nat) (l1 : Int32) (l2 : Int32) (l3 : Int32) (l4 : Int32) : Option (Int32 × mm_H) :=
  (ckq h n l0 10).bind fun u1 =>
  (q_X11_statement K h n l0 l1 l2 l3 0).bind fun v3 =>
  if v3.1 = (-1) then
    some (l4, v3.2)
  else
  (rdR v3.2 n l0 10 39).bind fun v6 =>
  v6.bind fun a8 =>
  (ldI v3.2 n a8 v3.1).bind fun v10 =>
  some (v10, v3.2)
set_option maxRecDepth 100000 in
set_option maxHeartbeats 4000000 in
theorem c_X11_plainOf {K : Nat} {G : mm_G} {l : Launch} {h : mm_H} {n : Nat} (l0 : Nat) (l1 : Int32) (l2 : Int32) (l3 : Int32) (l4 : Int32) {r_ : Int32 × mm_H} (hn : 48 ≤ n) (hr : q_X11_plainOf K h n l0 l1 l2 l3 l4 = some r_) : Sp G l yX11_plainOf cX11_plainOf 6 (some .int) 50 0 0 [.ref l0, .int l1, .int l2, .int l3, .int l4] h n (fun v h' n' => v = some (.int r_.1) ∧ h' = r_.2 ∧ n' = n) := by
  refine Sp_of (by decide +kernel) (Nat.le_of_ble_eq_true rfl) hn ?_
  intro W0 hwl C
  subst hwl
  unfold q_X11_plainOf at hr
  show WW W0 G 6 0 0 _ 0 [some (.ref l0), some (.int l1), some (.int l2), some (.int l3), some (.int l4), none] [] h n 0 0
  refine rr_aload_n (i := 0) C dX11_plainOf_0 rfl rfl ?_
  refine rr_iload_n (i := 1) C dX11_plainOf_1 rfl rfl ?_
  refine rr_iload_n (i := 2) C dX11_plainOf_2 rfl rfl ?_
  refine rr_iload_n (i := 3) C dX11_plainOf_3 rfl rfl ?_
  refine rr_iconst (v := 0) C dX11_plainOf_4 (by decide) ?_
  replace hr := Option.bind_eq_some_iff.mp hr
  obtain ⟨u1, e2, hr⟩ := hr
  replace hr := Option.bind_eq_some_iff.mp hr
  obtain ⟨v3, e4, hr⟩ := hr
  refine rr_callVq (as := [.int l1, .int l2, .int l3, .int 0]) (st := []) (mc' := 0) (ms' := 0) C dX11_plainOf_5 iv_X11_417 (by decide) e2 rfl (Nat.le_of_ble_eq_true rfl) (c_X11_statement l0 l1 l2 l3 0 (by omega) e4) (fun v_ h_ n_ q_ => ?_)
  obtain ⟨q1_, q2_, q3_⟩ := q_
  subst v_; subst h_; subst n_
  show WW W0 G 6 _ _ _ 8 [some (.ref l0), some (.int l1), some (.int l2), some (.int l3), some (.int l4), none] [.int v3.1] v3.2 n _ _
  refine rr_istore C dX11_plainOf_8 (by decide) ?_
  show WW W0 G 6 _ _ _ 10 [some (.ref l0), some (.int l1), some (.int l2), some (.int l3), some (.int l4), some (.int v3.1)] [] v3.2 n _ _
  refine rr_iload C dX11_plainOf_10 rfl ?_
  refine rr_iconst (v := (-1)) C dX11_plainOf_12 (by decide) ?_
  refine rr_icmp_ne (tgt := 21) C dX11_plainOf_13 (by decide) (fun c13_ => ?_) (fun c13_ => ?_)
  · replace hr := (if_neg c13_).symm.trans hr
    refine rr_aload_n (i := 0) C dX11_plainOf_21 rfl rfl ?_
    replace hr := Option.bind_eq_some_iff.mp hr
    obtain ⟨v6, e7, hr⟩ := hr
    refine rr_rdR C dX11_plainOf_22 fl_X11_90 e7 ?_
    refine rr_iload C dX11_plainOf_25 rfl ?_
    replace hr := Option.bind_eq_some_iff.mp hr
    obtain ⟨a8, e9, hr⟩ := hr
    subst e9
    replace hr := Option.bind_eq_some_iff.mp hr
    obtain ⟨v10, e11, hr⟩ := hr
    refine rr_ldI C dX11_plainOf_27 e11 ?_
    obtain rfl := Option.some.inj hr
    exact rr_iret (ty := .int) C dX11_plainOf_28 rfl rfl ⟨rfl, rfl, rfl⟩
  · replace hr := (if_pos c13_).symm.trans hr
    refine rr_iload C dX11_plainOf_16 rfl ?_
    refine rr_goto (tgt := 28) C dX11_plainOf_18 (by decide) ?_
    obtain rfl := Option.some.inj hr
    exact rr_iret (ty := .int) C dX11_plainOf_28 rfl rfl ⟨rfl, rfl, rfl⟩
def lp_X11_prepares_41 (K : Nat) (n : Nat) (l0 : Nat) (l1 : Int32) (l2 : Int32) : Nat → Int32 → mm_H → Option (mm_H)
  | 0, _, _ => none
  | k_ + 1, l3, h =>
    (rdI h n l0 10 8).bind fun v29 =>
    if v29 ≤ l3 then
      some (h)
    else
    (rdR h n l0 10 60).bind fun v31 =>
    v31.bind fun a33 =>
    (ldI h n a33 l2).bind fun v35 =>
    (rdR h n l0 10 11).bind fun v37 =>
    v37.bind fun a39 =>
    (ldI h n a39 l3).bind fun v41 =>
    if v41 = l1 then
      (rdR h n l0 10 13).bind fun v43 =>
      v43.bind fun a45 =>
      (ldI h n a45 l3).bind fun v47 =>
      if l2 ≤ v47 then
        (q_X11_one K h n 0).bind fun v49 =>
        (stI h n a33 l2 (v35 + v49)).bind fun h51 =>
        lp_X11_prepares_41 K n l0 l1 l2 k_ (l3 + 1) h51
      else
      (ckq h n l0 10).bind fun u53 =>
      (q_X11_wasDone K h n l0 l3 l2).bind fun v55 =>
      if v55 = 0 then
        (q_X11_one K h n 1).bind fun v57 =>
        (stI h n a33 l2 (v35 + v57)).bind fun h59 =>
        lp_X11_prepares_41 K n l0 l1 l2 k_ (l3 + 1) h59
      else
      (q_X11_one K h n 0).bind fun v61 =>
      (stI h n a33 l2 (v35 + v61)).bind fun h63 =>
      lp_X11_prepares_41 K n l0 l1 l2 k_ (l3 + 1) h63
    else
    (q_X11_one K h n 0).bind fun v65 =>
    (stI h n a33 l2 (v35 + v65)).bind fun h67 =>
    lp_X11_prepares_41 K n l0 l1 l2 k_ (l3 + 1) h67
def lp_X11_prepares_145 (K : Nat) (h : mm_H) (n : Nat) (l0 : Nat) (l1 : Int32) (l2 : Int32) : Nat → Int64 → Int32 → Option (Int64)
  | 0, _, _ => none
  | k_ + 1, l5, l7 =>
    (rdI h n l0 10 8).bind fun v86 =>
    if v86 ≤ l7 then
      some (l5)
    else
    (rdR h n l0 10 11).bind fun v88 =>
    v88.bind fun a90 =>
    (ldI h n a90 l7).bind fun v92 =>
    if v92 = l1 then
      (rdR h n l0 10 14).bind fun v94 =>
      v94.bind fun a96 =>
      (ldI h n a96 l7).bind fun v98 =>
      if v98 = 5000 then
        lp_X11_prepares_145 K h n l0 l1 l2 k_ l5 (l7 + 1)
      else
      (rdR h n l0 10 14).bind fun v100 =>
      v100.bind fun a102 =>
      (ldI h n a102 l7).bind fun v104 =>
      if (v104 / 100) = l2 then
        (rdR h n l0 10 12).bind fun v106 =>
        v106.bind fun a108 =>
        (ldI h n a108 l7).bind fun v110 =>
        lp_X11_prepares_145 K h n l0 l1 l2 k_ (l5 + (Int32.toInt64 v110)) (l7 + 1)
      else
      lp_X11_prepares_145 K h n l0 l1 l2 k_ l5 (l7 + 1)
    else
    lp_X11_prepares_145 K h n l0 l1 l2 k_ l5 (l7 + 1)
def lp_X11_prepares_14 (K : Nat) (n : Nat) (l0 : Nat) (l1 : Int32) : Nat → Int32 → mm_H → Option (mm_H)
  | 0, _, _ => none
  | k_ + 1, l2, h =>
    if 15 ≤ l2 then
      some (h)
    else
    (rdR h n l0 10 59).bind fun v13 =>
    (ckq h n l0 10).bind fun u15 =>
    (q_X11_homesBy K h n l0 l1 l2).bind fun v17 =>
    v13.bind fun a19 =>
    (stI h n a19 l2 v17).bind fun h21 =>
    (rdR h21 n l0 10 60).bind fun v23 =>
    v23.bind fun a25 =>
    (stI h21 n a25 l2 0).bind fun h27 =>
    (lp_X11_prepares_41 K n l0 l1 l2 K 0 h27).bind fun v69 =>
    (rdR v69 n l0 10 58).bind fun v71 =>
    v71.bind fun a73 =>
    (ldJ v69 n a73 l2).bind fun v75 =>
    (ckq v69 n l0 10).bind fun u77 =>
    (q_X11_plainOf K v69 n l0 l1 l2 4 100).bind fun v79 =>
    (ckq v79.2 n l0 10).bind fun u81 =>
    (q_X11_plainOf K v79.2 n l0 l1 l2 5 0).bind fun v83 =>
    (lp_X11_prepares_145 K v83.2 n l0 l1 l2 K (((v75 * (Int32.toInt64 v79.1)) / 100) - ((v75 * (Int32.toInt64 v83.1)) / 100)) 0).bind fun v113 =>
    (rdR v83.2 n l0 10 58).bind fun v115 =>
    v115.bind fun a117 =>
    (stJ v83.2 n a117 (l2 + 1) v113).bind fun h119 =>
    lp_X11_prepares_14 K n l0 l1 k_ (l2 + 1) h119
def q_X11_prepares (K : Nat) (h : mm_H) (n : Nat) (l0 : Nat) (l1 : Int32) : Option (mm_H) :=
  (rdR h n l0 10 58).bind fun v1 =>
  (rdR h n l0 10 5).bind fun v3 =>
  v3.bind fun a5 =>
  (ldJ h n a5 l1).bind fun v7 =>
  v1.bind fun a9 =>
  (stJ h n a9 0 v7).bind fun h11 =>
  (lp_X11_prepares_14 K n l0 l1 K 0 h11).bind fun v121 =>
  some v121
set_option maxRecDepth 100000 in
set_option maxHeartbeats 4000000 in
theorem w_X11_prepares_41 {K : Nat} {W0 : mm_X} {G : mm_G} {mc ms kc ks : Nat} {Q_ : State → Prop} {n : Nat} (C : mm_C W0 G cX11_prepares yX11_prepares.cls 8 mc ms none 51 yX11_prepares.name) (hn : 48 ≤ n) (l0 : Nat) (l1 : Int32) (l2 : Int32) : ∀ (k_ : Nat) (l3 : Int32) (h : mm_H) {r_ : mm_H} (hr : lp_X11_prepares_41 K n l0 l1 l2 k_ l3 h = some r_) (hx0 : WW W0 G 8 mc ms Q_ 101 [some (.ref l0), some (.int l1), some (.int l2), none, none, none, none, none] [] r_ n kc ks), WW W0 G 8 mc ms Q_ 41 [some (.ref l0), some (.int l1), some (.int l2), some (.int l3), none, none, none, none] [] h n kc ks := by
  intro k_
  induction k_ with
  | zero =>
    intro l3 h r_ hr
    cases hr
  | succ k_ ih_ =>
    intro l3 h r_ hr hx0
    unfold lp_X11_prepares_41 at hr
    refine rr_iload_n (i := 3) C dX11_prepares_41 rfl rfl ?_
    refine rr_aload_n (i := 0) C dX11_prepares_42 rfl rfl ?_
    replace hr := Option.bind_eq_some_iff.mp hr
    obtain ⟨v29, e30, hr⟩ := hr
    refine rr_rdI C dX11_prepares_43 fl_X11_202 e30 ?_
    refine rr_icmp_ge (tgt := 101) C dX11_prepares_46 (by decide) (fun c46_ => ?_) (fun c46_ => ?_)
    · replace hr := (if_pos c46_).symm.trans hr
      obtain rfl := Option.some.inj hr
      exact rr_keep [true, true, true, false, false, false, false, false] (hx0)
    · replace hr := (if_neg c46_).symm.trans hr
      refine rr_aload_n (i := 0) C dX11_prepares_49 rfl rfl ?_
      replace hr := Option.bind_eq_some_iff.mp hr
      obtain ⟨v31, e32, hr⟩ := hr
      refine rr_rdR C dX11_prepares_50 fl_X11_147 e32 ?_
      refine rr_iload_n (i := 2) C dX11_prepares_53 rfl rfl ?_
      refine rr_dup2 C dX11_prepares_54 rfl (rf_cat _) ?_
      replace hr := Option.bind_eq_some_iff.mp hr
      obtain ⟨a33, e34, hr⟩ := hr
      subst e34
      replace hr := Option.bind_eq_some_iff.mp hr
      obtain ⟨v35, e36, hr⟩ := hr
      refine rr_ldI C dX11_prepares_55 e36 ?_
      refine rr_aload_n (i := 0) C dX11_prepares_56 rfl rfl ?_
      replace hr := Option.bind_eq_some_iff.mp hr
      obtain ⟨v37, e38, hr⟩ := hr
      refine rr_rdR C dX11_prepares_57 fl_X11_26 e38 ?_
      refine rr_iload_n (i := 3) C dX11_prepares_60 rfl rfl ?_
      replace hr := Option.bind_eq_some_iff.mp hr
      obtain ⟨a39, e40, hr⟩ := hr
      subst e40
      replace hr := Option.bind_eq_some_iff.mp hr
      obtain ⟨v41, e42, hr⟩ := hr
      refine rr_ldI C dX11_prepares_61 e42 ?_
      refine rr_iload_n (i := 1) C dX11_prepares_62 rfl rfl ?_
      refine rr_icmp_ne (tgt := 89) C dX11_prepares_63 (by decide) (fun c63_ => ?_) (fun c63_ => ?_)
      · replace hr := (if_neg c63_).symm.trans hr
        refine rr_iconst (v := 0) C dX11_prepares_89 (by decide) ?_
        replace hr := Option.bind_eq_some_iff.mp hr
        obtain ⟨v65, e66, hr⟩ := hr
        refine rr_callS (as := [.int 0]) (st := [.int v35, .int l2, .ref a33]) (mc' := 0) (ms' := 0) C dX11_prepares_90 it_X11_426 (by decide) (Nat.le_of_ble_eq_true rfl) (c_X11_one 0 (by omega) e66) (fun v_ h_ n_ q_ => ?_)
        obtain ⟨q1_, q2_, q3_⟩ := q_
        subst v_; subst h_; subst n_
        show WW W0 G 8 _ _ _ 93 [some (.ref l0), some (.int l1), some (.int l2), some (.int l3), none, none, none, none] [.int v65, .int v35, .int l2, .ref a33] h n _ _
        refine rr_iadd C dX11_prepares_93 ?_
        replace hr := Option.bind_eq_some_iff.mp hr
        obtain ⟨h67, e68, hr⟩ := hr
        refine rr_stI C dX11_prepares_94 e68 ?_
        refine rr_iinc (v := l3 + 1) C dX11_prepares_95 rfl rfl ?_
        show WW W0 G 8 _ _ _ 98 [some (.ref l0), some (.int l1), some (.int l2), some (.int (l3 + 1)), none, none, none, none] [] h67 n _ _
        refine rr_goto (tgt := 41) C dX11_prepares_98 (by decide) ?_
        exact rr_keep [true, true, true, true, false, false, false, false] (ih_ _ _ hr hx0)
      · replace hr := (if_pos c63_).symm.trans hr
        refine rr_aload_n (i := 0) C dX11_prepares_66 rfl rfl ?_
        replace hr := Option.bind_eq_some_iff.mp hr
        obtain ⟨v43, e44, hr⟩ := hr
        refine rr_rdR C dX11_prepares_67 fl_X11_32 e44 ?_
        refine rr_iload_n (i := 3) C dX11_prepares_70 rfl rfl ?_
        replace hr := Option.bind_eq_some_iff.mp hr
        obtain ⟨a45, e46, hr⟩ := hr
        subst e46
        replace hr := Option.bind_eq_some_iff.mp hr
        obtain ⟨v47, e48, hr⟩ := hr
        refine rr_ldI C dX11_prepares_71 e48 ?_
        refine rr_iload_n (i := 2) C dX11_prepares_72 rfl rfl ?_
        refine rr_icmp_ge (tgt := 89) C dX11_prepares_73 (by decide) (fun c73_ => ?_) (fun c73_ => ?_)
        · replace hr := (if_pos c73_).symm.trans hr
          refine rr_iconst (v := 0) C dX11_prepares_89 (by decide) ?_
          replace hr := Option.bind_eq_some_iff.mp hr
          obtain ⟨v49, e50, hr⟩ := hr
          refine rr_callS (as := [.int 0]) (st := [.int v35, .int l2, .ref a33]) (mc' := 0) (ms' := 0) C dX11_prepares_90 it_X11_426 (by decide) (Nat.le_of_ble_eq_true rfl) (c_X11_one 0 (by omega) e50) (fun v_ h_ n_ q_ => ?_)
          obtain ⟨q1_, q2_, q3_⟩ := q_
          subst v_; subst h_; subst n_
          show WW W0 G 8 _ _ _ 93 [some (.ref l0), some (.int l1), some (.int l2), some (.int l3), none, none, none, none] [.int v49, .int v35, .int l2, .ref a33] h n _ _
          refine rr_iadd C dX11_prepares_93 ?_
          replace hr := Option.bind_eq_some_iff.mp hr
          obtain ⟨h51, e52, hr⟩ := hr
          refine rr_stI C dX11_prepares_94 e52 ?_
          refine rr_iinc (v := l3 + 1) C dX11_prepares_95 rfl rfl ?_
          show WW W0 G 8 _ _ _ 98 [some (.ref l0), some (.int l1), some (.int l2), some (.int (l3 + 1)), none, none, none, none] [] h51 n _ _
          refine rr_goto (tgt := 41) C dX11_prepares_98 (by decide) ?_
          exact rr_keep [true, true, true, true, false, false, false, false] (ih_ _ _ hr hx0)
        · replace hr := (if_neg c73_).symm.trans hr
          refine rr_aload_n (i := 0) C dX11_prepares_76 rfl rfl ?_
          refine rr_iload_n (i := 3) C dX11_prepares_77 rfl rfl ?_
          refine rr_iload_n (i := 2) C dX11_prepares_78 rfl rfl ?_
          replace hr := Option.bind_eq_some_iff.mp hr
          obtain ⟨u53, e54, hr⟩ := hr
          replace hr := Option.bind_eq_some_iff.mp hr
          obtain ⟨v55, e56, hr⟩ := hr
          refine rr_callVq (as := [.int l3, .int l2]) (st := [.int v35, .int l2, .ref a33]) (mc' := 0) (ms' := 0) C dX11_prepares_79 iv_X11_423 (by decide) e54 rfl (Nat.le_of_ble_eq_true rfl) (c_X11_wasDone l0 l3 l2 (by omega) e56) (fun v_ h_ n_ q_ => ?_)
          obtain ⟨q1_, q2_, q3_⟩ := q_
          subst v_; subst h_; subst n_
          show WW W0 G 8 _ _ _ 82 [some (.ref l0), some (.int l1), some (.int l2), some (.int l3), none, none, none, none] [.int v55, .int v35, .int l2, .ref a33] h n _ _
          refine rr_if_ne (tgt := 89) C dX11_prepares_82 (by decide) (fun c82_ => ?_) (fun c82_ => ?_)
          · replace hr := (if_neg c82_).symm.trans hr
            refine rr_iconst (v := 0) C dX11_prepares_89 (by decide) ?_
            replace hr := Option.bind_eq_some_iff.mp hr
            obtain ⟨v61, e62, hr⟩ := hr
            refine rr_callS (as := [.int 0]) (st := [.int v35, .int l2, .ref a33]) (mc' := 0) (ms' := 0) C dX11_prepares_90 it_X11_426 (by decide) (Nat.le_of_ble_eq_true rfl) (c_X11_one 0 (by omega) e62) (fun v_ h_ n_ q_ => ?_)
            obtain ⟨q1_, q2_, q3_⟩ := q_
            subst v_; subst h_; subst n_
            show WW W0 G 8 _ _ _ 93 [some (.ref l0), some (.int l1), some (.int l2), some (.int l3), none, none, none, none] [.int v61, .int v35, .int l2, .ref a33] h n _ _
            refine rr_iadd C dX11_prepares_93 ?_
            replace hr := Option.bind_eq_some_iff.mp hr
            obtain ⟨h63, e64, hr⟩ := hr
            refine rr_stI C dX11_prepares_94 e64 ?_
            refine rr_iinc (v := l3 + 1) C dX11_prepares_95 rfl rfl ?_
            show WW W0 G 8 _ _ _ 98 [some (.ref l0), some (.int l1), some (.int l2), some (.int (l3 + 1)), none, none, none, none] [] h63 n _ _
            refine rr_goto (tgt := 41) C dX11_prepares_98 (by decide) ?_
            exact rr_keep [true, true, true, true, false, false, false, false] (ih_ _ _ hr hx0)
          · replace hr := (if_pos c82_).symm.trans hr
            refine rr_iconst (v := 1) C dX11_prepares_85 (by decide) ?_
            refine rr_goto (tgt := 90) C dX11_prepares_86 (by decide) ?_
            replace hr := Option.bind_eq_some_iff.mp hr
            obtain ⟨v57, e58, hr⟩ := hr
            refine rr_callS (as := [.int 1]) (st := [.int v35, .int l2, .ref a33]) (mc' := 0) (ms' := 0) C dX11_prepares_90 it_X11_426 (by decide) (Nat.le_of_ble_eq_true rfl) (c_X11_one 1 (by omega) e58) (fun v_ h_ n_ q_ => ?_)
            obtain ⟨q1_, q2_, q3_⟩ := q_
            subst v_; subst h_; subst n_
            show WW W0 G 8 _ _ _ 93 [some (.ref l0), some (.int l1), some (.int l2), some (.int l3), none, none, none, none] [.int v57, .int v35, .int l2, .ref a33] h n _ _
            refine rr_iadd C dX11_prepares_93 ?_
            replace hr := Option.bind_eq_some_iff.mp hr
            obtain ⟨h59, e60, hr⟩ := hr
            refine rr_stI C dX11_prepares_94 e60 ?_
            refine rr_iinc (v := l3 + 1) C dX11_prepares_95 rfl rfl ?_
            show WW W0 G 8 _ _ _ 98 [some (.ref l0), some (.int l1), some (.int l2), some (.int (l3 + 1)), none, none, none, none] [] h59 n _ _
            refine rr_goto (tgt := 41) C dX11_prepares_98 (by decide) ?_
            exact rr_keep [true, true, true, true, false, false, false, false] (ih_ _ _ hr hx0)
set_option maxRecDepth 100000 in
set_option maxHeartbeats 4000000 in
theorem w_X11_prepares_145 {K : Nat} {W0 : mm_X} {G : mm_G} {mc ms kc ks : Nat} {Q_ : State → Prop} {h : mm_H} {n : Nat} (C : mm_C W0 G cX11_prepares yX11_prepares.cls 8 mc ms none 51 yX11_prepares.name) (hn : 48 ≤ n) (l0 : Nat) (l1 : Int32) (l2 : Int32) : ∀ (k_ : Nat) (l5 : Int64) (l7 : Int32) {r_ : Int64} (hr : lp_X11_prepares_145 K h n l0 l1 l2 k_ l5 l7 = some r_) (hx0 : WW W0 G 8 mc ms Q_ 211 [some (.ref l0), some (.int l1), some (.int l2), none, none, some (.long r_), none, none] [] h n kc ks), WW W0 G 8 mc ms Q_ 145 [some (.ref l0), some (.int l1), some (.int l2), none, none, some (.long l5), none, some (.int l7)] [] h n kc ks := by
  intro k_
  induction k_ with
  | zero =>
    intro l5 l7 r_ hr
    cases hr
  | succ k_ ih_ =>
    intro l5 l7 r_ hr hx0
    unfold lp_X11_prepares_145 at hr
    refine rr_iload C dX11_prepares_145 rfl ?_
    refine rr_aload_n (i := 0) C dX11_prepares_147 rfl rfl ?_
    replace hr := Option.bind_eq_some_iff.mp hr
    obtain ⟨v86, e87, hr⟩ := hr
    refine rr_rdI C dX11_prepares_148 fl_X11_202 e87 ?_
    refine rr_icmp_ge (tgt := 211) C dX11_prepares_151 (by decide) (fun c151_ => ?_) (fun c151_ => ?_)
    · replace hr := (if_pos c151_).symm.trans hr
      obtain rfl := Option.some.inj hr
      exact rr_keep [true, true, true, false, false, true, false, false] (hx0)
    · replace hr := (if_neg c151_).symm.trans hr
      refine rr_aload_n (i := 0) C dX11_prepares_154 rfl rfl ?_
      replace hr := Option.bind_eq_some_iff.mp hr
      obtain ⟨v88, e89, hr⟩ := hr
      refine rr_rdR C dX11_prepares_155 fl_X11_26 e89 ?_
      refine rr_iload C dX11_prepares_158 rfl ?_
      replace hr := Option.bind_eq_some_iff.mp hr
      obtain ⟨a90, e91, hr⟩ := hr
      subst e91
      replace hr := Option.bind_eq_some_iff.mp hr
      obtain ⟨v92, e93, hr⟩ := hr
      refine rr_ldI C dX11_prepares_160 e93 ?_
      refine rr_iload_n (i := 1) C dX11_prepares_161 rfl rfl ?_
      refine rr_icmp_ne (tgt := 205) C dX11_prepares_162 (by decide) (fun c162_ => ?_) (fun c162_ => ?_)
      · replace hr := (if_neg c162_).symm.trans hr
        refine rr_iinc (v := l7 + 1) C dX11_prepares_205 rfl rfl ?_
        show WW W0 G 8 _ _ _ 208 [some (.ref l0), some (.int l1), some (.int l2), none, none, some (.long l5), none, some (.int (l7 + 1))] [] h n _ _
        refine rr_goto (tgt := 145) C dX11_prepares_208 (by decide) ?_
        exact rr_keep [true, true, true, false, false, true, false, true] (ih_ _ _ hr hx0)
      · replace hr := (if_pos c162_).symm.trans hr
        refine rr_aload_n (i := 0) C dX11_prepares_165 rfl rfl ?_
        replace hr := Option.bind_eq_some_iff.mp hr
        obtain ⟨v94, e95, hr⟩ := hr
        refine rr_rdR C dX11_prepares_166 fl_X11_35 e95 ?_
        refine rr_iload C dX11_prepares_169 rfl ?_
        replace hr := Option.bind_eq_some_iff.mp hr
        obtain ⟨a96, e97, hr⟩ := hr
        subst e97
        replace hr := Option.bind_eq_some_iff.mp hr
        obtain ⟨v98, e99, hr⟩ := hr
        refine rr_ldI C dX11_prepares_171 e99 ?_
        refine rr_sipush (v := 5000) C dX11_prepares_172 (by decide) ?_
        refine rr_icmp_eq (tgt := 205) C dX11_prepares_175 (by decide) (fun c175_ => ?_) (fun c175_ => ?_)
        · replace hr := (if_pos c175_).symm.trans hr
          refine rr_iinc (v := l7 + 1) C dX11_prepares_205 rfl rfl ?_
          show WW W0 G 8 _ _ _ 208 [some (.ref l0), some (.int l1), some (.int l2), none, none, some (.long l5), none, some (.int (l7 + 1))] [] h n _ _
          refine rr_goto (tgt := 145) C dX11_prepares_208 (by decide) ?_
          exact rr_keep [true, true, true, false, false, true, false, true] (ih_ _ _ hr hx0)
        · replace hr := (if_neg c175_).symm.trans hr
          refine rr_aload_n (i := 0) C dX11_prepares_178 rfl rfl ?_
          replace hr := Option.bind_eq_some_iff.mp hr
          obtain ⟨v100, e101, hr⟩ := hr
          refine rr_rdR C dX11_prepares_179 fl_X11_35 e101 ?_
          refine rr_iload C dX11_prepares_182 rfl ?_
          replace hr := Option.bind_eq_some_iff.mp hr
          obtain ⟨a102, e103, hr⟩ := hr
          subst e103
          replace hr := Option.bind_eq_some_iff.mp hr
          obtain ⟨v104, e105, hr⟩ := hr
          refine rr_ldI C dX11_prepares_184 e105 ?_
          refine rr_bipush (v := 100) C dX11_prepares_185 (by decide) ?_
          refine rr_idiv C dX11_prepares_187 (by decide) ?_
          refine rr_iload_n (i := 2) C dX11_prepares_188 rfl rfl ?_
          refine rr_icmp_ne (tgt := 205) C dX11_prepares_189 (by decide) (fun c189_ => ?_) (fun c189_ => ?_)
          · replace hr := (if_neg c189_).symm.trans hr
            refine rr_iinc (v := l7 + 1) C dX11_prepares_205 rfl rfl ?_
            show WW W0 G 8 _ _ _ 208 [some (.ref l0), some (.int l1), some (.int l2), none, none, some (.long l5), none, some (.int (l7 + 1))] [] h n _ _
            refine rr_goto (tgt := 145) C dX11_prepares_208 (by decide) ?_
            exact rr_keep [true, true, true, false, false, true, false, true] (ih_ _ _ hr hx0)
          · replace hr := (if_pos c189_).symm.trans hr
            refine rr_lload C dX11_prepares_192 rfl ?_
            refine rr_aload_n (i := 0) C dX11_prepares_194 rfl rfl ?_
            replace hr := Option.bind_eq_some_iff.mp hr
            obtain ⟨v106, e107, hr⟩ := hr
            refine rr_rdR C dX11_prepares_195 fl_X11_29 e107 ?_
            refine rr_iload C dX11_prepares_198 rfl ?_
            replace hr := Option.bind_eq_some_iff.mp hr
            obtain ⟨a108, e109, hr⟩ := hr
            subst e109
            replace hr := Option.bind_eq_some_iff.mp hr
            obtain ⟨v110, e111, hr⟩ := hr
            refine rr_ldI C dX11_prepares_200 e111 ?_
            refine rr_i2l C dX11_prepares_201 ?_
            refine rr_ladd C dX11_prepares_202 ?_
            refine rr_lstore C dX11_prepares_203 (by decide) ?_
            show WW W0 G 8 _ _ _ 205 [some (.ref l0), some (.int l1), some (.int l2), none, none, some (.long (l5 + (Int32.toInt64 v110))), none, some (.int l7)] [] h n _ _
            refine rr_iinc (v := l7 + 1) C dX11_prepares_205 rfl rfl ?_
            show WW W0 G 8 _ _ _ 208 [some (.ref l0), some (.int l1), some (.int l2), none, none, some (.long (l5 + (Int32.toInt64 v110))), none, some (.int (l7 + 1))] [] h n _ _
            refine rr_goto (tgt := 145) C dX11_prepares_208 (by decide) ?_
            exact rr_keep [true, true, true, false, false, true, false, true] (ih_ _ _ hr hx0)
set_option maxRecDepth 100000 in
set_option maxHeartbeats 4000000 in
theorem w_X11_prepares_14 {K : Nat} {W0 : mm_X} {G : mm_G} {mc ms kc ks : Nat} {Q_ : State → Prop} {n : Nat} (C : mm_C W0 G cX11_prepares yX11_prepares.cls 8 mc ms none 51 yX11_prepares.name) (hn : 48 ≤ n) (l0 : Nat) (l1 : Int32) : ∀ (k_ : Nat) (l2 : Int32) (h : mm_H) {r_ : mm_H} (hr : lp_X11_prepares_14 K n l0 l1 k_ l2 h = some r_) (hx0 : WW W0 G 8 mc ms Q_ 227 [none, none, none, none, none, none, none, none] [] r_ n kc ks), WW W0 G 8 mc ms Q_ 14 [some (.ref l0), some (.int l1), some (.int l2), none, none, none, none, none] [] h n kc ks := by
  intro k_
  induction k_ with
  | zero =>
    intro l2 h r_ hr
    cases hr
  | succ k_ ih_ =>
    intro l2 h r_ hr hx0
    unfold lp_X11_prepares_14 at hr
    refine rr_iload_n (i := 2) C dX11_prepares_14 rfl rfl ?_
    refine rr_bipush (v := 15) C dX11_prepares_15 (by decide) ?_
    refine rr_icmp_ge (tgt := 227) C dX11_prepares_17 (by decide) (fun c17_ => ?_) (fun c17_ => ?_)
    · replace hr := (if_pos c17_).symm.trans hr
      obtain rfl := Option.some.inj hr
      exact rr_keep [false, false, false, false, false, false, false, false] (hx0)
    · replace hr := (if_neg c17_).symm.trans hr
      refine rr_aload_n (i := 0) C dX11_prepares_20 rfl rfl ?_
      replace hr := Option.bind_eq_some_iff.mp hr
      obtain ⟨v13, e14, hr⟩ := hr
      refine rr_rdR C dX11_prepares_21 fl_X11_144 e14 ?_
      refine rr_iload_n (i := 2) C dX11_prepares_24 rfl rfl ?_
      refine rr_aload_n (i := 0) C dX11_prepares_25 rfl rfl ?_
      refine rr_iload_n (i := 1) C dX11_prepares_26 rfl rfl ?_
      refine rr_iload_n (i := 2) C dX11_prepares_27 rfl rfl ?_
      replace hr := Option.bind_eq_some_iff.mp hr
      obtain ⟨u15, e16, hr⟩ := hr
      replace hr := Option.bind_eq_some_iff.mp hr
      obtain ⟨v17, e18, hr⟩ := hr
      refine rr_callVq (as := [.int l1, .int l2]) (st := [.int l2, va_rf v13]) (mc' := 0) (ms' := 0) C dX11_prepares_28 iv_X11_420 (by decide) e16 rfl (by rcases v13 with _ | _ <;> exact Nat.le_of_ble_eq_true rfl) (c_X11_homesBy l0 l1 l2 (by omega) e18) (fun v_ h_ n_ q_ => ?_)
      obtain ⟨q1_, q2_, q3_⟩ := q_
      subst v_; subst h_; subst n_
      show WW W0 G 8 _ _ _ 31 [some (.ref l0), some (.int l1), some (.int l2), none, none, none, none, none] [.int v17, .int l2, va_rf v13] h n _ _
      replace hr := Option.bind_eq_some_iff.mp hr
      obtain ⟨a19, e20, hr⟩ := hr
      subst e20
      replace hr := Option.bind_eq_some_iff.mp hr
      obtain ⟨h21, e22, hr⟩ := hr
      refine rr_stI C dX11_prepares_31 e22 ?_
      refine rr_aload_n (i := 0) C dX11_prepares_32 rfl rfl ?_
      replace hr := Option.bind_eq_some_iff.mp hr
      obtain ⟨v23, e24, hr⟩ := hr
      refine rr_rdR C dX11_prepares_33 fl_X11_147 e24 ?_
      refine rr_iload_n (i := 2) C dX11_prepares_36 rfl rfl ?_
      refine rr_iconst (v := 0) C dX11_prepares_37 (by decide) ?_
      replace hr := Option.bind_eq_some_iff.mp hr
      obtain ⟨a25, e26, hr⟩ := hr
      subst e26
      replace hr := Option.bind_eq_some_iff.mp hr
      obtain ⟨h27, e28, hr⟩ := hr
      refine rr_stI C dX11_prepares_38 e28 ?_
      refine rr_iconst (v := 0) C dX11_prepares_39 (by decide) ?_
      refine rr_istore_n (i := 3) C dX11_prepares_40 rfl (by decide) ?_
      show WW W0 G 8 _ _ _ 41 [some (.ref l0), some (.int l1), some (.int l2), some (.int 0), none, none, none, none] [] h27 n _ _
      replace hr := Option.bind_eq_some_iff.mp hr
      obtain ⟨v69, e70, hr⟩ := hr
      refine rr_keep [true, true, true, true, false, false, false, false] (w_X11_prepares_41 C (by omega) l0 l1 l2 K 0 h27 e70 ?_)
      show WW W0 G 8 _ _ _ 101 [some (.ref l0), some (.int l1), some (.int l2), none, none, none, none, none] [] v69 n _ _
      refine rr_aload_n (i := 0) C dX11_prepares_101 rfl rfl ?_
      replace hr := Option.bind_eq_some_iff.mp hr
      obtain ⟨v71, e72, hr⟩ := hr
      refine rr_rdR C dX11_prepares_102 fl_X11_141 e72 ?_
      refine rr_iload_n (i := 2) C dX11_prepares_105 rfl rfl ?_
      replace hr := Option.bind_eq_some_iff.mp hr
      obtain ⟨a73, e74, hr⟩ := hr
      subst e74
      replace hr := Option.bind_eq_some_iff.mp hr
      obtain ⟨v75, e76, hr⟩ := hr
      refine rr_ldJ C dX11_prepares_106 e76 ?_
      refine rr_lstore_n (i := 3) C dX11_prepares_107 rfl (by decide) ?_
      show WW W0 G 8 _ _ _ 108 [some (.ref l0), some (.int l1), some (.int l2), some (.long v75), none, none, none, none] [] v69 n _ _
      refine rr_lload_n (i := 3) C dX11_prepares_108 rfl rfl ?_
      refine rr_aload_n (i := 0) C dX11_prepares_109 rfl rfl ?_
      refine rr_iload_n (i := 1) C dX11_prepares_110 rfl rfl ?_
      refine rr_iload_n (i := 2) C dX11_prepares_111 rfl rfl ?_
      refine rr_iconst (v := 4) C dX11_prepares_112 (by decide) ?_
      refine rr_bipush (v := 100) C dX11_prepares_113 (by decide) ?_
      replace hr := Option.bind_eq_some_iff.mp hr
      obtain ⟨u77, e78, hr⟩ := hr
      replace hr := Option.bind_eq_some_iff.mp hr
      obtain ⟨v79, e80, hr⟩ := hr
      refine rr_callVq (as := [.int l1, .int l2, .int 4, .int 100]) (st := [.long v75]) (mc' := 0) (ms' := 0) C dX11_prepares_115 iv_X11_430 (by decide) e78 rfl (Nat.le_of_ble_eq_true rfl) (c_X11_plainOf l0 l1 l2 4 100 (by omega) e80) (fun v_ h_ n_ q_ => ?_)
      obtain ⟨q1_, q2_, q3_⟩ := q_
      subst v_; subst h_; subst n_
      show WW W0 G 8 _ _ _ 118 [some (.ref l0), some (.int l1), some (.int l2), some (.long v75), none, none, none, none] [.int v79.1, .long v75] v79.2 n _ _
      refine rr_i2l C dX11_prepares_118 ?_
      refine rr_lmul C dX11_prepares_119 ?_
      refine rr_ldc2 C dX11_prepares_120 ct_X11_433 ?_
      refine rr_ldiv C dX11_prepares_123 (by decide) ?_
      refine rr_lload_n (i := 3) C dX11_prepares_124 rfl rfl ?_
      refine rr_aload_n (i := 0) C dX11_prepares_125 rfl rfl ?_
      refine rr_iload_n (i := 1) C dX11_prepares_126 rfl rfl ?_
      refine rr_iload_n (i := 2) C dX11_prepares_127 rfl rfl ?_
      refine rr_iconst (v := 5) C dX11_prepares_128 (by decide) ?_
      refine rr_iconst (v := 0) C dX11_prepares_129 (by decide) ?_
      replace hr := Option.bind_eq_some_iff.mp hr
      obtain ⟨u81, e82, hr⟩ := hr
      replace hr := Option.bind_eq_some_iff.mp hr
      obtain ⟨v83, e84, hr⟩ := hr
      refine rr_callVq (as := [.int l1, .int l2, .int 5, .int 0]) (st := [.long v75, .long ((v75 * (Int32.toInt64 v79.1)) / 100)]) (mc' := 0) (ms' := 0) C dX11_prepares_130 iv_X11_430 (by decide) e82 rfl (Nat.le_of_ble_eq_true rfl) (c_X11_plainOf l0 l1 l2 5 0 (by omega) e84) (fun v_ h_ n_ q_ => ?_)
      obtain ⟨q1_, q2_, q3_⟩ := q_
      subst v_; subst h_; subst n_
      show WW W0 G 8 _ _ _ 133 [some (.ref l0), some (.int l1), some (.int l2), some (.long v75), none, none, none, none] [.int v83.1, .long v75, .long ((v75 * (Int32.toInt64 v79.1)) / 100)] v83.2 n _ _
      refine rr_i2l C dX11_prepares_133 ?_
      refine rr_lmul C dX11_prepares_134 ?_
      refine rr_ldc2 C dX11_prepares_135 ct_X11_433 ?_
      refine rr_ldiv C dX11_prepares_138 (by decide) ?_
      refine rr_lsub C dX11_prepares_139 ?_
      refine rr_lstore C dX11_prepares_140 (by decide) ?_
      show WW W0 G 8 _ _ _ 142 [some (.ref l0), some (.int l1), some (.int l2), some (.long v75), none, some (.long (((v75 * (Int32.toInt64 v79.1)) / 100) - ((v75 * (Int32.toInt64 v83.1)) / 100))), none, none] [] v83.2 n _ _
      refine rr_iconst (v := 0) C dX11_prepares_142 (by decide) ?_
      refine rr_istore C dX11_prepares_143 (by decide) ?_
      show WW W0 G 8 _ _ _ 145 [some (.ref l0), some (.int l1), some (.int l2), some (.long v75), none, some (.long (((v75 * (Int32.toInt64 v79.1)) / 100) - ((v75 * (Int32.toInt64 v83.1)) / 100))), none, some (.int 0)] [] v83.2 n _ _
      replace hr := Option.bind_eq_some_iff.mp hr
      obtain ⟨v113, e114, hr⟩ := hr
      refine rr_keep [true, true, true, false, false, true, false, true] (w_X11_prepares_145 C (by omega) l0 l1 l2 K (((v75 * (Int32.toInt64 v79.1)) / 100) - ((v75 * (Int32.toInt64 v83.1)) / 100)) 0 e114 ?_)
      show WW W0 G 8 _ _ _ 211 [some (.ref l0), some (.int l1), some (.int l2), none, none, some (.long v113), none, none] [] v83.2 n _ _
      refine rr_aload_n (i := 0) C dX11_prepares_211 rfl rfl ?_
      replace hr := Option.bind_eq_some_iff.mp hr
      obtain ⟨v115, e116, hr⟩ := hr
      refine rr_rdR C dX11_prepares_212 fl_X11_141 e116 ?_
      refine rr_iload_n (i := 2) C dX11_prepares_215 rfl rfl ?_
      refine rr_iconst (v := 1) C dX11_prepares_216 (by decide) ?_
      refine rr_iadd C dX11_prepares_217 ?_
      refine rr_lload C dX11_prepares_218 rfl ?_
      replace hr := Option.bind_eq_some_iff.mp hr
      obtain ⟨a117, e118, hr⟩ := hr
      subst e118
      replace hr := Option.bind_eq_some_iff.mp hr
      obtain ⟨h119, e120, hr⟩ := hr
      refine rr_stJ C dX11_prepares_220 e120 ?_
      refine rr_iinc (v := l2 + 1) C dX11_prepares_221 rfl rfl ?_
      show WW W0 G 8 _ _ _ 224 [some (.ref l0), some (.int l1), some (.int (l2 + 1)), none, none, some (.long v113), none, none] [] h119 n _ _
      refine rr_goto (tgt := 14) C dX11_prepares_224 (by decide) ?_
      exact rr_keep [true, true, true, false, false, false, false, false] (ih_ _ _ hr hx0)
set_option maxRecDepth 100000 in
set_option maxHeartbeats 4000000 in
theorem c_X11_prepares {K : Nat} {G : mm_G} {l : Launch} {h : mm_H} {n : Nat} (l0 : Nat) (l1 : Int32) {r_ : mm_H} (hn : 48 ≤ n) (hr : q_X11_prepares K h n l0 l1 = some r_) : Sp G l yX11_prepares cX11_prepares 8 none 51 0 0 [.ref l0, .int l1] h n (fun v h' n' => v = none ∧ h' = r_ ∧ n' = n) := by
  refine Sp_of (by decide +kernel) (Nat.le_of_ble_eq_true rfl) hn ?_
  intro W0 hwl C
  subst hwl
  unfold q_X11_prepares at hr
  show WW W0 G 8 0 0 _ 0 [some (.ref l0), some (.int l1), none, none, none, none, none, none] [] h n 0 0
  refine rr_aload_n (i := 0) C dX11_prepares_0 rfl rfl ?_
  replace hr := Option.bind_eq_some_iff.mp hr
  obtain ⟨v1, e2, hr⟩ := hr
  refine rr_rdR C dX11_prepares_1 fl_X11_141 e2 ?_
  refine rr_iconst (v := 0) C dX11_prepares_4 (by decide) ?_
  refine rr_aload_n (i := 0) C dX11_prepares_5 rfl rfl ?_
  replace hr := Option.bind_eq_some_iff.mp hr
  obtain ⟨v3, e4, hr⟩ := hr
  refine rr_rdR C dX11_prepares_6 fl_X11_16 e4 ?_
  refine rr_iload_n (i := 1) C dX11_prepares_9 rfl rfl ?_
  replace hr := Option.bind_eq_some_iff.mp hr
  obtain ⟨a5, e6, hr⟩ := hr
  subst e6
  replace hr := Option.bind_eq_some_iff.mp hr
  obtain ⟨v7, e8, hr⟩ := hr
  refine rr_ldJ C dX11_prepares_10 e8 ?_
  replace hr := Option.bind_eq_some_iff.mp hr
  obtain ⟨a9, e10, hr⟩ := hr
  subst e10
  replace hr := Option.bind_eq_some_iff.mp hr
  obtain ⟨h11, e12, hr⟩ := hr
  refine rr_stJ C dX11_prepares_11 e12 ?_
  refine rr_iconst (v := 0) C dX11_prepares_12 (by decide) ?_
  refine rr_istore_n (i := 2) C dX11_prepares_13 rfl (by decide) ?_
  show WW W0 G 8 _ _ _ 14 [some (.ref l0), some (.int l1), some (.int 0), none, none, none, none, none] [] h11 n _ _
  replace hr := Option.bind_eq_some_iff.mp hr
  obtain ⟨v121, e122, hr⟩ := hr
  refine rr_keep [true, true, true, false, false, false, false, false] (w_X11_prepares_14 C (by omega) l0 l1 K 0 h11 e122 ?_)
  show WW W0 G 8 _ _ _ 227 [none, none, none, none, none, none, none, none] [] v121 n _ _
  obtain rfl := Option.some.inj hr
  exact rr_vret C dX11_prepares_227 rfl ⟨rfl, rfl, rfl⟩
def q_X11_isKind (K : Nat) (h : mm_H) (n : Nat) (l0 : Int32) (l1 : Int32) : Option (Int32) :=
  if 2 ≤ l0 then
    if l0 = 2 then
      (q_X11_isIn K h n l1 0 2).bind fun v1 =>
      (ckz v1).bind fun u3 =>
      some v1
    else
    some 1
  else
  (q_X11_isHead K h n l1).bind fun v5 =>
  (ckz v5).bind fun u7 =>
  some v5
set_option maxRecDepth 100000 in
set_option maxHeartbeats 4000000 in
theorem c_X11_isKind {K : Nat} {G : mm_G} {l : Launch} {h : mm_H} {n : Nat} (l0 : Int32) (l1 : Int32) {r_ : Int32} (hn : 48 ≤ n) (hr : q_X11_isKind K h n l0 l1 = some r_) : Sp G l yX11_isKind cX11_isKind 2 (some .boolean) 2 0 0 [.int l0, .int l1] h n (fun v h' n' => v = some (.int r_) ∧ h' = h ∧ n' = n) := by
  refine Sp_of (by decide +kernel) (Nat.le_of_ble_eq_true rfl) hn ?_
  intro W0 hwl C
  subst hwl
  unfold q_X11_isKind at hr
  show WW W0 G 2 0 0 _ 0 [some (.int l0), some (.int l1)] [] h n 0 0
  refine rr_iload_n (i := 0) C dX11_isKind_0 rfl rfl ?_
  refine rr_iconst (v := 2) C dX11_isKind_1 (by decide) ?_
  refine rr_icmp_ge (tgt := 12) C dX11_isKind_2 (by decide) (fun c2_ => ?_) (fun c2_ => ?_)
  · replace hr := (if_pos c2_).symm.trans hr
    refine rr_iload_n (i := 0) C dX11_isKind_12 rfl rfl ?_
    refine rr_iconst (v := 2) C dX11_isKind_13 (by decide) ?_
    refine rr_icmp_ne (tgt := 26) C dX11_isKind_14 (by decide) (fun c14_ => ?_) (fun c14_ => ?_)
    · replace hr := (if_neg c14_).symm.trans hr
      refine rr_iconst (v := 1) C dX11_isKind_26 (by decide) ?_
      obtain rfl := Option.some.inj hr
      exact rr_iret (ty := .boolean) C dX11_isKind_27 rfl rfl ⟨rfl, rfl, rfl⟩
    · replace hr := (if_pos c14_).symm.trans hr
      refine rr_iload_n (i := 1) C dX11_isKind_17 rfl rfl ?_
      refine rr_iconst (v := 0) C dX11_isKind_18 (by decide) ?_
      refine rr_iconst (v := 2) C dX11_isKind_19 (by decide) ?_
      replace hr := Option.bind_eq_some_iff.mp hr
      obtain ⟨v1, e2, hr⟩ := hr
      refine rr_callS (as := [.int l1, .int 0, .int 2]) (st := []) (mc' := 0) (ms' := 0) C dX11_isKind_20 it_X11_165 (by decide) (Nat.le_of_ble_eq_true rfl) (c_X11_isIn l1 0 2 (by omega) e2) (fun v_ h_ n_ q_ => ?_)
      obtain ⟨q1_, q2_, q3_⟩ := q_
      subst v_; subst h_; subst n_
      show WW W0 G 2 _ _ _ 23 [some (.int l0), some (.int l1)] [.int v1] h n _ _
      refine rr_goto (tgt := 27) C dX11_isKind_23 (by decide) ?_
      replace hr := Option.bind_eq_some_iff.mp hr
      obtain ⟨u3, e4, hr⟩ := hr
      obtain rfl := Option.some.inj hr
      exact rr_iret (ty := .boolean) C dX11_isKind_27 rfl (ckz_s e4) ⟨rfl, rfl, rfl⟩
  · replace hr := (if_neg c2_).symm.trans hr
    refine rr_iload_n (i := 1) C dX11_isKind_5 rfl rfl ?_
    replace hr := Option.bind_eq_some_iff.mp hr
    obtain ⟨v5, e6, hr⟩ := hr
    refine rr_callS (as := [.int l1]) (st := []) (mc' := 0) (ms' := 0) C dX11_isKind_6 it_X11_205 (by decide) (Nat.le_of_ble_eq_true rfl) (c_X11_isHead l1 (by omega) e6) (fun v_ h_ n_ q_ => ?_)
    obtain ⟨q1_, q2_, q3_⟩ := q_
    subst v_; subst h_; subst n_
    show WW W0 G 2 _ _ _ 9 [some (.int l0), some (.int l1)] [.int v5] h n _ _
    refine rr_goto (tgt := 27) C dX11_isKind_9 (by decide) ?_
    replace hr := Option.bind_eq_some_iff.mp hr
    obtain ⟨u7, e8, hr⟩ := hr
    obtain rfl := Option.some.inj hr
    exact rr_iret (ty := .boolean) C dX11_isKind_27 rfl (ckz_s e8) ⟨rfl, rfl, rfl⟩
def q_X11_holds_ (K : Nat) (h : mm_H) (n : Nat) (l0 : Nat) (l1 : Int32) (l2 : Int32) (l3 : Int32) (l4 : Int32) : Option (Int32 × mm_H) :=
  (ckq h n l0 10).bind fun u1 =>
  (q_X11_isFirm K h n l0 l1).bind fun v3 =>
  if v3 = 0 then
    some ((-1), h)
  else
  (q_X11_isYear K h n l2).bind fun v5 =>
  if v5 = 0 then
    some ((-1), h)
  else
  (q_X11_isIn K h n l3 0 8).bind fun v7 =>
  if v7 = 0 then
    some ((-1), h)
  else
  (q_X11_isKind K h n l3 l4).bind fun v9 =>
  if v9 = 0 then
    some ((-1), h)
  else
  (ckq h n l0 10).bind fun u11 =>
  (q_X11_prepares K h n l0 l1).bind fun v13 =>
  if l3 ≤ 2 then
    (ckq v13 n l0 10).bind fun u15 =>
    (q_X11_statement K v13 n l0 l1 l2 l3 l4).bind fun v17 =>
    if v17.1 = (-1) then
      some ((-1), v17.2)
    else
    some (v17.1 - v17.1 / 300 * 300, v17.2)
  else
  (ckq v13 n l0 10).bind fun u20 =>
  (q_X11_statement K v13 n l0 l1 l2 l3 0).bind fun v22 =>
  if v22.1 = (-1) then
    some ((-1), v22.2)
  else
  some (v22.1 - v22.1 / 300 * 300, v22.2)
set_option maxRecDepth 100000 in
set_option maxHeartbeats 4000000 in
theorem c_X11_holds_ {K : Nat} {G : mm_G} {l : Launch} {h : mm_H} {n : Nat} (l0 : Nat) (l1 : Int32) (l2 : Int32) (l3 : Int32) (l4 : Int32) {r_ : Int32 × mm_H} (hn : 48 ≤ n) (hr : q_X11_holds_ K h n l0 l1 l2 l3 l4 = some r_) : Sp G l yX11_holds_ cX11_holds_ 6 (some .int) 52 0 0 [.ref l0, .int l1, .int l2, .int l3, .int l4] h n (fun v h' n' => v = some (.int r_.1) ∧ h' = r_.2 ∧ n' = n) := by
  refine Sp_of (by decide +kernel) (Nat.le_of_ble_eq_true rfl) hn ?_
  intro W0 hwl C
  subst hwl
  unfold q_X11_holds_ at hr
  show WW W0 G 6 0 0 _ 0 [some (.ref l0), some (.int l1), some (.int l2), some (.int l3), some (.int l4), none] [] h n 0 0
  refine rr_aload_n (i := 0) C dX11_holds__0 rfl rfl ?_
  refine rr_iload_n (i := 1) C dX11_holds__1 rfl rfl ?_
  replace hr := Option.bind_eq_some_iff.mp hr
  obtain ⟨u1, e2, hr⟩ := hr
  replace hr := Option.bind_eq_some_iff.mp hr
  obtain ⟨v3, e4, hr⟩ := hr
  refine rr_callVq (as := [.int l1]) (st := []) (mc' := 0) (ms' := 0) C dX11_holds__2 iv_X11_177 (by decide) e2 rfl (Nat.le_of_ble_eq_true rfl) (c_X11_isFirm l0 l1 (by omega) e4) (fun v_ h_ n_ q_ => ?_)
  obtain ⟨q1_, q2_, q3_⟩ := q_
  subst v_; subst h_; subst n_
  show WW W0 G 6 _ _ _ 5 [some (.ref l0), some (.int l1), some (.int l2), some (.int l3), some (.int l4), none] [.int v3] h n _ _
  refine rr_if_eq (tgt := 34) C dX11_holds__5 (by decide) (fun c5_ => ?_) (fun c5_ => ?_)
  · replace hr := (if_pos c5_).symm.trans hr
    refine rr_iconst (v := (-1)) C dX11_holds__34 (by decide) ?_
    obtain rfl := Option.some.inj hr
    exact rr_iret (ty := .int) C dX11_holds__35 rfl rfl ⟨rfl, rfl, rfl⟩
  · replace hr := (if_neg c5_).symm.trans hr
    refine rr_iload_n (i := 2) C dX11_holds__8 rfl rfl ?_
    replace hr := Option.bind_eq_some_iff.mp hr
    obtain ⟨v5, e6, hr⟩ := hr
    refine rr_callS (as := [.int l2]) (st := []) (mc' := 0) (ms' := 0) C dX11_holds__9 it_X11_181 (by decide) (Nat.le_of_ble_eq_true rfl) (c_X11_isYear l2 (by omega) e6) (fun v_ h_ n_ q_ => ?_)
    obtain ⟨q1_, q2_, q3_⟩ := q_
    subst v_; subst h_; subst n_
    show WW W0 G 6 _ _ _ 12 [some (.ref l0), some (.int l1), some (.int l2), some (.int l3), some (.int l4), none] [.int v5] h n _ _
    refine rr_if_eq (tgt := 34) C dX11_holds__12 (by decide) (fun c12_ => ?_) (fun c12_ => ?_)
    · replace hr := (if_pos c12_).symm.trans hr
      refine rr_iconst (v := (-1)) C dX11_holds__34 (by decide) ?_
      obtain rfl := Option.some.inj hr
      exact rr_iret (ty := .int) C dX11_holds__35 rfl rfl ⟨rfl, rfl, rfl⟩
    · replace hr := (if_neg c12_).symm.trans hr
      refine rr_iload_n (i := 3) C dX11_holds__15 rfl rfl ?_
      refine rr_iconst (v := 0) C dX11_holds__16 (by decide) ?_
      refine rr_bipush (v := 8) C dX11_holds__17 (by decide) ?_
      replace hr := Option.bind_eq_some_iff.mp hr
      obtain ⟨v7, e8, hr⟩ := hr
      refine rr_callS (as := [.int l3, .int 0, .int 8]) (st := []) (mc' := 0) (ms' := 0) C dX11_holds__19 it_X11_165 (by decide) (Nat.le_of_ble_eq_true rfl) (c_X11_isIn l3 0 8 (by omega) e8) (fun v_ h_ n_ q_ => ?_)
      obtain ⟨q1_, q2_, q3_⟩ := q_
      subst v_; subst h_; subst n_
      show WW W0 G 6 _ _ _ 22 [some (.ref l0), some (.int l1), some (.int l2), some (.int l3), some (.int l4), none] [.int v7] h n _ _
      refine rr_if_eq (tgt := 34) C dX11_holds__22 (by decide) (fun c22_ => ?_) (fun c22_ => ?_)
      · replace hr := (if_pos c22_).symm.trans hr
        refine rr_iconst (v := (-1)) C dX11_holds__34 (by decide) ?_
        obtain rfl := Option.some.inj hr
        exact rr_iret (ty := .int) C dX11_holds__35 rfl rfl ⟨rfl, rfl, rfl⟩
      · replace hr := (if_neg c22_).symm.trans hr
        refine rr_iload_n (i := 3) C dX11_holds__25 rfl rfl ?_
        refine rr_iload C dX11_holds__26 rfl ?_
        replace hr := Option.bind_eq_some_iff.mp hr
        obtain ⟨v9, e10, hr⟩ := hr
        refine rr_callS (as := [.int l3, .int l4]) (st := []) (mc' := 0) (ms' := 0) C dX11_holds__28 it_X11_435 (by decide) (Nat.le_of_ble_eq_true rfl) (c_X11_isKind l3 l4 (by omega) e10) (fun v_ h_ n_ q_ => ?_)
        obtain ⟨q1_, q2_, q3_⟩ := q_
        subst v_; subst h_; subst n_
        show WW W0 G 6 _ _ _ 31 [some (.ref l0), some (.int l1), some (.int l2), some (.int l3), some (.int l4), none] [.int v9] h n _ _
        refine rr_if_ne (tgt := 36) C dX11_holds__31 (by decide) (fun c31_ => ?_) (fun c31_ => ?_)
        · replace hr := (if_neg c31_).symm.trans hr
          refine rr_aload_n (i := 0) C dX11_holds__36 rfl rfl ?_
          refine rr_iload_n (i := 1) C dX11_holds__37 rfl rfl ?_
          replace hr := Option.bind_eq_some_iff.mp hr
          obtain ⟨u11, e12, hr⟩ := hr
          replace hr := Option.bind_eq_some_iff.mp hr
          obtain ⟨v13, e14, hr⟩ := hr
          refine rr_callVq (as := [.int l1]) (st := []) (mc' := 0) (ms' := 0) C dX11_holds__38 iv_X11_438 (by decide) e12 rfl (Nat.le_of_ble_eq_true rfl) (c_X11_prepares l0 l1 (by omega) e14) (fun v_ h_ n_ q_ => ?_)
          obtain ⟨q1_, q2_, q3_⟩ := q_
          subst v_; subst h_; subst n_
          show WW W0 G 6 _ _ _ 41 [some (.ref l0), some (.int l1), some (.int l2), some (.int l3), some (.int l4), none] [] v13 n _ _
          refine rr_aload_n (i := 0) C dX11_holds__41 rfl rfl ?_
          refine rr_iload_n (i := 1) C dX11_holds__42 rfl rfl ?_
          refine rr_iload_n (i := 2) C dX11_holds__43 rfl rfl ?_
          refine rr_iload_n (i := 3) C dX11_holds__44 rfl rfl ?_
          refine rr_iload_n (i := 3) C dX11_holds__45 rfl rfl ?_
          refine rr_iconst (v := 2) C dX11_holds__46 (by decide) ?_
          refine rr_icmp_le (tgt := 54) C dX11_holds__47 (by decide) (fun c47_ => ?_) (fun c47_ => ?_)
          · replace hr := (if_pos c47_).symm.trans hr
            refine rr_iload C dX11_holds__54 rfl ?_
            replace hr := Option.bind_eq_some_iff.mp hr
            obtain ⟨u15, e16, hr⟩ := hr
            replace hr := Option.bind_eq_some_iff.mp hr
            obtain ⟨v17, e18, hr⟩ := hr
            refine rr_callVq (as := [.int l1, .int l2, .int l3, .int l4]) (st := []) (mc' := 0) (ms' := 0) C dX11_holds__56 iv_X11_417 (by decide) e16 rfl (Nat.le_of_ble_eq_true rfl) (c_X11_statement l0 l1 l2 l3 l4 (by omega) e18) (fun v_ h_ n_ q_ => ?_)
            obtain ⟨q1_, q2_, q3_⟩ := q_
            subst v_; subst h_; subst n_
            show WW W0 G 6 _ _ _ 59 [some (.ref l0), some (.int l1), some (.int l2), some (.int l3), some (.int l4), none] [.int v17.1] v17.2 n _ _
            refine rr_istore C dX11_holds__59 (by decide) ?_
            show WW W0 G 6 _ _ _ 61 [some (.ref l0), some (.int l1), some (.int l2), some (.int l3), some (.int l4), some (.int v17.1)] [] v17.2 n _ _
            refine rr_iload C dX11_holds__61 rfl ?_
            refine rr_iconst (v := (-1)) C dX11_holds__63 (by decide) ?_
            refine rr_icmp_ne (tgt := 71) C dX11_holds__64 (by decide) (fun c64_ => ?_) (fun c64_ => ?_)
            · replace hr := (if_neg c64_).symm.trans hr
              refine rr_iload C dX11_holds__71 rfl ?_
              refine rr_sipush (v := 300) C dX11_holds__73 (by decide) ?_
              refine rr_irem C dX11_holds__76 (by decide) ?_
              obtain rfl := Option.some.inj hr
              exact rr_iret (ty := .int) C dX11_holds__77 rfl rfl ⟨rfl, rfl, rfl⟩
            · replace hr := (if_pos c64_).symm.trans hr
              refine rr_iconst (v := (-1)) C dX11_holds__67 (by decide) ?_
              refine rr_goto (tgt := 77) C dX11_holds__68 (by decide) ?_
              obtain rfl := Option.some.inj hr
              exact rr_iret (ty := .int) C dX11_holds__77 rfl rfl ⟨rfl, rfl, rfl⟩
          · replace hr := (if_neg c47_).symm.trans hr
            refine rr_iconst (v := 0) C dX11_holds__50 (by decide) ?_
            refine rr_goto (tgt := 56) C dX11_holds__51 (by decide) ?_
            replace hr := Option.bind_eq_some_iff.mp hr
            obtain ⟨u20, e21, hr⟩ := hr
            replace hr := Option.bind_eq_some_iff.mp hr
            obtain ⟨v22, e23, hr⟩ := hr
            refine rr_callVq (as := [.int l1, .int l2, .int l3, .int 0]) (st := []) (mc' := 0) (ms' := 0) C dX11_holds__56 iv_X11_417 (by decide) e21 rfl (Nat.le_of_ble_eq_true rfl) (c_X11_statement l0 l1 l2 l3 0 (by omega) e23) (fun v_ h_ n_ q_ => ?_)
            obtain ⟨q1_, q2_, q3_⟩ := q_
            subst v_; subst h_; subst n_
            show WW W0 G 6 _ _ _ 59 [some (.ref l0), some (.int l1), some (.int l2), some (.int l3), some (.int l4), none] [.int v22.1] v22.2 n _ _
            refine rr_istore C dX11_holds__59 (by decide) ?_
            show WW W0 G 6 _ _ _ 61 [some (.ref l0), some (.int l1), some (.int l2), some (.int l3), some (.int l4), some (.int v22.1)] [] v22.2 n _ _
            refine rr_iload C dX11_holds__61 rfl ?_
            refine rr_iconst (v := (-1)) C dX11_holds__63 (by decide) ?_
            refine rr_icmp_ne (tgt := 71) C dX11_holds__64 (by decide) (fun c64_ => ?_) (fun c64_ => ?_)
            · replace hr := (if_neg c64_).symm.trans hr
              refine rr_iload C dX11_holds__71 rfl ?_
              refine rr_sipush (v := 300) C dX11_holds__73 (by decide) ?_
              refine rr_irem C dX11_holds__76 (by decide) ?_
              obtain rfl := Option.some.inj hr
              exact rr_iret (ty := .int) C dX11_holds__77 rfl rfl ⟨rfl, rfl, rfl⟩
            · replace hr := (if_pos c64_).symm.trans hr
              refine rr_iconst (v := (-1)) C dX11_holds__67 (by decide) ?_
              refine rr_goto (tgt := 77) C dX11_holds__68 (by decide) ?_
              obtain rfl := Option.some.inj hr
              exact rr_iret (ty := .int) C dX11_holds__77 rfl rfl ⟨rfl, rfl, rfl⟩
        · replace hr := (if_pos c31_).symm.trans hr
          refine rr_iconst (v := (-1)) C dX11_holds__34 (by decide) ?_
          obtain rfl := Option.some.inj hr
          exact rr_iret (ty := .int) C dX11_holds__35 rfl rfl ⟨rfl, rfl, rfl⟩
def q_X11_worth (K : Nat) (h : mm_H) (n : Nat) (l0 : Nat) (l1 : Int32) (l2 : Int32) : Option (Int64 × mm_H) :=
  (ckq h n l0 10).bind fun u1 =>
  (q_X11_isFirm K h n l0 l1).bind fun v3 =>
  if v3 = 0 then
    some ((-2000000000000), h)
  else
  (q_X11_isYear K h n l2).bind fun v5 =>
  if v5 = 0 then
    some ((-2000000000000), h)
  else
  (ckq h n l0 10).bind fun u7 =>
  (q_X11_prepares K h n l0 l1).bind fun v9 =>
  (rdR v9 n l0 10 58).bind fun v11 =>
  v11.bind fun a13 =>
  (ldJ v9 n a13 l2).bind fun v15 =>
  some (v15, v9)
set_option maxRecDepth 100000 in
set_option maxHeartbeats 4000000 in
theorem c_X11_worth {K : Nat} {G : mm_G} {l : Launch} {h : mm_H} {n : Nat} (l0 : Nat) (l1 : Int32) (l2 : Int32) {r_ : Int64 × mm_H} (hn : 48 ≤ n) (hr : q_X11_worth K h n l0 l1 l2 = some r_) : Sp G l yX11_worth cX11_worth 3 (some .long) 52 0 0 [.ref l0, .int l1, .int l2] h n (fun v h' n' => v = some (.long r_.1) ∧ h' = r_.2 ∧ n' = n) := by
  refine Sp_of (by decide +kernel) (Nat.le_of_ble_eq_true rfl) hn ?_
  intro W0 hwl C
  subst hwl
  unfold q_X11_worth at hr
  show WW W0 G 3 0 0 _ 0 [some (.ref l0), some (.int l1), some (.int l2)] [] h n 0 0
  refine rr_aload_n (i := 0) C dX11_worth_0 rfl rfl ?_
  refine rr_iload_n (i := 1) C dX11_worth_1 rfl rfl ?_
  replace hr := Option.bind_eq_some_iff.mp hr
  obtain ⟨u1, e2, hr⟩ := hr
  replace hr := Option.bind_eq_some_iff.mp hr
  obtain ⟨v3, e4, hr⟩ := hr
  refine rr_callVq (as := [.int l1]) (st := []) (mc' := 0) (ms' := 0) C dX11_worth_2 iv_X11_177 (by decide) e2 rfl (Nat.le_of_ble_eq_true rfl) (c_X11_isFirm l0 l1 (by omega) e4) (fun v_ h_ n_ q_ => ?_)
  obtain ⟨q1_, q2_, q3_⟩ := q_
  subst v_; subst h_; subst n_
  show WW W0 G 3 _ _ _ 5 [some (.ref l0), some (.int l1), some (.int l2)] [.int v3] h n _ _
  refine rr_if_eq (tgt := 15) C dX11_worth_5 (by decide) (fun c5_ => ?_) (fun c5_ => ?_)
  · replace hr := (if_pos c5_).symm.trans hr
    refine rr_ldc2 C dX11_worth_15 ct_X11_441 ?_
    obtain rfl := Option.some.inj hr
    exact rr_lret C dX11_worth_18 rfl ⟨rfl, rfl, rfl⟩
  · replace hr := (if_neg c5_).symm.trans hr
    refine rr_iload_n (i := 2) C dX11_worth_8 rfl rfl ?_
    replace hr := Option.bind_eq_some_iff.mp hr
    obtain ⟨v5, e6, hr⟩ := hr
    refine rr_callS (as := [.int l2]) (st := []) (mc' := 0) (ms' := 0) C dX11_worth_9 it_X11_181 (by decide) (Nat.le_of_ble_eq_true rfl) (c_X11_isYear l2 (by omega) e6) (fun v_ h_ n_ q_ => ?_)
    obtain ⟨q1_, q2_, q3_⟩ := q_
    subst v_; subst h_; subst n_
    show WW W0 G 3 _ _ _ 12 [some (.ref l0), some (.int l1), some (.int l2)] [.int v5] h n _ _
    refine rr_if_ne (tgt := 19) C dX11_worth_12 (by decide) (fun c12_ => ?_) (fun c12_ => ?_)
    · replace hr := (if_neg c12_).symm.trans hr
      refine rr_aload_n (i := 0) C dX11_worth_19 rfl rfl ?_
      refine rr_iload_n (i := 1) C dX11_worth_20 rfl rfl ?_
      replace hr := Option.bind_eq_some_iff.mp hr
      obtain ⟨u7, e8, hr⟩ := hr
      replace hr := Option.bind_eq_some_iff.mp hr
      obtain ⟨v9, e10, hr⟩ := hr
      refine rr_callVq (as := [.int l1]) (st := []) (mc' := 0) (ms' := 0) C dX11_worth_21 iv_X11_438 (by decide) e8 rfl (Nat.le_of_ble_eq_true rfl) (c_X11_prepares l0 l1 (by omega) e10) (fun v_ h_ n_ q_ => ?_)
      obtain ⟨q1_, q2_, q3_⟩ := q_
      subst v_; subst h_; subst n_
      show WW W0 G 3 _ _ _ 24 [some (.ref l0), some (.int l1), some (.int l2)] [] v9 n _ _
      refine rr_aload_n (i := 0) C dX11_worth_24 rfl rfl ?_
      replace hr := Option.bind_eq_some_iff.mp hr
      obtain ⟨v11, e12, hr⟩ := hr
      refine rr_rdR C dX11_worth_25 fl_X11_141 e12 ?_
      refine rr_iload_n (i := 2) C dX11_worth_28 rfl rfl ?_
      replace hr := Option.bind_eq_some_iff.mp hr
      obtain ⟨a13, e14, hr⟩ := hr
      subst e14
      replace hr := Option.bind_eq_some_iff.mp hr
      obtain ⟨v15, e16, hr⟩ := hr
      refine rr_ldJ C dX11_worth_29 e16 ?_
      obtain rfl := Option.some.inj hr
      exact rr_lret C dX11_worth_30 rfl ⟨rfl, rfl, rfl⟩
    · replace hr := (if_pos c12_).symm.trans hr
      refine rr_ldc2 C dX11_worth_15 ct_X11_441 ?_
      obtain rfl := Option.some.inj hr
      exact rr_lret C dX11_worth_18 rfl ⟨rfl, rfl, rfl⟩
def lp_X11_gathers_35 (K : Nat) (n : Nat) (l0 : Nat) (l1 : Int32) (l2 : Int32) (l3 : Int32) (l4 : Int32) (l5 : Int32) (l6 : Int32) (l7 : Int32) : Nat → Int32 → mm_H → Option (mm_H)
  | 0, _, _ => none
  | k_ + 1, l8, h =>
    if (5 * l3) ≤ l8 then
      some (h)
    else
    if l7 = l1 then
      lp_X11_gathers_35 K n l0 l1 l2 l3 l4 l5 l6 l7 k_ (l8 + 1) h
    else
    if l7 = l5 then
      lp_X11_gathers_35 K n l0 l1 l2 l3 l4 l5 l6 l7 k_ (l8 + 1) h
    else
    (ckq h n l0 10).bind fun u7 =>
    (q_X11_factBy K h n l0 l7 l8 l4 l6).bind fun v9 =>
    (ckq h n l0 10).bind fun u11 =>
    (q_X11_factBy K h n l0 l7 l8 (3 + l2) l6).bind fun v13 =>
    if v9 = (-1) then
      lp_X11_gathers_35 K n l0 l1 l2 l3 l4 l5 l6 l7 k_ (l8 + 1) h
    else
    if v13 = (-1) then
      lp_X11_gathers_35 K n l0 l1 l2 l3 l4 l5 l6 l7 k_ (l8 + 1) h
    else
    (rdR h n l0 10 62).bind fun v15 =>
    (rdI h n l0 10 65).bind fun v17 =>
    v15.bind fun a19 =>
    (stI h n a19 v17 v9).bind fun h21 =>
    (rdR h21 n l0 10 63).bind fun v23 =>
    (rdI h21 n l0 10 65).bind fun v25 =>
    v23.bind fun a27 =>
    (stI h21 n a27 v25 v13).bind fun h29 =>
    (rdR h29 n l0 10 64).bind fun v31 =>
    (rdI h29 n l0 10 65).bind fun v33 =>
    v31.bind fun a35 =>
    (stI h29 n a35 v33 l7).bind fun h37 =>
    (rdI h37 n l0 10 65).bind fun v39 =>
    (wrF h37 n l0 10 65 (.int (v39 + 1))).bind fun h41 =>
    lp_X11_gathers_35 K n l0 l1 l2 l3 l4 l5 l6 l7 k_ (l8 + 1) h41
def lp_X11_gathers_15 (K : Nat) (n : Nat) (l0 : Nat) (l1 : Int32) (l2 : Int32) (l3 : Int32) (l4 : Int32) (l5 : Int32) (l6 : Int32) : Nat → Int32 → mm_H → Option (mm_H)
  | 0, _, _ => none
  | k_ + 1, l7, h =>
    (rdI h n l0 10 1).bind fun v4 =>
    if v4 ≤ l7 then
      some (h)
    else
    (lp_X11_gathers_35 K n l0 l1 l2 l3 l4 l5 l6 l7 K (i_max 0 ((5 * l3) - 5)) h).bind fun v43 =>
    lp_X11_gathers_15 K n l0 l1 l2 l3 l4 l5 l6 k_ (l7 + 1) v43
def q_X11_gathers (K : Nat) (h : mm_H) (n : Nat) (l0 : Nat) (l1 : Int32) (l2 : Int32) (l3 : Int32) (l4 : Int32) (l5 : Int32) : Option (mm_H) :=
  (wrF h n l0 10 65 (.int 0)).bind fun h1 =>
  (lp_X11_gathers_15 K n l0 l1 l2 l3 l4 l5 (500 * l3) K 0 h1).bind fun v45 =>
  some v45
set_option maxRecDepth 100000 in
set_option maxHeartbeats 4000000 in
theorem w_X11_gathers_35 {K : Nat} {W0 : mm_X} {G : mm_G} {mc ms kc ks : Nat} {Q_ : State → Prop} {n : Nat} (C : mm_C W0 G cX11_gathers yX11_gathers.cls 11 mc ms none 2 yX11_gathers.name) (hn : 48 ≤ n) (l0 : Nat) (l1 : Int32) (l2 : Int32) (l3 : Int32) (l4 : Int32) (l5 : Int32) (l6 : Int32) (l7 : Int32) : ∀ (k_ : Nat) (l8 : Int32) (h : mm_H) {r_ : mm_H} (hr : lp_X11_gathers_35 K n l0 l1 l2 l3 l4 l5 l6 l7 k_ l8 h = some r_) (hx0 : WW W0 G 11 mc ms Q_ 152 [some (.ref l0), some (.int l1), some (.int l2), some (.int l3), some (.int l4), some (.int l5), some (.int l6), some (.int l7), none, none, none] [] r_ n kc ks), WW W0 G 11 mc ms Q_ 35 [some (.ref l0), some (.int l1), some (.int l2), some (.int l3), some (.int l4), some (.int l5), some (.int l6), some (.int l7), some (.int l8), none, none] [] h n kc ks := by
  intro k_
  induction k_ with
  | zero =>
    intro l8 h r_ hr
    cases hr
  | succ k_ ih_ =>
    intro l8 h r_ hr hx0
    unfold lp_X11_gathers_35 at hr
    refine rr_iload C dX11_gathers_35 rfl ?_
    refine rr_iconst (v := 5) C dX11_gathers_37 (by decide) ?_
    refine rr_iload_n (i := 3) C dX11_gathers_38 rfl rfl ?_
    refine rr_imul C dX11_gathers_39 ?_
    refine rr_icmp_ge (tgt := 152) C dX11_gathers_40 (by decide) (fun c40_ => ?_) (fun c40_ => ?_)
    · replace hr := (if_pos c40_).symm.trans hr
      obtain rfl := Option.some.inj hr
      exact rr_keep [true, true, true, true, true, true, true, true, false, false, false] (hx0)
    · replace hr := (if_neg c40_).symm.trans hr
      refine rr_iload C dX11_gathers_43 rfl ?_
      refine rr_iload_n (i := 1) C dX11_gathers_45 rfl rfl ?_
      refine rr_icmp_eq (tgt := 146) C dX11_gathers_46 (by decide) (fun c46_ => ?_) (fun c46_ => ?_)
      · replace hr := (if_pos c46_).symm.trans hr
        refine rr_iinc (v := l8 + 1) C dX11_gathers_146 rfl rfl ?_
        show WW W0 G 11 _ _ _ 149 [some (.ref l0), some (.int l1), some (.int l2), some (.int l3), some (.int l4), some (.int l5), some (.int l6), some (.int l7), some (.int (l8 + 1)), none, none] [] h n _ _
        refine rr_goto (tgt := 35) C dX11_gathers_149 (by decide) ?_
        exact rr_keep [true, true, true, true, true, true, true, true, true, false, false] (ih_ _ _ hr hx0)
      · replace hr := (if_neg c46_).symm.trans hr
        refine rr_iload C dX11_gathers_49 rfl ?_
        refine rr_iload C dX11_gathers_51 rfl ?_
        refine rr_icmp_ne (tgt := 59) C dX11_gathers_53 (by decide) (fun c53_ => ?_) (fun c53_ => ?_)
        · replace hr := (if_neg c53_).symm.trans hr
          refine rr_aload_n (i := 0) C dX11_gathers_59 rfl rfl ?_
          refine rr_iload C dX11_gathers_60 rfl ?_
          refine rr_iload C dX11_gathers_62 rfl ?_
          refine rr_iload C dX11_gathers_64 rfl ?_
          refine rr_iload C dX11_gathers_66 rfl ?_
          replace hr := Option.bind_eq_some_iff.mp hr
          obtain ⟨u7, e8, hr⟩ := hr
          replace hr := Option.bind_eq_some_iff.mp hr
          obtain ⟨v9, e10, hr⟩ := hr
          refine rr_callVq (as := [.int l7, .int l8, .int l4, .int l6]) (st := []) (mc' := 0) (ms' := 0) C dX11_gathers_68 iv_X11_198 (by decide) e8 rfl (Nat.le_of_ble_eq_true rfl) (c_X11_factBy l0 l7 l8 l4 l6 (by omega) e10) (fun v_ h_ n_ q_ => ?_)
          obtain ⟨q1_, q2_, q3_⟩ := q_
          subst v_; subst h_; subst n_
          show WW W0 G 11 _ _ _ 71 [some (.ref l0), some (.int l1), some (.int l2), some (.int l3), some (.int l4), some (.int l5), some (.int l6), some (.int l7), some (.int l8), none, none] [.int v9] h n _ _
          refine rr_istore C dX11_gathers_71 (by decide) ?_
          show WW W0 G 11 _ _ _ 73 [some (.ref l0), some (.int l1), some (.int l2), some (.int l3), some (.int l4), some (.int l5), some (.int l6), some (.int l7), some (.int l8), some (.int v9), none] [] h n _ _
          refine rr_aload_n (i := 0) C dX11_gathers_73 rfl rfl ?_
          refine rr_iload C dX11_gathers_74 rfl ?_
          refine rr_iload C dX11_gathers_76 rfl ?_
          refine rr_iconst (v := 3) C dX11_gathers_78 (by decide) ?_
          refine rr_iload_n (i := 2) C dX11_gathers_79 rfl rfl ?_
          refine rr_iadd C dX11_gathers_80 ?_
          refine rr_iload C dX11_gathers_81 rfl ?_
          replace hr := Option.bind_eq_some_iff.mp hr
          obtain ⟨u11, e12, hr⟩ := hr
          replace hr := Option.bind_eq_some_iff.mp hr
          obtain ⟨v13, e14, hr⟩ := hr
          refine rr_callVq (as := [.int l7, .int l8, .int (3 + l2), .int l6]) (st := []) (mc' := 0) (ms' := 0) C dX11_gathers_83 iv_X11_198 (by decide) e12 rfl (Nat.le_of_ble_eq_true rfl) (c_X11_factBy l0 l7 l8 (3 + l2) l6 (by omega) e14) (fun v_ h_ n_ q_ => ?_)
          obtain ⟨q1_, q2_, q3_⟩ := q_
          subst v_; subst h_; subst n_
          show WW W0 G 11 _ _ _ 86 [some (.ref l0), some (.int l1), some (.int l2), some (.int l3), some (.int l4), some (.int l5), some (.int l6), some (.int l7), some (.int l8), some (.int v9), none] [.int v13] h n _ _
          refine rr_istore C dX11_gathers_86 (by decide) ?_
          show WW W0 G 11 _ _ _ 88 [some (.ref l0), some (.int l1), some (.int l2), some (.int l3), some (.int l4), some (.int l5), some (.int l6), some (.int l7), some (.int l8), some (.int v9), some (.int v13)] [] h n _ _
          refine rr_iload C dX11_gathers_88 rfl ?_
          refine rr_iconst (v := (-1)) C dX11_gathers_90 (by decide) ?_
          refine rr_icmp_eq (tgt := 146) C dX11_gathers_91 (by decide) (fun c91_ => ?_) (fun c91_ => ?_)
          · replace hr := (if_pos c91_).symm.trans hr
            refine rr_iinc (v := l8 + 1) C dX11_gathers_146 rfl rfl ?_
            show WW W0 G 11 _ _ _ 149 [some (.ref l0), some (.int l1), some (.int l2), some (.int l3), some (.int l4), some (.int l5), some (.int l6), some (.int l7), some (.int (l8 + 1)), some (.int v9), some (.int v13)] [] h n _ _
            refine rr_goto (tgt := 35) C dX11_gathers_149 (by decide) ?_
            exact rr_keep [true, true, true, true, true, true, true, true, true, false, false] (ih_ _ _ hr hx0)
          · replace hr := (if_neg c91_).symm.trans hr
            refine rr_iload C dX11_gathers_94 rfl ?_
            refine rr_iconst (v := (-1)) C dX11_gathers_96 (by decide) ?_
            refine rr_icmp_ne (tgt := 103) C dX11_gathers_97 (by decide) (fun c97_ => ?_) (fun c97_ => ?_)
            · replace hr := (if_neg c97_).symm.trans hr
              refine rr_aload_n (i := 0) C dX11_gathers_103 rfl rfl ?_
              replace hr := Option.bind_eq_some_iff.mp hr
              obtain ⟨v15, e16, hr⟩ := hr
              refine rr_rdR C dX11_gathers_104 fl_X11_153 e16 ?_
              refine rr_aload_n (i := 0) C dX11_gathers_107 rfl rfl ?_
              replace hr := Option.bind_eq_some_iff.mp hr
              obtain ⟨v17, e18, hr⟩ := hr
              refine rr_rdI C dX11_gathers_108 fl_X11_443 e18 ?_
              refine rr_iload C dX11_gathers_111 rfl ?_
              replace hr := Option.bind_eq_some_iff.mp hr
              obtain ⟨a19, e20, hr⟩ := hr
              subst e20
              replace hr := Option.bind_eq_some_iff.mp hr
              obtain ⟨h21, e22, hr⟩ := hr
              refine rr_stI C dX11_gathers_113 e22 ?_
              refine rr_aload_n (i := 0) C dX11_gathers_114 rfl rfl ?_
              replace hr := Option.bind_eq_some_iff.mp hr
              obtain ⟨v23, e24, hr⟩ := hr
              refine rr_rdR C dX11_gathers_115 fl_X11_156 e24 ?_
              refine rr_aload_n (i := 0) C dX11_gathers_118 rfl rfl ?_
              replace hr := Option.bind_eq_some_iff.mp hr
              obtain ⟨v25, e26, hr⟩ := hr
              refine rr_rdI C dX11_gathers_119 fl_X11_443 e26 ?_
              refine rr_iload C dX11_gathers_122 rfl ?_
              replace hr := Option.bind_eq_some_iff.mp hr
              obtain ⟨a27, e28, hr⟩ := hr
              subst e28
              replace hr := Option.bind_eq_some_iff.mp hr
              obtain ⟨h29, e30, hr⟩ := hr
              refine rr_stI C dX11_gathers_124 e30 ?_
              refine rr_aload_n (i := 0) C dX11_gathers_125 rfl rfl ?_
              replace hr := Option.bind_eq_some_iff.mp hr
              obtain ⟨v31, e32, hr⟩ := hr
              refine rr_rdR C dX11_gathers_126 fl_X11_159 e32 ?_
              refine rr_aload_n (i := 0) C dX11_gathers_129 rfl rfl ?_
              replace hr := Option.bind_eq_some_iff.mp hr
              obtain ⟨v33, e34, hr⟩ := hr
              refine rr_rdI C dX11_gathers_130 fl_X11_443 e34 ?_
              refine rr_iload C dX11_gathers_133 rfl ?_
              replace hr := Option.bind_eq_some_iff.mp hr
              obtain ⟨a35, e36, hr⟩ := hr
              subst e36
              replace hr := Option.bind_eq_some_iff.mp hr
              obtain ⟨h37, e38, hr⟩ := hr
              refine rr_stI C dX11_gathers_135 e38 ?_
              refine rr_aload_n (i := 0) C dX11_gathers_136 rfl rfl ?_
              refine rr_dup C dX11_gathers_137 rfl ?_
              replace hr := Option.bind_eq_some_iff.mp hr
              obtain ⟨v39, e40, hr⟩ := hr
              refine rr_rdI C dX11_gathers_138 fl_X11_443 e40 ?_
              refine rr_iconst (v := 1) C dX11_gathers_141 (by decide) ?_
              refine rr_iadd C dX11_gathers_142 ?_
              replace hr := Option.bind_eq_some_iff.mp hr
              obtain ⟨h41, e42, hr⟩ := hr
              refine rr_wrF C dX11_gathers_143 fp_X11_443 rfl rfl e42 ?_
              refine rr_iinc (v := l8 + 1) C dX11_gathers_146 rfl rfl ?_
              show WW W0 G 11 _ _ _ 149 [some (.ref l0), some (.int l1), some (.int l2), some (.int l3), some (.int l4), some (.int l5), some (.int l6), some (.int l7), some (.int (l8 + 1)), some (.int v9), some (.int v13)] [] h41 n _ _
              refine rr_goto (tgt := 35) C dX11_gathers_149 (by decide) ?_
              exact rr_keep [true, true, true, true, true, true, true, true, true, false, false] (ih_ _ _ hr hx0)
            · replace hr := (if_pos c97_).symm.trans hr
              refine rr_goto (tgt := 146) C dX11_gathers_100 (by decide) ?_
              refine rr_iinc (v := l8 + 1) C dX11_gathers_146 rfl rfl ?_
              show WW W0 G 11 _ _ _ 149 [some (.ref l0), some (.int l1), some (.int l2), some (.int l3), some (.int l4), some (.int l5), some (.int l6), some (.int l7), some (.int (l8 + 1)), some (.int v9), some (.int v13)] [] h n _ _
              refine rr_goto (tgt := 35) C dX11_gathers_149 (by decide) ?_
              exact rr_keep [true, true, true, true, true, true, true, true, true, false, false] (ih_ _ _ hr hx0)
        · replace hr := (if_pos c53_).symm.trans hr
          refine rr_goto (tgt := 146) C dX11_gathers_56 (by decide) ?_
          refine rr_iinc (v := l8 + 1) C dX11_gathers_146 rfl rfl ?_
          show WW W0 G 11 _ _ _ 149 [some (.ref l0), some (.int l1), some (.int l2), some (.int l3), some (.int l4), some (.int l5), some (.int l6), some (.int l7), some (.int (l8 + 1)), none, none] [] h n _ _
          refine rr_goto (tgt := 35) C dX11_gathers_149 (by decide) ?_
          exact rr_keep [true, true, true, true, true, true, true, true, true, false, false] (ih_ _ _ hr hx0)
set_option maxRecDepth 100000 in
set_option maxHeartbeats 4000000 in
theorem w_X11_gathers_15 {K : Nat} {W0 : mm_X} {G : mm_G} {mc ms kc ks : Nat} {Q_ : State → Prop} {n : Nat} (C : mm_C W0 G cX11_gathers yX11_gathers.cls 11 mc ms none 2 yX11_gathers.name) (hn : 48 ≤ n) (l0 : Nat) (l1 : Int32) (l2 : Int32) (l3 : Int32) (l4 : Int32) (l5 : Int32) (l6 : Int32) : ∀ (k_ : Nat) (l7 : Int32) (h : mm_H) {r_ : mm_H} (hr : lp_X11_gathers_15 K n l0 l1 l2 l3 l4 l5 l6 k_ l7 h = some r_) (hx0 : WW W0 G 11 mc ms Q_ 158 [none, none, none, none, none, none, none, none, none, none, none] [] r_ n kc ks), WW W0 G 11 mc ms Q_ 15 [some (.ref l0), some (.int l1), some (.int l2), some (.int l3), some (.int l4), some (.int l5), some (.int l6), some (.int l7), none, none, none] [] h n kc ks := by
  intro k_
  induction k_ with
  | zero =>
    intro l7 h r_ hr
    cases hr
  | succ k_ ih_ =>
    intro l7 h r_ hr hx0
    unfold lp_X11_gathers_15 at hr
    refine rr_iload C dX11_gathers_15 rfl ?_
    refine rr_aload_n (i := 0) C dX11_gathers_17 rfl rfl ?_
    replace hr := Option.bind_eq_some_iff.mp hr
    obtain ⟨v4, e5, hr⟩ := hr
    refine rr_rdI C dX11_gathers_18 fl_X11_169 e5 ?_
    refine rr_icmp_ge (tgt := 158) C dX11_gathers_21 (by decide) (fun c21_ => ?_) (fun c21_ => ?_)
    · replace hr := (if_pos c21_).symm.trans hr
      obtain rfl := Option.some.inj hr
      exact rr_keep [false, false, false, false, false, false, false, false, false, false, false] (hx0)
    · replace hr := (if_neg c21_).symm.trans hr
      refine rr_iconst (v := 0) C dX11_gathers_24 (by decide) ?_
      refine rr_iconst (v := 5) C dX11_gathers_25 (by decide) ?_
      refine rr_iload_n (i := 3) C dX11_gathers_26 rfl rfl ?_
      refine rr_imul C dX11_gathers_27 ?_
      refine rr_iconst (v := 5) C dX11_gathers_28 (by decide) ?_
      refine rr_isub C dX11_gathers_29 ?_
      refine rr_mmax C dX11_gathers_30 ma_X11_406 (by decide) (Nat.le_of_ble_eq_true rfl) ?_
      refine rr_istore C dX11_gathers_33 (by decide) ?_
      show WW W0 G 11 _ _ _ 35 [some (.ref l0), some (.int l1), some (.int l2), some (.int l3), some (.int l4), some (.int l5), some (.int l6), some (.int l7), some (.int (i_max 0 ((5 * l3) - 5))), none, none] [] h n _ _
      replace hr := Option.bind_eq_some_iff.mp hr
      obtain ⟨v43, e44, hr⟩ := hr
      refine rr_keep [true, true, true, true, true, true, true, true, true, false, false] (w_X11_gathers_35 C (by omega) l0 l1 l2 l3 l4 l5 l6 l7 K (i_max 0 ((5 * l3) - 5)) h e44 ?_)
      show WW W0 G 11 _ _ _ 152 [some (.ref l0), some (.int l1), some (.int l2), some (.int l3), some (.int l4), some (.int l5), some (.int l6), some (.int l7), none, none, none] [] v43 n _ _
      refine rr_iinc (v := l7 + 1) C dX11_gathers_152 rfl rfl ?_
      show WW W0 G 11 _ _ _ 155 [some (.ref l0), some (.int l1), some (.int l2), some (.int l3), some (.int l4), some (.int l5), some (.int l6), some (.int (l7 + 1)), none, none, none] [] v43 n _ _
      refine rr_goto (tgt := 15) C dX11_gathers_155 (by decide) ?_
      exact rr_keep [true, true, true, true, true, true, true, true, false, false, false] (ih_ _ _ hr hx0)
set_option maxRecDepth 100000 in
set_option maxHeartbeats 4000000 in
theorem c_X11_gathers {K : Nat} {G : mm_G} {l : Launch} {h : mm_H} {n : Nat} (l0 : Nat) (l1 : Int32) (l2 : Int32) (l3 : Int32) (l4 : Int32) (l5 : Int32) {r_ : mm_H} (hn : 48 ≤ n) (hr : q_X11_gathers K h n l0 l1 l2 l3 l4 l5 = some r_) : Sp G l yX11_gathers cX11_gathers 11 none 2 0 0 [.ref l0, .int l1, .int l2, .int l3, .int l4, .int l5] h n (fun v h' n' => v = none ∧ h' = r_ ∧ n' = n) := by
  refine Sp_of (by decide +kernel) (Nat.le_of_ble_eq_true rfl) hn ?_
  intro W0 hwl C
  subst hwl
  unfold q_X11_gathers at hr
  show WW W0 G 11 0 0 _ 0 [some (.ref l0), some (.int l1), some (.int l2), some (.int l3), some (.int l4), some (.int l5), none, none, none, none, none] [] h n 0 0
  refine rr_aload_n (i := 0) C dX11_gathers_0 rfl rfl ?_
  refine rr_iconst (v := 0) C dX11_gathers_1 (by decide) ?_
  replace hr := Option.bind_eq_some_iff.mp hr
  obtain ⟨h1, e2, hr⟩ := hr
  refine rr_wrF C dX11_gathers_2 fp_X11_443 rfl rfl e2 ?_
  refine rr_sipush (v := 500) C dX11_gathers_5 (by decide) ?_
  refine rr_iload_n (i := 3) C dX11_gathers_8 rfl rfl ?_
  refine rr_imul C dX11_gathers_9 ?_
  refine rr_istore C dX11_gathers_10 (by decide) ?_
  show WW W0 G 11 _ _ _ 12 [some (.ref l0), some (.int l1), some (.int l2), some (.int l3), some (.int l4), some (.int l5), some (.int (500 * l3)), none, none, none, none] [] h1 n _ _
  refine rr_iconst (v := 0) C dX11_gathers_12 (by decide) ?_
  refine rr_istore C dX11_gathers_13 (by decide) ?_
  show WW W0 G 11 _ _ _ 15 [some (.ref l0), some (.int l1), some (.int l2), some (.int l3), some (.int l4), some (.int l5), some (.int (500 * l3)), some (.int 0), none, none, none] [] h1 n _ _
  replace hr := Option.bind_eq_some_iff.mp hr
  obtain ⟨v45, e46, hr⟩ := hr
  refine rr_keep [true, true, true, true, true, true, true, true, false, false, false] (w_X11_gathers_15 C (by omega) l0 l1 l2 l3 l4 l5 (500 * l3) K 0 h1 e46 ?_)
  show WW W0 G 11 _ _ _ 158 [none, none, none, none, none, none, none, none, none, none, none] [] v45 n _ _
  obtain rfl := Option.some.inj hr
  exact rr_vret C dX11_gathers_158 rfl ⟨rfl, rfl, rfl⟩
def lp_X11_all__5 (K : Nat) (h : mm_H) (n : Nat) (l0 : Nat) (l1 : Option Nat) : Nat → Int64 → Int32 → Option (Int64)
  | 0, _, _ => none
  | k_ + 1, l2, l4 =>
    (rdI h n l0 10 65).bind fun v1 =>
    if v1 ≤ l4 then
      some (l2)
    else
    l1.bind fun a3 =>
    (ldI h n a3 l4).bind fun v5 =>
    lp_X11_all__5 K h n l0 l1 k_ (l2 + (Int32.toInt64 v5)) (l4 + 1)
def q_X11_all_ (K : Nat) (h : mm_H) (n : Nat) (l0 : Nat) (l1 : Option Nat) : Option (Int64) :=
  (lp_X11_all__5 K h n l0 l1 K 0 0).bind fun v8 =>
  some v8
set_option maxRecDepth 100000 in
set_option maxHeartbeats 4000000 in
theorem w_X11_all__5 {K : Nat} {W0 : mm_X} {G : mm_G} {mc ms kc ks : Nat} {Q_ : State → Prop} {h : mm_H} {n : Nat} (C : mm_C W0 G cX11_all_ yX11_all_.cls 5 mc ms (some .long) 0 yX11_all_.name) (hn : 48 ≤ n) (l0 : Nat) (l1 : Option Nat) : ∀ (k_ : Nat) (l2 : Int64) (l4 : Int32) {r_ : Int64} (hr : lp_X11_all__5 K h n l0 l1 k_ l2 l4 = some r_) (hx0 : WW W0 G 5 mc ms Q_ 28 [none, none, some (.long r_), none, none] [] h n kc ks), WW W0 G 5 mc ms Q_ 5 [some (.ref l0), some (va_rf l1), some (.long l2), none, some (.int l4)] [] h n kc ks := by
  intro k_
  induction k_ with
  | zero =>
    intro l2 l4 r_ hr
    cases hr
  | succ k_ ih_ =>
    intro l2 l4 r_ hr hx0
    unfold lp_X11_all__5 at hr
    refine rr_iload C dX11_all__5 rfl ?_
    refine rr_aload_n (i := 0) C dX11_all__7 rfl rfl ?_
    replace hr := Option.bind_eq_some_iff.mp hr
    obtain ⟨v1, e2, hr⟩ := hr
    refine rr_rdI C dX11_all__8 fl_X11_443 e2 ?_
    refine rr_icmp_ge (tgt := 28) C dX11_all__11 (by decide) (fun c11_ => ?_) (fun c11_ => ?_)
    · replace hr := (if_pos c11_).symm.trans hr
      obtain rfl := Option.some.inj hr
      exact rr_keep [false, false, true, false, false] (hx0)
    · replace hr := (if_neg c11_).symm.trans hr
      refine rr_lload_n (i := 2) C dX11_all__14 rfl rfl ?_
      refine rr_aload_nO (i := 1) C dX11_all__15 rfl rfl ?_
      refine rr_iload C dX11_all__16 rfl ?_
      replace hr := Option.bind_eq_some_iff.mp hr
      obtain ⟨a3, e4, hr⟩ := hr
      subst e4
      replace hr := Option.bind_eq_some_iff.mp hr
      obtain ⟨v5, e6, hr⟩ := hr
      refine rr_ldI C dX11_all__18 e6 ?_
      refine rr_i2l C dX11_all__19 ?_
      refine rr_ladd C dX11_all__20 ?_
      refine rr_lstore_n (i := 2) C dX11_all__21 rfl (by decide) ?_
      show WW W0 G 5 _ _ _ 22 [some (.ref l0), some (.ref a3), some (.long (l2 + (Int32.toInt64 v5))), none, some (.int l4)] [] h n _ _
      refine rr_iinc (v := l4 + 1) C dX11_all__22 rfl rfl ?_
      show WW W0 G 5 _ _ _ 25 [some (.ref l0), some (.ref a3), some (.long (l2 + (Int32.toInt64 v5))), none, some (.int (l4 + 1))] [] h n _ _
      refine rr_goto (tgt := 5) C dX11_all__25 (by decide) ?_
      exact rr_keep [true, true, true, false, true] (ih_ _ _ hr hx0)
set_option maxRecDepth 100000 in
set_option maxHeartbeats 4000000 in
theorem c_X11_all_ {K : Nat} {G : mm_G} {l : Launch} {h : mm_H} {n : Nat} (l0 : Nat) (l1 : Option Nat) {r_ : Int64} (hn : 48 ≤ n) (hr : q_X11_all_ K h n l0 l1 = some r_) : Sp G l yX11_all_ cX11_all_ 5 (some .long) 0 0 0 [.ref l0, va_rf l1] h n (fun v h' n' => v = some (.long r_) ∧ h' = h ∧ n' = n) := by
  refine Sp_of (by decide +kernel) (by rcases l1 with _ | _ <;> exact Nat.le_of_ble_eq_true rfl) hn ?_
  intro W0 hwl C
  subst hwl
  unfold q_X11_all_ at hr
  rw [show mm_en 5 [.ref l0, va_rf l1] = [some (.ref l0), some (va_rf l1), none, none, none] from by rcases l1 with _ | _ <;> rfl]
  show WW W0 G 5 0 0 _ 0 [some (.ref l0), some (va_rf l1), none, none, none] [] h n 0 0
  refine rr_lconst (v := 0) C dX11_all__0 (by decide) ?_
  refine rr_lstore_n (i := 2) C dX11_all__1 rfl (by decide) ?_
  rw [mm_set2_rf (i := 1) (r := l1) rfl]
  show WW W0 G 5 _ _ _ 2 [some (.ref l0), some (va_rf l1), some (.long 0), none, none] [] h n _ _
  refine rr_iconst (v := 0) C dX11_all__2 (by decide) ?_
  refine rr_istore C dX11_all__3 (by decide) ?_
  show WW W0 G 5 _ _ _ 5 [some (.ref l0), some (va_rf l1), some (.long 0), none, some (.int 0)] [] h n _ _
  replace hr := Option.bind_eq_some_iff.mp hr
  obtain ⟨v8, e9, hr⟩ := hr
  refine rr_keep [true, true, true, false, true] (w_X11_all__5 C (by omega) l0 l1 K 0 0 e9 ?_)
  show WW W0 G 5 _ _ _ 28 [none, none, some (.long v8), none, none] [] h n _ _
  refine rr_lload_n (i := 2) C dX11_all__28 rfl rfl ?_
  obtain rfl := Option.some.inj hr
  exact rr_lret C dX11_all__29 rfl ⟨rfl, rfl, rfl⟩
def q_X11_points (K : Nat) (h : mm_H) (n : Nat) (l0 : Nat) (l1 : Int32) (l2 : Int32) (l3 : Int32) (l4 : Int32) (l5 : Int32) : Option (Int32 × mm_H) :=
  (ckq h n l0 10).bind fun u1 =>
  (q_X11_isFirm K h n l0 l1).bind fun v3 =>
  if v3 = 0 then
    some ((-1), h)
  else
  (q_X11_isHead K h n l2).bind fun v5 =>
  if v5 = 0 then
    some ((-1), h)
  else
  (q_X11_isReview K h n l3).bind fun v7 =>
  if v7 = 0 then
    some ((-1), h)
  else
  (q_X11_isIn K h n l4 0 2).bind fun v9 =>
  if v9 = 0 then
    some ((-1), h)
  else
  (q_X11_isIn K h n l5 0 2).bind fun v11 =>
  if v11 = 0 then
    some ((-1), h)
  else
  (ckq h n l0 10).bind fun u13 =>
  (q_X11_gathers K h n l0 l1 l2 l3 l4 (-1)).bind fun v15 =>
  if l5 = 0 then
    (rdI v15 n l0 10 65).bind fun v17 =>
    some (v17, v15)
  else
  if l5 = 1 then
    (rdR v15 n l0 10 62).bind fun v19 =>
    (ckq v15 n l0 10).bind fun u21 =>
    (q_X11_all_ K v15 n l0 v19).bind fun v23 =>
    some (Int64.toInt32 v23, v15)
  else
  (rdR v15 n l0 10 63).bind fun v25 =>
  (ckq v15 n l0 10).bind fun u27 =>
  (q_X11_all_ K v15 n l0 v25).bind fun v29 =>
  some (Int64.toInt32 v29, v15)
set_option maxRecDepth 100000 in
set_option maxHeartbeats 4000000 in
theorem c_X11_points {K : Nat} {G : mm_G} {l : Launch} {h : mm_H} {n : Nat} (l0 : Nat) (l1 : Int32) (l2 : Int32) (l3 : Int32) (l4 : Int32) (l5 : Int32) {r_ : Int32 × mm_H} (hn : 48 ≤ n) (hr : q_X11_points K h n l0 l1 l2 l3 l4 l5 = some r_) : Sp G l yX11_points cX11_points 6 (some .int) 3 0 0 [.ref l0, .int l1, .int l2, .int l3, .int l4, .int l5] h n (fun v h' n' => v = some (.int r_.1) ∧ h' = r_.2 ∧ n' = n) := by
  refine Sp_of (by decide +kernel) (Nat.le_of_ble_eq_true rfl) hn ?_
  intro W0 hwl C
  subst hwl
  unfold q_X11_points at hr
  show WW W0 G 6 0 0 _ 0 [some (.ref l0), some (.int l1), some (.int l2), some (.int l3), some (.int l4), some (.int l5)] [] h n 0 0
  refine rr_aload_n (i := 0) C dX11_points_0 rfl rfl ?_
  refine rr_iload_n (i := 1) C dX11_points_1 rfl rfl ?_
  replace hr := Option.bind_eq_some_iff.mp hr
  obtain ⟨u1, e2, hr⟩ := hr
  replace hr := Option.bind_eq_some_iff.mp hr
  obtain ⟨v3, e4, hr⟩ := hr
  refine rr_callVq (as := [.int l1]) (st := []) (mc' := 0) (ms' := 0) C dX11_points_2 iv_X11_177 (by decide) e2 rfl (Nat.le_of_ble_eq_true rfl) (c_X11_isFirm l0 l1 (by omega) e4) (fun v_ h_ n_ q_ => ?_)
  obtain ⟨q1_, q2_, q3_⟩ := q_
  subst v_; subst h_; subst n_
  show WW W0 G 6 _ _ _ 5 [some (.ref l0), some (.int l1), some (.int l2), some (.int l3), some (.int l4), some (.int l5)] [.int v3] h n _ _
  refine rr_if_eq (tgt := 42) C dX11_points_5 (by decide) (fun c5_ => ?_) (fun c5_ => ?_)
  · replace hr := (if_pos c5_).symm.trans hr
    refine rr_iconst (v := (-1)) C dX11_points_42 (by decide) ?_
    obtain rfl := Option.some.inj hr
    exact rr_iret (ty := .int) C dX11_points_43 rfl rfl ⟨rfl, rfl, rfl⟩
  · replace hr := (if_neg c5_).symm.trans hr
    refine rr_iload_n (i := 2) C dX11_points_8 rfl rfl ?_
    replace hr := Option.bind_eq_some_iff.mp hr
    obtain ⟨v5, e6, hr⟩ := hr
    refine rr_callS (as := [.int l2]) (st := []) (mc' := 0) (ms' := 0) C dX11_points_9 it_X11_205 (by decide) (Nat.le_of_ble_eq_true rfl) (c_X11_isHead l2 (by omega) e6) (fun v_ h_ n_ q_ => ?_)
    obtain ⟨q1_, q2_, q3_⟩ := q_
    subst v_; subst h_; subst n_
    show WW W0 G 6 _ _ _ 12 [some (.ref l0), some (.int l1), some (.int l2), some (.int l3), some (.int l4), some (.int l5)] [.int v5] h n _ _
    refine rr_if_eq (tgt := 42) C dX11_points_12 (by decide) (fun c12_ => ?_) (fun c12_ => ?_)
    · replace hr := (if_pos c12_).symm.trans hr
      refine rr_iconst (v := (-1)) C dX11_points_42 (by decide) ?_
      obtain rfl := Option.some.inj hr
      exact rr_iret (ty := .int) C dX11_points_43 rfl rfl ⟨rfl, rfl, rfl⟩
    · replace hr := (if_neg c12_).symm.trans hr
      refine rr_iload_n (i := 3) C dX11_points_15 rfl rfl ?_
      replace hr := Option.bind_eq_some_iff.mp hr
      obtain ⟨v7, e8, hr⟩ := hr
      refine rr_callS (as := [.int l3]) (st := []) (mc' := 0) (ms' := 0) C dX11_points_16 it_X11_383 (by decide) (Nat.le_of_ble_eq_true rfl) (c_X11_isReview l3 (by omega) e8) (fun v_ h_ n_ q_ => ?_)
      obtain ⟨q1_, q2_, q3_⟩ := q_
      subst v_; subst h_; subst n_
      show WW W0 G 6 _ _ _ 19 [some (.ref l0), some (.int l1), some (.int l2), some (.int l3), some (.int l4), some (.int l5)] [.int v7] h n _ _
      refine rr_if_eq (tgt := 42) C dX11_points_19 (by decide) (fun c19_ => ?_) (fun c19_ => ?_)
      · replace hr := (if_pos c19_).symm.trans hr
        refine rr_iconst (v := (-1)) C dX11_points_42 (by decide) ?_
        obtain rfl := Option.some.inj hr
        exact rr_iret (ty := .int) C dX11_points_43 rfl rfl ⟨rfl, rfl, rfl⟩
      · replace hr := (if_neg c19_).symm.trans hr
        refine rr_iload C dX11_points_22 rfl ?_
        refine rr_iconst (v := 0) C dX11_points_24 (by decide) ?_
        refine rr_iconst (v := 2) C dX11_points_25 (by decide) ?_
        replace hr := Option.bind_eq_some_iff.mp hr
        obtain ⟨v9, e10, hr⟩ := hr
        refine rr_callS (as := [.int l4, .int 0, .int 2]) (st := []) (mc' := 0) (ms' := 0) C dX11_points_26 it_X11_165 (by decide) (Nat.le_of_ble_eq_true rfl) (c_X11_isIn l4 0 2 (by omega) e10) (fun v_ h_ n_ q_ => ?_)
        obtain ⟨q1_, q2_, q3_⟩ := q_
        subst v_; subst h_; subst n_
        show WW W0 G 6 _ _ _ 29 [some (.ref l0), some (.int l1), some (.int l2), some (.int l3), some (.int l4), some (.int l5)] [.int v9] h n _ _
        refine rr_if_eq (tgt := 42) C dX11_points_29 (by decide) (fun c29_ => ?_) (fun c29_ => ?_)
        · replace hr := (if_pos c29_).symm.trans hr
          refine rr_iconst (v := (-1)) C dX11_points_42 (by decide) ?_
          obtain rfl := Option.some.inj hr
          exact rr_iret (ty := .int) C dX11_points_43 rfl rfl ⟨rfl, rfl, rfl⟩
        · replace hr := (if_neg c29_).symm.trans hr
          refine rr_iload C dX11_points_32 rfl ?_
          refine rr_iconst (v := 0) C dX11_points_34 (by decide) ?_
          refine rr_iconst (v := 2) C dX11_points_35 (by decide) ?_
          replace hr := Option.bind_eq_some_iff.mp hr
          obtain ⟨v11, e12, hr⟩ := hr
          refine rr_callS (as := [.int l5, .int 0, .int 2]) (st := []) (mc' := 0) (ms' := 0) C dX11_points_36 it_X11_165 (by decide) (Nat.le_of_ble_eq_true rfl) (c_X11_isIn l5 0 2 (by omega) e12) (fun v_ h_ n_ q_ => ?_)
          obtain ⟨q1_, q2_, q3_⟩ := q_
          subst v_; subst h_; subst n_
          show WW W0 G 6 _ _ _ 39 [some (.ref l0), some (.int l1), some (.int l2), some (.int l3), some (.int l4), some (.int l5)] [.int v11] h n _ _
          refine rr_if_ne (tgt := 44) C dX11_points_39 (by decide) (fun c39_ => ?_) (fun c39_ => ?_)
          · replace hr := (if_neg c39_).symm.trans hr
            refine rr_aload_n (i := 0) C dX11_points_44 rfl rfl ?_
            refine rr_iload_n (i := 1) C dX11_points_45 rfl rfl ?_
            refine rr_iload_n (i := 2) C dX11_points_46 rfl rfl ?_
            refine rr_iload_n (i := 3) C dX11_points_47 rfl rfl ?_
            refine rr_iload C dX11_points_48 rfl ?_
            refine rr_iconst (v := (-1)) C dX11_points_50 (by decide) ?_
            replace hr := Option.bind_eq_some_iff.mp hr
            obtain ⟨u13, e14, hr⟩ := hr
            replace hr := Option.bind_eq_some_iff.mp hr
            obtain ⟨v15, e16, hr⟩ := hr
            refine rr_callVq (as := [.int l1, .int l2, .int l3, .int l4, .int (-1)]) (st := []) (mc' := 0) (ms' := 0) C dX11_points_51 iv_X11_446 (by decide) e14 rfl (Nat.le_of_ble_eq_true rfl) (c_X11_gathers l0 l1 l2 l3 l4 (-1) (by omega) e16) (fun v_ h_ n_ q_ => ?_)
            obtain ⟨q1_, q2_, q3_⟩ := q_
            subst v_; subst h_; subst n_
            show WW W0 G 6 _ _ _ 54 [some (.ref l0), some (.int l1), some (.int l2), some (.int l3), some (.int l4), some (.int l5)] [] v15 n _ _
            refine rr_iload C dX11_points_54 rfl ?_
            refine rr_if_ne (tgt := 66) C dX11_points_56 (by decide) (fun c56_ => ?_) (fun c56_ => ?_)
            · replace hr := (if_neg c56_).symm.trans hr
              refine rr_iload C dX11_points_66 rfl ?_
              refine rr_iconst (v := 1) C dX11_points_68 (by decide) ?_
              refine rr_icmp_ne (tgt := 83) C dX11_points_69 (by decide) (fun c69_ => ?_) (fun c69_ => ?_)
              · replace hr := (if_neg c69_).symm.trans hr
                refine rr_aload_n (i := 0) C dX11_points_83 rfl rfl ?_
                refine rr_aload_n (i := 0) C dX11_points_84 rfl rfl ?_
                replace hr := Option.bind_eq_some_iff.mp hr
                obtain ⟨v25, e26, hr⟩ := hr
                refine rr_rdR C dX11_points_85 fl_X11_156 e26 ?_
                replace hr := Option.bind_eq_some_iff.mp hr
                obtain ⟨u27, e28, hr⟩ := hr
                replace hr := Option.bind_eq_some_iff.mp hr
                obtain ⟨v29, e30, hr⟩ := hr
                refine rr_callVq (as := [va_rf v25]) (st := []) (mc' := 0) (ms' := 0) C dX11_points_88 iv_X11_450 (by decide) e28 rfl (Nat.le_of_ble_eq_true rfl) (c_X11_all_ l0 v25 (by omega) e30) (fun v_ h_ n_ q_ => ?_)
                obtain ⟨q1_, q2_, q3_⟩ := q_
                subst v_; subst h_; subst n_
                show WW W0 G 6 _ _ _ 91 [some (.ref l0), some (.int l1), some (.int l2), some (.int l3), some (.int l4), some (.int l5)] [.long v29] v15 n _ _
                refine rr_l2i C dX11_points_91 ?_
                obtain rfl := Option.some.inj hr
                exact rr_iret (ty := .int) C dX11_points_92 rfl rfl ⟨rfl, rfl, rfl⟩
              · replace hr := (if_pos c69_).symm.trans hr
                refine rr_aload_n (i := 0) C dX11_points_72 rfl rfl ?_
                refine rr_aload_n (i := 0) C dX11_points_73 rfl rfl ?_
                replace hr := Option.bind_eq_some_iff.mp hr
                obtain ⟨v19, e20, hr⟩ := hr
                refine rr_rdR C dX11_points_74 fl_X11_153 e20 ?_
                replace hr := Option.bind_eq_some_iff.mp hr
                obtain ⟨u21, e22, hr⟩ := hr
                replace hr := Option.bind_eq_some_iff.mp hr
                obtain ⟨v23, e24, hr⟩ := hr
                refine rr_callVq (as := [va_rf v19]) (st := []) (mc' := 0) (ms' := 0) C dX11_points_77 iv_X11_450 (by decide) e22 rfl (Nat.le_of_ble_eq_true rfl) (c_X11_all_ l0 v19 (by omega) e24) (fun v_ h_ n_ q_ => ?_)
                obtain ⟨q1_, q2_, q3_⟩ := q_
                subst v_; subst h_; subst n_
                show WW W0 G 6 _ _ _ 80 [some (.ref l0), some (.int l1), some (.int l2), some (.int l3), some (.int l4), some (.int l5)] [.long v23] v15 n _ _
                refine rr_goto (tgt := 91) C dX11_points_80 (by decide) ?_
                refine rr_l2i C dX11_points_91 ?_
                obtain rfl := Option.some.inj hr
                exact rr_iret (ty := .int) C dX11_points_92 rfl rfl ⟨rfl, rfl, rfl⟩
            · replace hr := (if_pos c56_).symm.trans hr
              refine rr_aload_n (i := 0) C dX11_points_59 rfl rfl ?_
              replace hr := Option.bind_eq_some_iff.mp hr
              obtain ⟨v17, e18, hr⟩ := hr
              refine rr_rdI C dX11_points_60 fl_X11_443 e18 ?_
              refine rr_goto (tgt := 92) C dX11_points_63 (by decide) ?_
              obtain rfl := Option.some.inj hr
              exact rr_iret (ty := .int) C dX11_points_92 rfl rfl ⟨rfl, rfl, rfl⟩
          · replace hr := (if_pos c39_).symm.trans hr
            refine rr_iconst (v := (-1)) C dX11_points_42 (by decide) ?_
            obtain rfl := Option.some.inj hr
            exact rr_iret (ty := .int) C dX11_points_43 rfl rfl ⟨rfl, rfl, rfl⟩
def q_X11_meanAt (K : Nat) (h : mm_H) (n : Nat) (l0 : Nat) (l1 : Int32) : Option (Int64) :=
  (rdR h n l0 10 62).bind fun v1 =>
  (ckq h n l0 10).bind fun u3 =>
  (q_X11_all_ K h n l0 v1).bind fun v5 =>
  if (lg_cmp v5 0) = 0 then
    some 0
  else
  (rdR h n l0 10 63).bind fun v7 =>
  (ckq h n l0 10).bind fun u9 =>
  (q_X11_all_ K h n l0 v7).bind fun v11 =>
  (rdR h n l0 10 62).bind fun v13 =>
  (ckq h n l0 10).bind fun u15 =>
  (q_X11_all_ K h n l0 v13).bind fun v17 =>
  if v17 = 0 then none else
  some ((v11 * (Int32.toInt64 l1)) / v17)
set_option maxRecDepth 100000 in
set_option maxHeartbeats 4000000 in
theorem c_X11_meanAt {K : Nat} {G : mm_G} {l : Launch} {h : mm_H} {n : Nat} (l0 : Nat) (l1 : Int32) {r_ : Int64} (hn : 48 ≤ n) (hr : q_X11_meanAt K h n l0 l1 = some r_) : Sp G l yX11_meanAt cX11_meanAt 2 (some .long) 1 0 0 [.ref l0, .int l1] h n (fun v h' n' => v = some (.long r_) ∧ h' = h ∧ n' = n) := by
  refine Sp_of (by decide +kernel) (Nat.le_of_ble_eq_true rfl) hn ?_
  intro W0 hwl C
  subst hwl
  unfold q_X11_meanAt at hr
  show WW W0 G 2 0 0 _ 0 [some (.ref l0), some (.int l1)] [] h n 0 0
  refine rr_aload_n (i := 0) C dX11_meanAt_0 rfl rfl ?_
  refine rr_aload_n (i := 0) C dX11_meanAt_1 rfl rfl ?_
  replace hr := Option.bind_eq_some_iff.mp hr
  obtain ⟨v1, e2, hr⟩ := hr
  refine rr_rdR C dX11_meanAt_2 fl_X11_153 e2 ?_
  replace hr := Option.bind_eq_some_iff.mp hr
  obtain ⟨u3, e4, hr⟩ := hr
  replace hr := Option.bind_eq_some_iff.mp hr
  obtain ⟨v5, e6, hr⟩ := hr
  refine rr_callVq (as := [va_rf v1]) (st := []) (mc' := 0) (ms' := 0) C dX11_meanAt_5 iv_X11_450 (by decide) e4 rfl (Nat.le_of_ble_eq_true rfl) (c_X11_all_ l0 v1 (by omega) e6) (fun v_ h_ n_ q_ => ?_)
  obtain ⟨q1_, q2_, q3_⟩ := q_
  subst v_; subst h_; subst n_
  show WW W0 G 2 _ _ _ 8 [some (.ref l0), some (.int l1)] [.long v5] h n _ _
  refine rr_lconst (v := 0) C dX11_meanAt_8 (by decide) ?_
  refine rr_lcmp C dX11_meanAt_9 ?_
  refine rr_if_ne (tgt := 17) C dX11_meanAt_10 (by decide) (fun c10_ => ?_) (fun c10_ => ?_)
  · replace hr := (if_neg c10_).symm.trans hr
    refine rr_aload_n (i := 0) C dX11_meanAt_17 rfl rfl ?_
    refine rr_aload_n (i := 0) C dX11_meanAt_18 rfl rfl ?_
    replace hr := Option.bind_eq_some_iff.mp hr
    obtain ⟨v7, e8, hr⟩ := hr
    refine rr_rdR C dX11_meanAt_19 fl_X11_156 e8 ?_
    replace hr := Option.bind_eq_some_iff.mp hr
    obtain ⟨u9, e10, hr⟩ := hr
    replace hr := Option.bind_eq_some_iff.mp hr
    obtain ⟨v11, e12, hr⟩ := hr
    refine rr_callVq (as := [va_rf v7]) (st := []) (mc' := 0) (ms' := 0) C dX11_meanAt_22 iv_X11_450 (by decide) e10 rfl (Nat.le_of_ble_eq_true rfl) (c_X11_all_ l0 v7 (by omega) e12) (fun v_ h_ n_ q_ => ?_)
    obtain ⟨q1_, q2_, q3_⟩ := q_
    subst v_; subst h_; subst n_
    show WW W0 G 2 _ _ _ 25 [some (.ref l0), some (.int l1)] [.long v11] h n _ _
    refine rr_iload_n (i := 1) C dX11_meanAt_25 rfl rfl ?_
    refine rr_i2l C dX11_meanAt_26 ?_
    refine rr_lmul C dX11_meanAt_27 ?_
    refine rr_aload_n (i := 0) C dX11_meanAt_28 rfl rfl ?_
    refine rr_aload_n (i := 0) C dX11_meanAt_29 rfl rfl ?_
    replace hr := Option.bind_eq_some_iff.mp hr
    obtain ⟨v13, e14, hr⟩ := hr
    refine rr_rdR C dX11_meanAt_30 fl_X11_153 e14 ?_
    replace hr := Option.bind_eq_some_iff.mp hr
    obtain ⟨u15, e16, hr⟩ := hr
    replace hr := Option.bind_eq_some_iff.mp hr
    obtain ⟨v17, e18, hr⟩ := hr
    refine rr_callVq (as := [va_rf v13]) (st := [.long (v11 * (Int32.toInt64 l1))]) (mc' := 0) (ms' := 0) C dX11_meanAt_33 iv_X11_450 (by decide) e16 rfl (Nat.le_of_ble_eq_true rfl) (c_X11_all_ l0 v13 (by omega) e18) (fun v_ h_ n_ q_ => ?_)
    obtain ⟨q1_, q2_, q3_⟩ := q_
    subst v_; subst h_; subst n_
    show WW W0 G 2 _ _ _ 36 [some (.ref l0), some (.int l1)] [.long v17, .long (v11 * (Int32.toInt64 l1))] h n _ _
    by_cases z19 : v17 = 0
    · replace hr := (if_pos z19).symm.trans hr
      cases hr
    replace hr := (if_neg z19).symm.trans hr
    refine rr_ldiv C dX11_meanAt_36 z19 ?_
    obtain rfl := Option.some.inj hr
    exact rr_lret C dX11_meanAt_37 rfl ⟨rfl, rfl, rfl⟩
  · replace hr := (if_pos c10_).symm.trans hr
    refine rr_lconst (v := 0) C dX11_meanAt_13 (by decide) ?_
    refine rr_goto (tgt := 37) C dX11_meanAt_14 (by decide) ?_
    obtain rfl := Option.some.inj hr
    exact rr_lret C dX11_meanAt_37 rfl ⟨rfl, rfl, rfl⟩

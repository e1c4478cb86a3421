def q_X3_kindOf (K : Nat) (h : mm_H) (n : Nat) (l0 : Int32) : Option (Int32) :=
  if l0 < 97 then
    if l0 < 48 then
      if l0 = 10 then
        some 4
      else
      if l0 = 32 then
        some 4
      else
      if l0 = 40 then
        some 3
      else
      if l0 = 41 then
        some 3
      else
      if l0 = 59 then
        some 3
      else
      if l0 = 60 then
        some 3
      else
      if l0 = 61 then
        some 3
      else
      if l0 = 62 then
        some 3
      else
      some 5
    else
    if 57 < l0 then
      if l0 = 10 then
        some 4
      else
      if l0 = 32 then
        some 4
      else
      if l0 = 40 then
        some 3
      else
      if l0 = 41 then
        some 3
      else
      if l0 = 59 then
        some 3
      else
      if l0 = 60 then
        some 3
      else
      if l0 = 61 then
        some 3
      else
      if l0 = 62 then
        some 3
      else
      some 5
    else
    some 2
  else
  if 122 < l0 then
    if l0 < 48 then
      if l0 = 10 then
        some 4
      else
      if l0 = 32 then
        some 4
      else
      if l0 = 40 then
        some 3
      else
      if l0 = 41 then
        some 3
      else
      if l0 = 59 then
        some 3
      else
      if l0 = 60 then
        some 3
      else
      if l0 = 61 then
        some 3
      else
      if l0 = 62 then
        some 3
      else
      some 5
    else
    if 57 < l0 then
      if l0 = 10 then
        some 4
      else
      if l0 = 32 then
        some 4
      else
      if l0 = 40 then
        some 3
      else
      if l0 = 41 then
        some 3
      else
      if l0 = 59 then
        some 3
      else
      if l0 = 60 then
        some 3
      else
      if l0 = 61 then
        some 3
      else
      if l0 = 62 then
        some 3
      else
      some 5
    else
    some 2
  else
  some 1
set_option maxRecDepth 100000 in
set_option maxHeartbeats 4000000 in
theorem c_X3_kindOf {K : Nat} {G : mm_G} {l : Launch} {h : mm_H} {n : Nat} (l0 : Int32) {r_ : Int32} (hn : 48 ≤ n) (hr : q_X3_kindOf K h n l0 = some r_) : Sp G l yX3_kindOf cX3_kindOf 1 (some .int) 0 0 0 [.int l0] h n (fun v h' n' => v = some (.int r_) ∧ h' = h ∧ n' = n) := by
  refine Sp_of (by decide +kernel) (Nat.le_of_ble_eq_true rfl) hn ?_
  intro W0 hwl C
  subst hwl
  unfold q_X3_kindOf at hr
  show WW W0 G 1 0 0 _ 0 [some (.int l0)] [] h n 0 0
  refine rr_iload_n (i := 0) C dX3_kindOf_0 rfl rfl ?_
  refine rr_bipush (v := 97) C dX3_kindOf_1 (by decide) ?_
  refine rr_icmp_lt (tgt := 14) C dX3_kindOf_3 (by decide) (fun c3_ => ?_) (fun c3_ => ?_)
  · replace hr := (if_pos c3_).symm.trans hr
    refine rr_iload_n (i := 0) C dX3_kindOf_14 rfl rfl ?_
    refine rr_bipush (v := 48) C dX3_kindOf_15 (by decide) ?_
    refine rr_icmp_lt (tgt := 28) C dX3_kindOf_17 (by decide) (fun c17_ => ?_) (fun c17_ => ?_)
    · replace hr := (if_pos c17_).symm.trans hr
      refine rr_iload_n (i := 0) C dX3_kindOf_28 rfl rfl ?_
      by_cases s29_10 : l0 = 10
      · replace hr := (if_pos s29_10).symm.trans hr
        refine rr_lookup (off := 75) (tgt := 104) C dX3_kindOf_29 (by decide) (by rw [s29_10]; rfl) (by decide) ?_
        refine rr_iconst (v := 4) C dX3_kindOf_104 (by decide) ?_
        obtain rfl := Option.some.inj hr
        exact rr_iret (ty := .int) C dX3_kindOf_105 rfl rfl ⟨rfl, rfl, rfl⟩
      replace hr := (if_neg s29_10).symm.trans hr
      by_cases s29_32 : l0 = 32
      · replace hr := (if_pos s29_32).symm.trans hr
        refine rr_lookup (off := 75) (tgt := 104) C dX3_kindOf_29 (by decide) (by rw [s29_32]; rfl) (by decide) ?_
        refine rr_iconst (v := 4) C dX3_kindOf_104 (by decide) ?_
        obtain rfl := Option.some.inj hr
        exact rr_iret (ty := .int) C dX3_kindOf_105 rfl rfl ⟨rfl, rfl, rfl⟩
      replace hr := (if_neg s29_32).symm.trans hr
      by_cases s29_40 : l0 = 40
      · replace hr := (if_pos s29_40).symm.trans hr
        refine rr_lookup (off := 77) (tgt := 106) C dX3_kindOf_29 (by decide) (by rw [s29_40]; rfl) (by decide) ?_
        refine rr_iconst (v := 3) C dX3_kindOf_106 (by decide) ?_
        obtain rfl := Option.some.inj hr
        exact rr_iret (ty := .int) C dX3_kindOf_107 rfl rfl ⟨rfl, rfl, rfl⟩
      replace hr := (if_neg s29_40).symm.trans hr
      by_cases s29_41 : l0 = 41
      · replace hr := (if_pos s29_41).symm.trans hr
        refine rr_lookup (off := 77) (tgt := 106) C dX3_kindOf_29 (by decide) (by rw [s29_41]; rfl) (by decide) ?_
        refine rr_iconst (v := 3) C dX3_kindOf_106 (by decide) ?_
        obtain rfl := Option.some.inj hr
        exact rr_iret (ty := .int) C dX3_kindOf_107 rfl rfl ⟨rfl, rfl, rfl⟩
      replace hr := (if_neg s29_41).symm.trans hr
      by_cases s29_59 : l0 = 59
      · replace hr := (if_pos s29_59).symm.trans hr
        refine rr_lookup (off := 77) (tgt := 106) C dX3_kindOf_29 (by decide) (by rw [s29_59]; rfl) (by decide) ?_
        refine rr_iconst (v := 3) C dX3_kindOf_106 (by decide) ?_
        obtain rfl := Option.some.inj hr
        exact rr_iret (ty := .int) C dX3_kindOf_107 rfl rfl ⟨rfl, rfl, rfl⟩
      replace hr := (if_neg s29_59).symm.trans hr
      by_cases s29_60 : l0 = 60
      · replace hr := (if_pos s29_60).symm.trans hr
        refine rr_lookup (off := 77) (tgt := 106) C dX3_kindOf_29 (by decide) (by rw [s29_60]; rfl) (by decide) ?_
        refine rr_iconst (v := 3) C dX3_kindOf_106 (by decide) ?_
        obtain rfl := Option.some.inj hr
        exact rr_iret (ty := .int) C dX3_kindOf_107 rfl rfl ⟨rfl, rfl, rfl⟩
      replace hr := (if_neg s29_60).symm.trans hr
      by_cases s29_61 : l0 = 61
      · replace hr := (if_pos s29_61).symm.trans hr
        refine rr_lookup (off := 77) (tgt := 106) C dX3_kindOf_29 (by decide) (by rw [s29_61]; rfl) (by decide) ?_
        refine rr_iconst (v := 3) C dX3_kindOf_106 (by decide) ?_
        obtain rfl := Option.some.inj hr
        exact rr_iret (ty := .int) C dX3_kindOf_107 rfl rfl ⟨rfl, rfl, rfl⟩
      replace hr := (if_neg s29_61).symm.trans hr
      by_cases s29_62 : l0 = 62
      · replace hr := (if_pos s29_62).symm.trans hr
        refine rr_lookup (off := 77) (tgt := 106) C dX3_kindOf_29 (by decide) (by rw [s29_62]; rfl) (by decide) ?_
        refine rr_iconst (v := 3) C dX3_kindOf_106 (by decide) ?_
        obtain rfl := Option.some.inj hr
        exact rr_iret (ty := .int) C dX3_kindOf_107 rfl rfl ⟨rfl, rfl, rfl⟩
      replace hr := (if_neg s29_62).symm.trans hr
      refine rr_lookup (off := 79) (tgt := 108) C dX3_kindOf_29 (by decide) ((lv_osw s29_10 rfl).trans ((lv_osw s29_32 rfl).trans ((lv_osw s29_40 rfl).trans ((lv_osw s29_41 rfl).trans ((lv_osw s29_59 rfl).trans ((lv_osw s29_60 rfl).trans ((lv_osw s29_61 rfl).trans ((lv_osw s29_62 rfl).trans rfl)))))))) (by decide) ?_
      refine rr_iconst (v := 5) C dX3_kindOf_108 (by decide) ?_
      obtain rfl := Option.some.inj hr
      exact rr_iret (ty := .int) C dX3_kindOf_109 rfl rfl ⟨rfl, rfl, rfl⟩
    · replace hr := (if_neg c17_).symm.trans hr
      refine rr_iload_n (i := 0) C dX3_kindOf_20 rfl rfl ?_
      refine rr_bipush (v := 57) C dX3_kindOf_21 (by decide) ?_
      refine rr_icmp_gt (tgt := 28) C dX3_kindOf_23 (by decide) (fun c23_ => ?_) (fun c23_ => ?_)
      · replace hr := (if_pos c23_).symm.trans hr
        refine rr_iload_n (i := 0) C dX3_kindOf_28 rfl rfl ?_
        by_cases s29_10 : l0 = 10
        · replace hr := (if_pos s29_10).symm.trans hr
          refine rr_lookup (off := 75) (tgt := 104) C dX3_kindOf_29 (by decide) (by rw [s29_10]; rfl) (by decide) ?_
          refine rr_iconst (v := 4) C dX3_kindOf_104 (by decide) ?_
          obtain rfl := Option.some.inj hr
          exact rr_iret (ty := .int) C dX3_kindOf_105 rfl rfl ⟨rfl, rfl, rfl⟩
        replace hr := (if_neg s29_10).symm.trans hr
        by_cases s29_32 : l0 = 32
        · replace hr := (if_pos s29_32).symm.trans hr
          refine rr_lookup (off := 75) (tgt := 104) C dX3_kindOf_29 (by decide) (by rw [s29_32]; rfl) (by decide) ?_
          refine rr_iconst (v := 4) C dX3_kindOf_104 (by decide) ?_
          obtain rfl := Option.some.inj hr
          exact rr_iret (ty := .int) C dX3_kindOf_105 rfl rfl ⟨rfl, rfl, rfl⟩
        replace hr := (if_neg s29_32).symm.trans hr
        by_cases s29_40 : l0 = 40
        · replace hr := (if_pos s29_40).symm.trans hr
          refine rr_lookup (off := 77) (tgt := 106) C dX3_kindOf_29 (by decide) (by rw [s29_40]; rfl) (by decide) ?_
          refine rr_iconst (v := 3) C dX3_kindOf_106 (by decide) ?_
          obtain rfl := Option.some.inj hr
          exact rr_iret (ty := .int) C dX3_kindOf_107 rfl rfl ⟨rfl, rfl, rfl⟩
        replace hr := (if_neg s29_40).symm.trans hr
        by_cases s29_41 : l0 = 41
        · replace hr := (if_pos s29_41).symm.trans hr
          refine rr_lookup (off := 77) (tgt := 106) C dX3_kindOf_29 (by decide) (by rw [s29_41]; rfl) (by decide) ?_
          refine rr_iconst (v := 3) C dX3_kindOf_106 (by decide) ?_
          obtain rfl := Option.some.inj hr
          exact rr_iret (ty := .int) C dX3_kindOf_107 rfl rfl ⟨rfl, rfl, rfl⟩
        replace hr := (if_neg s29_41).symm.trans hr
        by_cases s29_59 : l0 = 59
        · replace hr := (if_pos s29_59).symm.trans hr
          refine rr_lookup (off := 77) (tgt := 106) C dX3_kindOf_29 (by decide) (by rw [s29_59]; rfl) (by decide) ?_
          refine rr_iconst (v := 3) C dX3_kindOf_106 (by decide) ?_
          obtain rfl := Option.some.inj hr
          exact rr_iret (ty := .int) C dX3_kindOf_107 rfl rfl ⟨rfl, rfl, rfl⟩
        replace hr := (if_neg s29_59).symm.trans hr
        by_cases s29_60 : l0 = 60
        · replace hr := (if_pos s29_60).symm.trans hr
          refine rr_lookup (off := 77) (tgt := 106) C dX3_kindOf_29 (by decide) (by rw [s29_60]; rfl) (by decide) ?_
          refine rr_iconst (v := 3) C dX3_kindOf_106 (by decide) ?_
          obtain rfl := Option.some.inj hr
          exact rr_iret (ty := .int) C dX3_kindOf_107 rfl rfl ⟨rfl, rfl, rfl⟩
        replace hr := (if_neg s29_60).symm.trans hr
        by_cases s29_61 : l0 = 61
        · replace hr := (if_pos s29_61).symm.trans hr
          refine rr_lookup (off := 77) (tgt := 106) C dX3_kindOf_29 (by decide) (by rw [s29_61]; rfl) (by decide) ?_
          refine rr_iconst (v := 3) C dX3_kindOf_106 (by decide) ?_
          obtain rfl := Option.some.inj hr
          exact rr_iret (ty := .int) C dX3_kindOf_107 rfl rfl ⟨rfl, rfl, rfl⟩
        replace hr := (if_neg s29_61).symm.trans hr
        by_cases s29_62 : l0 = 62
        · replace hr := (if_pos s29_62).symm.trans hr
          refine rr_lookup (off := 77) (tgt := 106) C dX3_kindOf_29 (by decide) (by rw [s29_62]; rfl) (by decide) ?_
          refine rr_iconst (v := 3) C dX3_kindOf_106 (by decide) ?_
          obtain rfl := Option.some.inj hr
          exact rr_iret (ty := .int) C dX3_kindOf_107 rfl rfl ⟨rfl, rfl, rfl⟩
        replace hr := (if_neg s29_62).symm.trans hr
        refine rr_lookup (off := 79) (tgt := 108) C dX3_kindOf_29 (by decide) ((lv_osw s29_10 rfl).trans ((lv_osw s29_32 rfl).trans ((lv_osw s29_40 rfl).trans ((lv_osw s29_41 rfl).trans ((lv_osw s29_59 rfl).trans ((lv_osw s29_60 rfl).trans ((lv_osw s29_61 rfl).trans ((lv_osw s29_62 rfl).trans rfl)))))))) (by decide) ?_
        refine rr_iconst (v := 5) C dX3_kindOf_108 (by decide) ?_
        obtain rfl := Option.some.inj hr
        exact rr_iret (ty := .int) C dX3_kindOf_109 rfl rfl ⟨rfl, rfl, rfl⟩
      · replace hr := (if_neg c23_).symm.trans hr
        refine rr_iconst (v := 2) C dX3_kindOf_26 (by decide) ?_
        obtain rfl := Option.some.inj hr
        exact rr_iret (ty := .int) C dX3_kindOf_27 rfl rfl ⟨rfl, rfl, rfl⟩
  · replace hr := (if_neg c3_).symm.trans hr
    refine rr_iload_n (i := 0) C dX3_kindOf_6 rfl rfl ?_
    refine rr_bipush (v := 122) C dX3_kindOf_7 (by decide) ?_
    refine rr_icmp_gt (tgt := 14) C dX3_kindOf_9 (by decide) (fun c9_ => ?_) (fun c9_ => ?_)
    · replace hr := (if_pos c9_).symm.trans hr
      refine rr_iload_n (i := 0) C dX3_kindOf_14 rfl rfl ?_
      refine rr_bipush (v := 48) C dX3_kindOf_15 (by decide) ?_
      refine rr_icmp_lt (tgt := 28) C dX3_kindOf_17 (by decide) (fun c17_ => ?_) (fun c17_ => ?_)
      · replace hr := (if_pos c17_).symm.trans hr
        refine rr_iload_n (i := 0) C dX3_kindOf_28 rfl rfl ?_
        by_cases s29_10 : l0 = 10
        · replace hr := (if_pos s29_10).symm.trans hr
          refine rr_lookup (off := 75) (tgt := 104) C dX3_kindOf_29 (by decide) (by rw [s29_10]; rfl) (by decide) ?_
          refine rr_iconst (v := 4) C dX3_kindOf_104 (by decide) ?_
          obtain rfl := Option.some.inj hr
          exact rr_iret (ty := .int) C dX3_kindOf_105 rfl rfl ⟨rfl, rfl, rfl⟩
        replace hr := (if_neg s29_10).symm.trans hr
        by_cases s29_32 : l0 = 32
        · replace hr := (if_pos s29_32).symm.trans hr
          refine rr_lookup (off := 75) (tgt := 104) C dX3_kindOf_29 (by decide) (by rw [s29_32]; rfl) (by decide) ?_
          refine rr_iconst (v := 4) C dX3_kindOf_104 (by decide) ?_
          obtain rfl := Option.some.inj hr
          exact rr_iret (ty := .int) C dX3_kindOf_105 rfl rfl ⟨rfl, rfl, rfl⟩
        replace hr := (if_neg s29_32).symm.trans hr
        by_cases s29_40 : l0 = 40
        · replace hr := (if_pos s29_40).symm.trans hr
          refine rr_lookup (off := 77) (tgt := 106) C dX3_kindOf_29 (by decide) (by rw [s29_40]; rfl) (by decide) ?_
          refine rr_iconst (v := 3) C dX3_kindOf_106 (by decide) ?_
          obtain rfl := Option.some.inj hr
          exact rr_iret (ty := .int) C dX3_kindOf_107 rfl rfl ⟨rfl, rfl, rfl⟩
        replace hr := (if_neg s29_40).symm.trans hr
        by_cases s29_41 : l0 = 41
        · replace hr := (if_pos s29_41).symm.trans hr
          refine rr_lookup (off := 77) (tgt := 106) C dX3_kindOf_29 (by decide) (by rw [s29_41]; rfl) (by decide) ?_
          refine rr_iconst (v := 3) C dX3_kindOf_106 (by decide) ?_
          obtain rfl := Option.some.inj hr
          exact rr_iret (ty := .int) C dX3_kindOf_107 rfl rfl ⟨rfl, rfl, rfl⟩
        replace hr := (if_neg s29_41).symm.trans hr
        by_cases s29_59 : l0 = 59
        · replace hr := (if_pos s29_59).symm.trans hr
          refine rr_lookup (off := 77) (tgt := 106) C dX3_kindOf_29 (by decide) (by rw [s29_59]; rfl) (by decide) ?_
          refine rr_iconst (v := 3) C dX3_kindOf_106 (by decide) ?_
          obtain rfl := Option.some.inj hr
          exact rr_iret (ty := .int) C dX3_kindOf_107 rfl rfl ⟨rfl, rfl, rfl⟩
        replace hr := (if_neg s29_59).symm.trans hr
        by_cases s29_60 : l0 = 60
        · replace hr := (if_pos s29_60).symm.trans hr
          refine rr_lookup (off := 77) (tgt := 106) C dX3_kindOf_29 (by decide) (by rw [s29_60]; rfl) (by decide) ?_
          refine rr_iconst (v := 3) C dX3_kindOf_106 (by decide) ?_
          obtain rfl := Option.some.inj hr
          exact rr_iret (ty := .int) C dX3_kindOf_107 rfl rfl ⟨rfl, rfl, rfl⟩
        replace hr := (if_neg s29_60).symm.trans hr
        by_cases s29_61 : l0 = 61
        · replace hr := (if_pos s29_61).symm.trans hr
          refine rr_lookup (off := 77) (tgt := 106) C dX3_kindOf_29 (by decide) (by rw [s29_61]; rfl) (by decide) ?_
          refine rr_iconst (v := 3) C dX3_kindOf_106 (by decide) ?_
          obtain rfl := Option.some.inj hr
          exact rr_iret (ty := .int) C dX3_kindOf_107 rfl rfl ⟨rfl, rfl, rfl⟩
        replace hr := (if_neg s29_61).symm.trans hr
        by_cases s29_62 : l0 = 62
        · replace hr := (if_pos s29_62).symm.trans hr
          refine rr_lookup (off := 77) (tgt := 106) C dX3_kindOf_29 (by decide) (by rw [s29_62]; rfl) (by decide) ?_
          refine rr_iconst (v := 3) C dX3_kindOf_106 (by decide) ?_
          obtain rfl := Option.some.inj hr
          exact rr_iret (ty := .int) C dX3_kindOf_107 rfl rfl ⟨rfl, rfl, rfl⟩
        replace hr := (if_neg s29_62).symm.trans hr
        refine rr_lookup (off := 79) (tgt := 108) C dX3_kindOf_29 (by decide) ((lv_osw s29_10 rfl).trans ((lv_osw s29_32 rfl).trans ((lv_osw s29_40 rfl).trans ((lv_osw s29_41 rfl).trans ((lv_osw s29_59 rfl).trans ((lv_osw s29_60 rfl).trans ((lv_osw s29_61 rfl).trans ((lv_osw s29_62 rfl).trans rfl)))))))) (by decide) ?_
        refine rr_iconst (v := 5) C dX3_kindOf_108 (by decide) ?_
        obtain rfl := Option.some.inj hr
        exact rr_iret (ty := .int) C dX3_kindOf_109 rfl rfl ⟨rfl, rfl, rfl⟩
      · replace hr := (if_neg c17_).symm.trans hr
        refine rr_iload_n (i := 0) C dX3_kindOf_20 rfl rfl ?_
        refine rr_bipush (v := 57) C dX3_kindOf_21 (by decide) ?_
        refine rr_icmp_gt (tgt := 28) C dX3_kindOf_23 (by decide) (fun c23_ => ?_) (fun c23_ => ?_)
        · replace hr := (if_pos c23_).symm.trans hr
          refine rr_iload_n (i := 0) C dX3_kindOf_28 rfl rfl ?_
          by_cases s29_10 : l0 = 10
          · replace hr := (if_pos s29_10).symm.trans hr
            refine rr_lookup (off := 75) (tgt := 104) C dX3_kindOf_29 (by decide) (by rw [s29_10]; rfl) (by decide) ?_
            refine rr_iconst (v := 4) C dX3_kindOf_104 (by decide) ?_
            obtain rfl := Option.some.inj hr
            exact rr_iret (ty := .int) C dX3_kindOf_105 rfl rfl ⟨rfl, rfl, rfl⟩
          replace hr := (if_neg s29_10).symm.trans hr
          by_cases s29_32 : l0 = 32
          · replace hr := (if_pos s29_32).symm.trans hr
            refine rr_lookup (off := 75) (tgt := 104) C dX3_kindOf_29 (by decide) (by rw [s29_32]; rfl) (by decide) ?_
            refine rr_iconst (v := 4) C dX3_kindOf_104 (by decide) ?_
            obtain rfl := Option.some.inj hr
            exact rr_iret (ty := .int) C dX3_kindOf_105 rfl rfl ⟨rfl, rfl, rfl⟩
          replace hr := (if_neg s29_32).symm.trans hr
          by_cases s29_40 : l0 = 40
          · replace hr := (if_pos s29_40).symm.trans hr
            refine rr_lookup (off := 77) (tgt := 106) C dX3_kindOf_29 (by decide) (by rw [s29_40]; rfl) (by decide) ?_
            refine rr_iconst (v := 3) C dX3_kindOf_106 (by decide) ?_
            obtain rfl := Option.some.inj hr
            exact rr_iret (ty := .int) C dX3_kindOf_107 rfl rfl ⟨rfl, rfl, rfl⟩
          replace hr := (if_neg s29_40).symm.trans hr
          by_cases s29_41 : l0 = 41
          · replace hr := (if_pos s29_41).symm.trans hr
            refine rr_lookup (off := 77) (tgt := 106) C dX3_kindOf_29 (by decide) (by rw [s29_41]; rfl) (by decide) ?_
            refine rr_iconst (v := 3) C dX3_kindOf_106 (by decide) ?_
            obtain rfl := Option.some.inj hr
            exact rr_iret (ty := .int) C dX3_kindOf_107 rfl rfl ⟨rfl, rfl, rfl⟩
          replace hr := (if_neg s29_41).symm.trans hr
          by_cases s29_59 : l0 = 59
          · replace hr := (if_pos s29_59).symm.trans hr
            refine rr_lookup (off := 77) (tgt := 106) C dX3_kindOf_29 (by decide) (by rw [s29_59]; rfl) (by decide) ?_
            refine rr_iconst (v := 3) C dX3_kindOf_106 (by decide) ?_
            obtain rfl := Option.some.inj hr
            exact rr_iret (ty := .int) C dX3_kindOf_107 rfl rfl ⟨rfl, rfl, rfl⟩
          replace hr := (if_neg s29_59).symm.trans hr
          by_cases s29_60 : l0 = 60
          · replace hr := (if_pos s29_60).symm.trans hr
            refine rr_lookup (off := 77) (tgt := 106) C dX3_kindOf_29 (by decide) (by rw [s29_60]; rfl) (by decide) ?_
            refine rr_iconst (v := 3) C dX3_kindOf_106 (by decide) ?_
            obtain rfl := Option.some.inj hr
            exact rr_iret (ty := .int) C dX3_kindOf_107 rfl rfl ⟨rfl, rfl, rfl⟩
          replace hr := (if_neg s29_60).symm.trans hr
          by_cases s29_61 : l0 = 61
          · replace hr := (if_pos s29_61).symm.trans hr
            refine rr_lookup (off := 77) (tgt := 106) C dX3_kindOf_29 (by decide) (by rw [s29_61]; rfl) (by decide) ?_
            refine rr_iconst (v := 3) C dX3_kindOf_106 (by decide) ?_
            obtain rfl := Option.some.inj hr
            exact rr_iret (ty := .int) C dX3_kindOf_107 rfl rfl ⟨rfl, rfl, rfl⟩
          replace hr := (if_neg s29_61).symm.trans hr
          by_cases s29_62 : l0 = 62
          · replace hr := (if_pos s29_62).symm.trans hr
            refine rr_lookup (off := 77) (tgt := 106) C dX3_kindOf_29 (by decide) (by rw [s29_62]; rfl) (by decide) ?_
            refine rr_iconst (v := 3) C dX3_kindOf_106 (by decide) ?_
            obtain rfl := Option.some.inj hr
            exact rr_iret (ty := .int) C dX3_kindOf_107 rfl rfl ⟨rfl, rfl, rfl⟩
          replace hr := (if_neg s29_62).symm.trans hr
          refine rr_lookup (off := 79) (tgt := 108) C dX3_kindOf_29 (by decide) ((lv_osw s29_10 rfl).trans ((lv_osw s29_32 rfl).trans ((lv_osw s29_40 rfl).trans ((lv_osw s29_41 rfl).trans ((lv_osw s29_59 rfl).trans ((lv_osw s29_60 rfl).trans ((lv_osw s29_61 rfl).trans ((lv_osw s29_62 rfl).trans rfl)))))))) (by decide) ?_
          refine rr_iconst (v := 5) C dX3_kindOf_108 (by decide) ?_
          obtain rfl := Option.some.inj hr
          exact rr_iret (ty := .int) C dX3_kindOf_109 rfl rfl ⟨rfl, rfl, rfl⟩
        · replace hr := (if_neg c23_).symm.trans hr
          refine rr_iconst (v := 2) C dX3_kindOf_26 (by decide) ?_
          obtain rfl := Option.some.inj hr
          exact rr_iret (ty := .int) C dX3_kindOf_27 rfl rfl ⟨rfl, rfl, rfl⟩
    · replace hr := (if_neg c9_).symm.trans hr
      refine rr_iconst (v := 1) C dX3_kindOf_12 (by decide) ?_
      obtain rfl := Option.some.inj hr
      exact rr_iret (ty := .int) C dX3_kindOf_13 rfl rfl ⟨rfl, rfl, rfl⟩
def lp_X3_step_17 (K : Nat) (n : Nat) (l0 : Nat) : Nat → mm_H → Option (mm_H)
  | 0, _ => none
  | k_ + 1, h =>
    (rdI h n l0 3 3).bind fun v7 =>
    (rdI h n l0 3 1).bind fun v9 =>
    if v9 ≤ v7 then
      some (h)
    else
    (rdI h n l0 3 3).bind fun v11 =>
    (ckq h n l0 3).bind fun u13 =>
    (q_X3_byteAt K h n l0 v11).bind fun v15 =>
    (q_X3_kindOf K h n v15).bind fun v17 =>
    if v17 = 4 then
      (rdI h n l0 3 3).bind fun v19 =>
      (wrF h n l0 3 3 (.int (v19 + 1))).bind fun h21 =>
      lp_X3_step_17 K n l0 k_  h21
    else
    some (h)
def lp_X3_step_112 (K : Nat) (n : Nat) (l0 : Nat) : Nat → mm_H → Option (mm_H)
  | 0, _ => none
  | k_ + 1, h =>
    (rdI h n l0 3 4).bind fun v41 =>
    (rdI h n l0 3 1).bind fun v43 =>
    if v43 ≤ v41 then
      some (h)
    else
    (rdI h n l0 3 2).bind fun v45 =>
    if v45 = 1 then
      (rdI h n l0 3 4).bind fun v47 =>
      (ckq h n l0 3).bind fun u49 =>
      (q_X3_byteAt K h n l0 v47).bind fun v51 =>
      (q_X3_kindOf K h n v51).bind fun v53 =>
      (rdI h n l0 3 2).bind fun v55 =>
      if v53 = v55 then
        (rdI h n l0 3 4).bind fun v57 =>
        (wrF h n l0 3 4 (.int (v57 + 1))).bind fun h59 =>
        lp_X3_step_112 K n l0 k_  h59
      else
      some (h)
    else
    (rdI h n l0 3 2).bind fun v61 =>
    if v61 = 2 then
      (rdI h n l0 3 4).bind fun v63 =>
      (ckq h n l0 3).bind fun u65 =>
      (q_X3_byteAt K h n l0 v63).bind fun v67 =>
      (q_X3_kindOf K h n v67).bind fun v69 =>
      (rdI h n l0 3 2).bind fun v71 =>
      if v69 = v71 then
        (rdI h n l0 3 4).bind fun v73 =>
        (wrF h n l0 3 4 (.int (v73 + 1))).bind fun h75 =>
        lp_X3_step_112 K n l0 k_  h75
      else
      some (h)
    else
    some (h)
def q_X3_step (K : Nat) (h : mm_H) (n : Nat) (l0 : Nat) : Option (mm_H) :=
  (rdI h n l0 3 5).bind fun v1 =>
  if v1 = (-1) then
    (rdI h n l0 3 4).bind fun v3 =>
    (wrF h n l0 3 3 (.int v3)).bind fun h5 =>
    (lp_X3_step_17 K n l0 K  h5).bind fun v23 =>
    (rdI v23 n l0 3 3).bind fun v25 =>
    (wrF v23 n l0 3 4 (.int v25)).bind fun h27 =>
    (rdI h27 n l0 3 3).bind fun v29 =>
    (rdI h27 n l0 3 1).bind fun v31 =>
    if v31 ≤ v29 then
      (wrF h27 n l0 3 2 (.int 0)).bind fun h33 =>
      (rdI h33 n l0 3 2).bind fun v35 =>
      if v35 = 0 then
        some h33
      else
      (rdI h33 n l0 3 4).bind fun v37 =>
      (wrF h33 n l0 3 4 (.int (v37 + 1))).bind fun h39 =>
      (lp_X3_step_112 K n l0 K  h39).bind fun v77 =>
      some v77
    else
    (rdI h27 n l0 3 3).bind fun v79 =>
    (ckq h27 n l0 3).bind fun u81 =>
    (q_X3_byteAt K h27 n l0 v79).bind fun v83 =>
    (q_X3_kindOf K h27 n v83).bind fun v85 =>
    (wrF h27 n l0 3 2 (.int v85)).bind fun h87 =>
    (rdI h87 n l0 3 2).bind fun v89 =>
    if v89 = 0 then
      some h87
    else
    (rdI h87 n l0 3 4).bind fun v91 =>
    (wrF h87 n l0 3 4 (.int (v91 + 1))).bind fun h93 =>
    (lp_X3_step_112 K n l0 K  h93).bind fun v95 =>
    some v95
  else
  some h
set_option maxRecDepth 100000 in
set_option maxHeartbeats 4000000 in
theorem w_X3_step_17 {K : Nat} {W0 : mm_X} {G : mm_G} {mc ms kc ks : Nat} {Q_ : State → Prop} {n : Nat} (C : mm_C W0 G cX3_step yX3_step.cls 1 mc ms none 1 yX3_step.name) (hn : 48 ≤ n) (l0 : Nat) : ∀ (k_ : Nat)  (h : mm_H) {r_ : mm_H} (hr : lp_X3_step_17 K n l0 k_  h = some r_) (hx0 : WW W0 G 1 mc ms Q_ 56 [some (.ref l0)] [] r_ n kc ks), WW W0 G 1 mc ms Q_ 17 [some (.ref l0)] [] h n kc ks := by
  intro k_
  induction k_ with
  | zero =>
    intro h r_ hr
    cases hr
  | succ k_ ih_ =>
    intro h r_ hr hx0
    unfold lp_X3_step_17 at hr
    refine rr_aload_n (i := 0) C dX3_step_17 rfl rfl ?_
    replace hr := Option.bind_eq_some_iff.mp hr
    obtain ⟨v7, e8, hr⟩ := hr
    refine rr_rdI C dX3_step_18 fl_X3_208 e8 ?_
    refine rr_aload_n (i := 0) C dX3_step_21 rfl rfl ?_
    replace hr := Option.bind_eq_some_iff.mp hr
    obtain ⟨v9, e10, hr⟩ := hr
    refine rr_rdI C dX3_step_22 fl_X3_43 e10 ?_
    refine rr_icmp_ge (tgt := 56) C dX3_step_25 (by decide) (fun c25_ => ?_) (fun c25_ => ?_)
    · replace hr := (if_pos c25_).symm.trans hr
      obtain rfl := Option.some.inj hr
      exact rr_keep [true] (hx0)
    · replace hr := (if_neg c25_).symm.trans hr
      refine rr_aload_n (i := 0) C dX3_step_28 rfl rfl ?_
      refine rr_aload_n (i := 0) C dX3_step_29 rfl rfl ?_
      replace hr := Option.bind_eq_some_iff.mp hr
      obtain ⟨v11, e12, hr⟩ := hr
      refine rr_rdI C dX3_step_30 fl_X3_208 e12 ?_
      replace hr := Option.bind_eq_some_iff.mp hr
      obtain ⟨u13, e14, hr⟩ := hr
      replace hr := Option.bind_eq_some_iff.mp hr
      obtain ⟨v15, e16, hr⟩ := hr
      refine rr_callVq (as := [.int v11]) (st := []) (mc' := 0) (ms' := 0) C dX3_step_33 iv_X3_211 (by decide) e14 rfl (Nat.le_of_ble_eq_true rfl) (c_X3_byteAt l0 v11 (by omega) e16) (fun v_ h_ n_ q_ => ?_)
      obtain ⟨q1_, q2_, q3_⟩ := q_
      subst v_; subst h_; subst n_
      show WW W0 G 1 _ _ _ 36 [some (.ref l0)] [.int v15] h n _ _
      replace hr := Option.bind_eq_some_iff.mp hr
      obtain ⟨v17, e18, hr⟩ := hr
      refine rr_callS (as := [.int v15]) (st := []) (mc' := 0) (ms' := 0) C dX3_step_36 it_X3_223 (by decide) (Nat.le_of_ble_eq_true rfl) (c_X3_kindOf v15 (by omega) e18) (fun v_ h_ n_ q_ => ?_)
      obtain ⟨q1_, q2_, q3_⟩ := q_
      subst v_; subst h_; subst n_
      show WW W0 G 1 _ _ _ 39 [some (.ref l0)] [.int v17] h n _ _
      refine rr_iconst (v := 4) C dX3_step_39 (by decide) ?_
      refine rr_icmp_ne (tgt := 56) C dX3_step_40 (by decide) (fun c40_ => ?_) (fun c40_ => ?_)
      · replace hr := (if_neg c40_).symm.trans hr
        obtain rfl := Option.some.inj hr
        exact rr_keep [true] (hx0)
      · replace hr := (if_pos c40_).symm.trans hr
        refine rr_aload_n (i := 0) C dX3_step_43 rfl rfl ?_
        refine rr_dup C dX3_step_44 rfl ?_
        replace hr := Option.bind_eq_some_iff.mp hr
        obtain ⟨v19, e20, hr⟩ := hr
        refine rr_rdI C dX3_step_45 fl_X3_208 e20 ?_
        refine rr_iconst (v := 1) C dX3_step_48 (by decide) ?_
        refine rr_iadd C dX3_step_49 ?_
        replace hr := Option.bind_eq_some_iff.mp hr
        obtain ⟨h21, e22, hr⟩ := hr
        refine rr_wrF C dX3_step_50 fp_X3_208 rfl rfl e22 ?_
        refine rr_goto (tgt := 17) C dX3_step_53 (by decide) ?_
        exact rr_keep [true] (ih_  _ hr hx0)
set_option maxRecDepth 100000 in
set_option maxHeartbeats 4000000 in
theorem w_X3_step_112 {K : Nat} {W0 : mm_X} {G : mm_G} {mc ms kc ks : Nat} {Q_ : State → Prop} {n : Nat} (C : mm_C W0 G cX3_step yX3_step.cls 1 mc ms none 1 yX3_step.name) (hn : 48 ≤ n) (l0 : Nat) : ∀ (k_ : Nat)  (h : mm_H) {r_ : mm_H} (hr : lp_X3_step_112 K n l0 k_  h = some r_) (hx0 : WW W0 G 1 mc ms Q_ 170 [none] [] r_ n kc ks), WW W0 G 1 mc ms Q_ 112 [some (.ref l0)] [] h n kc ks := by
  intro k_
  induction k_ with
  | zero =>
    intro h r_ hr
    cases hr
  | succ k_ ih_ =>
    intro h r_ hr hx0
    unfold lp_X3_step_112 at hr
    refine rr_aload_n (i := 0) C dX3_step_112 rfl rfl ?_
    replace hr := Option.bind_eq_some_iff.mp hr
    obtain ⟨v41, e42, hr⟩ := hr
    refine rr_rdI C dX3_step_113 fl_X3_46 e42 ?_
    refine rr_aload_n (i := 0) C dX3_step_116 rfl rfl ?_
    replace hr := Option.bind_eq_some_iff.mp hr
    obtain ⟨v43, e44, hr⟩ := hr
    refine rr_rdI C dX3_step_117 fl_X3_43 e44 ?_
    refine rr_icmp_ge (tgt := 170) C dX3_step_120 (by decide) (fun c120_ => ?_) (fun c120_ => ?_)
    · replace hr := (if_pos c120_).symm.trans hr
      obtain rfl := Option.some.inj hr
      exact rr_keep [false] (hx0)
    · replace hr := (if_neg c120_).symm.trans hr
      refine rr_aload_n (i := 0) C dX3_step_123 rfl rfl ?_
      replace hr := Option.bind_eq_some_iff.mp hr
      obtain ⟨v45, e46, hr⟩ := hr
      refine rr_rdI C dX3_step_124 fl_X3_74 e46 ?_
      refine rr_iconst (v := 1) C dX3_step_127 (by decide) ?_
      refine rr_icmp_eq (tgt := 139) C dX3_step_128 (by decide) (fun c128_ => ?_) (fun c128_ => ?_)
      · replace hr := (if_pos c128_).symm.trans hr
        refine rr_aload_n (i := 0) C dX3_step_139 rfl rfl ?_
        refine rr_aload_n (i := 0) C dX3_step_140 rfl rfl ?_
        replace hr := Option.bind_eq_some_iff.mp hr
        obtain ⟨v47, e48, hr⟩ := hr
        refine rr_rdI C dX3_step_141 fl_X3_46 e48 ?_
        replace hr := Option.bind_eq_some_iff.mp hr
        obtain ⟨u49, e50, hr⟩ := hr
        replace hr := Option.bind_eq_some_iff.mp hr
        obtain ⟨v51, e52, hr⟩ := hr
        refine rr_callVq (as := [.int v47]) (st := []) (mc' := 0) (ms' := 0) C dX3_step_144 iv_X3_211 (by decide) e50 rfl (Nat.le_of_ble_eq_true rfl) (c_X3_byteAt l0 v47 (by omega) e52) (fun v_ h_ n_ q_ => ?_)
        obtain ⟨q1_, q2_, q3_⟩ := q_
        subst v_; subst h_; subst n_
        show WW W0 G 1 _ _ _ 147 [some (.ref l0)] [.int v51] h n _ _
        replace hr := Option.bind_eq_some_iff.mp hr
        obtain ⟨v53, e54, hr⟩ := hr
        refine rr_callS (as := [.int v51]) (st := []) (mc' := 0) (ms' := 0) C dX3_step_147 it_X3_223 (by decide) (Nat.le_of_ble_eq_true rfl) (c_X3_kindOf v51 (by omega) e54) (fun v_ h_ n_ q_ => ?_)
        obtain ⟨q1_, q2_, q3_⟩ := q_
        subst v_; subst h_; subst n_
        show WW W0 G 1 _ _ _ 150 [some (.ref l0)] [.int v53] h n _ _
        refine rr_aload_n (i := 0) C dX3_step_150 rfl rfl ?_
        replace hr := Option.bind_eq_some_iff.mp hr
        obtain ⟨v55, e56, hr⟩ := hr
        refine rr_rdI C dX3_step_151 fl_X3_74 e56 ?_
        refine rr_icmp_ne (tgt := 170) C dX3_step_154 (by decide) (fun c154_ => ?_) (fun c154_ => ?_)
        · replace hr := (if_neg c154_).symm.trans hr
          obtain rfl := Option.some.inj hr
          exact rr_keep [false] (hx0)
        · replace hr := (if_pos c154_).symm.trans hr
          refine rr_aload_n (i := 0) C dX3_step_157 rfl rfl ?_
          refine rr_dup C dX3_step_158 rfl ?_
          replace hr := Option.bind_eq_some_iff.mp hr
          obtain ⟨v57, e58, hr⟩ := hr
          refine rr_rdI C dX3_step_159 fl_X3_46 e58 ?_
          refine rr_iconst (v := 1) C dX3_step_162 (by decide) ?_
          refine rr_iadd C dX3_step_163 ?_
          replace hr := Option.bind_eq_some_iff.mp hr
          obtain ⟨h59, e60, hr⟩ := hr
          refine rr_wrF C dX3_step_164 fp_X3_46 rfl rfl e60 ?_
          refine rr_goto (tgt := 112) C dX3_step_167 (by decide) ?_
          exact rr_keep [true] (ih_  _ hr hx0)
      · replace hr := (if_neg c128_).symm.trans hr
        refine rr_aload_n (i := 0) C dX3_step_131 rfl rfl ?_
        replace hr := Option.bind_eq_some_iff.mp hr
        obtain ⟨v61, e62, hr⟩ := hr
        refine rr_rdI C dX3_step_132 fl_X3_74 e62 ?_
        refine rr_iconst (v := 2) C dX3_step_135 (by decide) ?_
        refine rr_icmp_ne (tgt := 170) C dX3_step_136 (by decide) (fun c136_ => ?_) (fun c136_ => ?_)
        · replace hr := (if_neg c136_).symm.trans hr
          obtain rfl := Option.some.inj hr
          exact rr_keep [false] (hx0)
        · replace hr := (if_pos c136_).symm.trans hr
          refine rr_aload_n (i := 0) C dX3_step_139 rfl rfl ?_
          refine rr_aload_n (i := 0) C dX3_step_140 rfl rfl ?_
          replace hr := Option.bind_eq_some_iff.mp hr
          obtain ⟨v63, e64, hr⟩ := hr
          refine rr_rdI C dX3_step_141 fl_X3_46 e64 ?_
          replace hr := Option.bind_eq_some_iff.mp hr
          obtain ⟨u65, e66, hr⟩ := hr
          replace hr := Option.bind_eq_some_iff.mp hr
          obtain ⟨v67, e68, hr⟩ := hr
          refine rr_callVq (as := [.int v63]) (st := []) (mc' := 0) (ms' := 0) C dX3_step_144 iv_X3_211 (by decide) e66 rfl (Nat.le_of_ble_eq_true rfl) (c_X3_byteAt l0 v63 (by omega) e68) (fun v_ h_ n_ q_ => ?_)
          obtain ⟨q1_, q2_, q3_⟩ := q_
          subst v_; subst h_; subst n_
          show WW W0 G 1 _ _ _ 147 [some (.ref l0)] [.int v67] h n _ _
          replace hr := Option.bind_eq_some_iff.mp hr
          obtain ⟨v69, e70, hr⟩ := hr
          refine rr_callS (as := [.int v67]) (st := []) (mc' := 0) (ms' := 0) C dX3_step_147 it_X3_223 (by decide) (Nat.le_of_ble_eq_true rfl) (c_X3_kindOf v67 (by omega) e70) (fun v_ h_ n_ q_ => ?_)
          obtain ⟨q1_, q2_, q3_⟩ := q_
          subst v_; subst h_; subst n_
          show WW W0 G 1 _ _ _ 150 [some (.ref l0)] [.int v69] h n _ _
          refine rr_aload_n (i := 0) C dX3_step_150 rfl rfl ?_
          replace hr := Option.bind_eq_some_iff.mp hr
          obtain ⟨v71, e72, hr⟩ := hr
          refine rr_rdI C dX3_step_151 fl_X3_74 e72 ?_
          refine rr_icmp_ne (tgt := 170) C dX3_step_154 (by decide) (fun c154_ => ?_) (fun c154_ => ?_)
          · replace hr := (if_neg c154_).symm.trans hr
            obtain rfl := Option.some.inj hr
            exact rr_keep [false] (hx0)
          · replace hr := (if_pos c154_).symm.trans hr
            refine rr_aload_n (i := 0) C dX3_step_157 rfl rfl ?_
            refine rr_dup C dX3_step_158 rfl ?_
            replace hr := Option.bind_eq_some_iff.mp hr
            obtain ⟨v73, e74, hr⟩ := hr
            refine rr_rdI C dX3_step_159 fl_X3_46 e74 ?_
            refine rr_iconst (v := 1) C dX3_step_162 (by decide) ?_
            refine rr_iadd C dX3_step_163 ?_
            replace hr := Option.bind_eq_some_iff.mp hr
            obtain ⟨h75, e76, hr⟩ := hr
            refine rr_wrF C dX3_step_164 fp_X3_46 rfl rfl e76 ?_
            refine rr_goto (tgt := 112) C dX3_step_167 (by decide) ?_
            exact rr_keep [true] (ih_  _ hr hx0)
set_option maxRecDepth 100000 in
set_option maxHeartbeats 4000000 in
theorem c_X3_step {K : Nat} {G : mm_G} {l : Launch} {h : mm_H} {n : Nat} (l0 : Nat) {r_ : mm_H} (hn : 48 ≤ n) (hr : q_X3_step K h n l0 = some r_) : Sp G l yX3_step cX3_step 1 none 1 0 0 [.ref l0] h n (fun v h' n' => v = none ∧ h' = r_ ∧ n' = n) := by
  refine Sp_of (by decide +kernel) (Nat.le_of_ble_eq_true rfl) hn ?_
  intro W0 hwl C
  subst hwl
  unfold q_X3_step at hr
  show WW W0 G 1 0 0 _ 0 [some (.ref l0)] [] h n 0 0
  refine rr_aload_n (i := 0) C dX3_step_0 rfl rfl ?_
  replace hr := Option.bind_eq_some_iff.mp hr
  obtain ⟨v1, e2, hr⟩ := hr
  refine rr_rdI C dX3_step_1 fl_X3_18 e2 ?_
  refine rr_iconst (v := (-1)) C dX3_step_4 (by decide) ?_
  refine rr_icmp_eq (tgt := 9) C dX3_step_5 (by decide) (fun c5_ => ?_) (fun c5_ => ?_)
  · replace hr := (if_pos c5_).symm.trans hr
    refine rr_aload_n (i := 0) C dX3_step_9 rfl rfl ?_
    refine rr_aload_n (i := 0) C dX3_step_10 rfl rfl ?_
    replace hr := Option.bind_eq_some_iff.mp hr
    obtain ⟨v3, e4, hr⟩ := hr
    refine rr_rdI C dX3_step_11 fl_X3_46 e4 ?_
    replace hr := Option.bind_eq_some_iff.mp hr
    obtain ⟨h5, e6, hr⟩ := hr
    refine rr_wrF C dX3_step_14 fp_X3_208 rfl rfl e6 ?_
    replace hr := Option.bind_eq_some_iff.mp hr
    obtain ⟨v23, e24, hr⟩ := hr
    refine rr_keep [true] (w_X3_step_17 C (by omega) l0 K  h5 e24 ?_)
    show WW W0 G 1 _ _ _ 56 [some (.ref l0)] [] v23 n _ _
    refine rr_aload_n (i := 0) C dX3_step_56 rfl rfl ?_
    refine rr_aload_n (i := 0) C dX3_step_57 rfl rfl ?_
    replace hr := Option.bind_eq_some_iff.mp hr
    obtain ⟨v25, e26, hr⟩ := hr
    refine rr_rdI C dX3_step_58 fl_X3_208 e26 ?_
    replace hr := Option.bind_eq_some_iff.mp hr
    obtain ⟨h27, e28, hr⟩ := hr
    refine rr_wrF C dX3_step_61 fp_X3_46 rfl rfl e28 ?_
    refine rr_aload_n (i := 0) C dX3_step_64 rfl rfl ?_
    refine rr_aload_n (i := 0) C dX3_step_65 rfl rfl ?_
    replace hr := Option.bind_eq_some_iff.mp hr
    obtain ⟨v29, e30, hr⟩ := hr
    refine rr_rdI C dX3_step_66 fl_X3_208 e30 ?_
    refine rr_aload_n (i := 0) C dX3_step_69 rfl rfl ?_
    replace hr := Option.bind_eq_some_iff.mp hr
    obtain ⟨v31, e32, hr⟩ := hr
    refine rr_rdI C dX3_step_70 fl_X3_43 e32 ?_
    refine rr_icmp_ge (tgt := 90) C dX3_step_73 (by decide) (fun c73_ => ?_) (fun c73_ => ?_)
    · replace hr := (if_pos c73_).symm.trans hr
      refine rr_iconst (v := 0) C dX3_step_90 (by decide) ?_
      replace hr := Option.bind_eq_some_iff.mp hr
      obtain ⟨h33, e34, hr⟩ := hr
      refine rr_wrF C dX3_step_91 fp_X3_74 rfl rfl e34 ?_
      refine rr_aload_n (i := 0) C dX3_step_94 rfl rfl ?_
      replace hr := Option.bind_eq_some_iff.mp hr
      obtain ⟨v35, e36, hr⟩ := hr
      refine rr_rdI C dX3_step_95 fl_X3_74 e36 ?_
      refine rr_if_ne (tgt := 102) C dX3_step_98 (by decide) (fun c98_ => ?_) (fun c98_ => ?_)
      · replace hr := (if_neg c98_).symm.trans hr
        refine rr_aload_n (i := 0) C dX3_step_102 rfl rfl ?_
        refine rr_dup C dX3_step_103 rfl ?_
        replace hr := Option.bind_eq_some_iff.mp hr
        obtain ⟨v37, e38, hr⟩ := hr
        refine rr_rdI C dX3_step_104 fl_X3_46 e38 ?_
        refine rr_iconst (v := 1) C dX3_step_107 (by decide) ?_
        refine rr_iadd C dX3_step_108 ?_
        replace hr := Option.bind_eq_some_iff.mp hr
        obtain ⟨h39, e40, hr⟩ := hr
        refine rr_wrF C dX3_step_109 fp_X3_46 rfl rfl e40 ?_
        replace hr := Option.bind_eq_some_iff.mp hr
        obtain ⟨v77, e78, hr⟩ := hr
        refine rr_keep [true] (w_X3_step_112 C (by omega) l0 K  h39 e78 ?_)
        show WW W0 G 1 _ _ _ 170 [none] [] v77 n _ _
        obtain rfl := Option.some.inj hr
        exact rr_vret C dX3_step_170 rfl ⟨rfl, rfl, rfl⟩
      · replace hr := (if_pos c98_).symm.trans hr
        obtain rfl := Option.some.inj hr
        exact rr_vret C dX3_step_101 rfl ⟨rfl, rfl, rfl⟩
    · replace hr := (if_neg c73_).symm.trans hr
      refine rr_aload_n (i := 0) C dX3_step_76 rfl rfl ?_
      refine rr_aload_n (i := 0) C dX3_step_77 rfl rfl ?_
      replace hr := Option.bind_eq_some_iff.mp hr
      obtain ⟨v79, e80, hr⟩ := hr
      refine rr_rdI C dX3_step_78 fl_X3_208 e80 ?_
      replace hr := Option.bind_eq_some_iff.mp hr
      obtain ⟨u81, e82, hr⟩ := hr
      replace hr := Option.bind_eq_some_iff.mp hr
      obtain ⟨v83, e84, hr⟩ := hr
      refine rr_callVq (as := [.int v79]) (st := [.ref l0]) (mc' := 0) (ms' := 0) C dX3_step_81 iv_X3_211 (by decide) e82 rfl (Nat.le_of_ble_eq_true rfl) (c_X3_byteAt l0 v79 (by omega) e84) (fun v_ h_ n_ q_ => ?_)
      obtain ⟨q1_, q2_, q3_⟩ := q_
      subst v_; subst h_; subst n_
      show WW W0 G 1 _ _ _ 84 [some (.ref l0)] [.int v83, .ref l0] h27 n _ _
      replace hr := Option.bind_eq_some_iff.mp hr
      obtain ⟨v85, e86, hr⟩ := hr
      refine rr_callS (as := [.int v83]) (st := [.ref l0]) (mc' := 0) (ms' := 0) C dX3_step_84 it_X3_223 (by decide) (Nat.le_of_ble_eq_true rfl) (c_X3_kindOf v83 (by omega) e86) (fun v_ h_ n_ q_ => ?_)
      obtain ⟨q1_, q2_, q3_⟩ := q_
      subst v_; subst h_; subst n_
      show WW W0 G 1 _ _ _ 87 [some (.ref l0)] [.int v85, .ref l0] h27 n _ _
      refine rr_goto (tgt := 91) C dX3_step_87 (by decide) ?_
      replace hr := Option.bind_eq_some_iff.mp hr
      obtain ⟨h87, e88, hr⟩ := hr
      refine rr_wrF C dX3_step_91 fp_X3_74 rfl rfl e88 ?_
      refine rr_aload_n (i := 0) C dX3_step_94 rfl rfl ?_
      replace hr := Option.bind_eq_some_iff.mp hr
      obtain ⟨v89, e90, hr⟩ := hr
      refine rr_rdI C dX3_step_95 fl_X3_74 e90 ?_
      refine rr_if_ne (tgt := 102) C dX3_step_98 (by decide) (fun c98_ => ?_) (fun c98_ => ?_)
      · replace hr := (if_neg c98_).symm.trans hr
        refine rr_aload_n (i := 0) C dX3_step_102 rfl rfl ?_
        refine rr_dup C dX3_step_103 rfl ?_
        replace hr := Option.bind_eq_some_iff.mp hr
        obtain ⟨v91, e92, hr⟩ := hr
        refine rr_rdI C dX3_step_104 fl_X3_46 e92 ?_
        refine rr_iconst (v := 1) C dX3_step_107 (by decide) ?_
        refine rr_iadd C dX3_step_108 ?_
        replace hr := Option.bind_eq_some_iff.mp hr
        obtain ⟨h93, e94, hr⟩ := hr
        refine rr_wrF C dX3_step_109 fp_X3_46 rfl rfl e94 ?_
        replace hr := Option.bind_eq_some_iff.mp hr
        obtain ⟨v95, e96, hr⟩ := hr
        refine rr_keep [true] (w_X3_step_112 C (by omega) l0 K  h93 e96 ?_)
        show WW W0 G 1 _ _ _ 170 [none] [] v95 n _ _
        obtain rfl := Option.some.inj hr
        exact rr_vret C dX3_step_170 rfl ⟨rfl, rfl, rfl⟩
      · replace hr := (if_pos c98_).symm.trans hr
        obtain rfl := Option.some.inj hr
        exact rr_vret C dX3_step_101 rfl ⟨rfl, rfl, rfl⟩
  · replace hr := (if_neg c5_).symm.trans hr
    obtain rfl := Option.some.inj hr
    exact rr_vret C dX3_step_8 rfl ⟨rfl, rfl, rfl⟩
def q_J0_coder_7d493 (K : Nat) (h : mm_H) (n : Nat) (l0 : Nat) : Option (Int32) :=
  (strC h n l0).bind fun v1 =>
  (ckn .byte v1).bind fun u3 =>
  some v1
set_option maxRecDepth 100000 in
set_option maxHeartbeats 4000000 in
theorem c_J0_coder_7d493 {K : Nat} {G : mm_G} {l : Launch} {h : mm_H} {n : Nat} (l0 : Nat) {r_ : Int32} (hn : 48 ≤ n) (hr : q_J0_coder_7d493 K h n l0 = some r_) : Sp G l yJ0_coder_7d493 cJ0_coder_7d493 1 (some .byte) 0 0 0 [.ref l0] h n (fun v h' n' => v = some (.int r_) ∧ h' = h ∧ n' = n) := by
  refine Sp_of (by decide +kernel) (Nat.le_of_ble_eq_true rfl) hn ?_
  intro W0 hwl C
  subst hwl
  unfold q_J0_coder_7d493 at hr
  show WW W0 G 1 0 0 _ 0 [some (.ref l0)] [] h n 0 0
  refine rr_getsC C dJ0_coder_7d493_0 sl_J0_38 ?_
  refine rr_if_eq (tgt := 13) C dJ0_coder_7d493_3 (by decide) (fun q_ => absurd q_ (by decide)) (fun _ => ?_)
  refine rr_aload_n (i := 0) C dJ0_coder_7d493_6 rfl rfl ?_
  replace hr := Option.bind_eq_some_iff.mp hr
  obtain ⟨v1, e2, hr⟩ := hr
  refine rr_strC C dJ0_coder_7d493_7 sl_J0_15 e2 ?_
  refine rr_goto (tgt := 14) C dJ0_coder_7d493_10 (by decide) ?_
  replace hr := Option.bind_eq_some_iff.mp hr
  obtain ⟨u3, e4, hr⟩ := hr
  obtain rfl := Option.some.inj hr
  exact rr_iret (ty := .byte) C dJ0_coder_7d493_14 rfl (ckn_s e4) ⟨rfl, rfl, rfl⟩
def q_J0_length_8abf5 (K : Nat) (h : mm_H) (n : Nat) (l0 : Nat) : Option (Int32) :=
  (strV h n l0).bind fun v1 =>
  (lenA h n v1 2).bind fun v3 =>
  (ckS h n l0).bind fun u5 =>
  (q_J0_coder_7d493 K h n l0).bind fun v7 =>
  some (v3 >>> (v7 &&& 31))
set_option maxRecDepth 100000 in
set_option maxHeartbeats 4000000 in
theorem c_J0_length_8abf5 {K : Nat} {G : mm_G} {l : Launch} {h : mm_H} {n : Nat} (l0 : Nat) {r_ : Int32} (hn : 48 ≤ n) (hr : q_J0_length_8abf5 K h n l0 = some r_) : Sp G l yJ0_length_8abf5 cJ0_length_8abf5 1 (some .int) 1 0 0 [.ref l0] h n (fun v h' n' => v = some (.int r_) ∧ h' = h ∧ n' = n) := by
  refine Sp_of (by decide +kernel) (Nat.le_of_ble_eq_true rfl) hn ?_
  intro W0 hwl C
  subst hwl
  unfold q_J0_length_8abf5 at hr
  show WW W0 G 1 0 0 _ 0 [some (.ref l0)] [] h n 0 0
  refine rr_aload_n (i := 0) C dJ0_length_8abf5_0 rfl rfl ?_
  replace hr := Option.bind_eq_some_iff.mp hr
  obtain ⟨v1, e2, hr⟩ := hr
  refine rr_strV C dJ0_length_8abf5_1 sl_J0_9 e2 ?_
  replace hr := Option.bind_eq_some_iff.mp hr
  obtain ⟨v3, e4, hr⟩ := hr
  refine rr_lenA C dJ0_length_8abf5_4 e4 ?_
  refine rr_aload_n (i := 0) C dJ0_length_8abf5_5 rfl rfl ?_
  replace hr := Option.bind_eq_some_iff.mp hr
  obtain ⟨u5, e6, hr⟩ := hr
  replace hr := Option.bind_eq_some_iff.mp hr
  obtain ⟨v7, e8, hr⟩ := hr
  refine rr_callVS (as := []) (st := [.int v3]) (mc' := 0) (ms' := 0) C dJ0_length_8abf5_6 iv_J0_335 rfl (by decide) e6 (Nat.le_of_ble_eq_true rfl) (c_J0_coder_7d493 l0 (by omega) e8) (fun v_ h_ n_ q_ => ?_)
  obtain ⟨q1_, q2_, q3_⟩ := q_
  subst v_; subst h_; subst n_
  show WW W0 G 1 _ _ _ 9 [some (.ref l0)] [.int v7, .int v3] h n _ _
  refine rr_ishr C dJ0_length_8abf5_9 ?_
  obtain rfl := Option.some.inj hr
  exact rr_iret (ty := .int) C dJ0_length_8abf5_10 rfl rfl ⟨rfl, rfl, rfl⟩
def q_J0_isLatin1_aae02 (K : Nat) (h : mm_H) (n : Nat) (l0 : Nat) : Option (Int32) :=
  (strC h n l0).bind fun v1 =>
  if v1 = 0 then
    some 1
  else
  some 0
set_option maxRecDepth 100000 in
set_option maxHeartbeats 4000000 in
theorem c_J0_isLatin1_aae02 {K : Nat} {G : mm_G} {l : Launch} {h : mm_H} {n : Nat} (l0 : Nat) {r_ : Int32} (hn : 48 ≤ n) (hr : q_J0_isLatin1_aae02 K h n l0 = some r_) : Sp G l yJ0_isLatin1_aae02 cJ0_isLatin1_aae02 1 (some .boolean) 0 0 0 [.ref l0] h n (fun v h' n' => v = some (.int r_) ∧ h' = h ∧ n' = n) := by
  refine Sp_of (by decide +kernel) (Nat.le_of_ble_eq_true rfl) hn ?_
  intro W0 hwl C
  subst hwl
  unfold q_J0_isLatin1_aae02 at hr
  show WW W0 G 1 0 0 _ 0 [some (.ref l0)] [] h n 0 0
  refine rr_getsC C dJ0_isLatin1_aae02_0 sl_J0_38 ?_
  refine rr_if_eq (tgt := 17) C dJ0_isLatin1_aae02_3 (by decide) (fun q_ => absurd q_ (by decide)) (fun _ => ?_)
  refine rr_aload_n (i := 0) C dJ0_isLatin1_aae02_6 rfl rfl ?_
  replace hr := Option.bind_eq_some_iff.mp hr
  obtain ⟨v1, e2, hr⟩ := hr
  refine rr_strC C dJ0_isLatin1_aae02_7 sl_J0_15 e2 ?_
  refine rr_if_ne (tgt := 17) C dJ0_isLatin1_aae02_10 (by decide) (fun c10_ => ?_) (fun c10_ => ?_)
  · replace hr := (if_neg c10_).symm.trans hr
    refine rr_iconst (v := 0) C dJ0_isLatin1_aae02_17 (by decide) ?_
    obtain rfl := Option.some.inj hr
    exact rr_iret (ty := .boolean) C dJ0_isLatin1_aae02_18 rfl rfl ⟨rfl, rfl, rfl⟩
  · replace hr := (if_pos c10_).symm.trans hr
    refine rr_iconst (v := 1) C dJ0_isLatin1_aae02_13 (by decide) ?_
    refine rr_goto (tgt := 18) C dJ0_isLatin1_aae02_14 (by decide) ?_
    obtain rfl := Option.some.inj hr
    exact rr_iret (ty := .boolean) C dJ0_isLatin1_aae02_18 rfl rfl ⟨rfl, rfl, rfl⟩
def q_J3_checkIndex_8e157 (K : Nat) (h : mm_H) (n : Nat) (l0 : Int32) (l1 : Int32) (l2 : Option Nat) : Option (Int32) :=
  if l0 < 0 then
    none
  else
  if l0 < l1 then
    some l0
  else
  none
set_option maxRecDepth 100000 in
set_option maxHeartbeats 4000000 in
theorem c_J3_checkIndex_8e157 {K : Nat} {G : mm_G} {l : Launch} {h : mm_H} {n : Nat} (l0 : Int32) (l1 : Int32) (l2 : Option Nat) {r_ : Int32} (hn : 48 ≤ n) (hr : q_J3_checkIndex_8e157 K h n l0 l1 l2 = some r_) : Sp G l yJ3_checkIndex_8e157 cJ3_checkIndex_8e157 3 (some .int) 0 0 0 [.int l0, .int l1, va_rf l2] h n (fun v h' n' => v = some (.int r_) ∧ h' = h ∧ n' = n) := by
  refine Sp_of (by decide +kernel) (by rcases l2 with _ | _ <;> exact Nat.le_of_ble_eq_true rfl) hn ?_
  intro W0 hwl C
  subst hwl
  unfold q_J3_checkIndex_8e157 at hr
  rw [show mm_en 3 [.int l0, .int l1, va_rf l2] = [some (.int l0), some (.int l1), some (va_rf l2)] from by rcases l2 with _ | _ <;> rfl]
  show WW W0 G 3 0 0 _ 0 [some (.int l0), some (.int l1), some (va_rf l2)] [] h n 0 0
  refine rr_iload_n (i := 0) C dJ3_checkIndex_8e157_0 rfl rfl ?_
  refine rr_if_lt (tgt := 9) C dJ3_checkIndex_8e157_1 (by decide) (fun c1_ => ?_) (fun c1_ => ?_)
  · replace hr := (if_pos c1_).symm.trans hr
    refine rr_aload_nO (i := 2) C dJ3_checkIndex_8e157_9 rfl rfl ?_
    refine rr_iload_n (i := 0) C dJ3_checkIndex_8e157_10 rfl rfl ?_
    refine rr_iload_n (i := 1) C dJ3_checkIndex_8e157_11 rfl rfl ?_
    cases hr
  · replace hr := (if_neg c1_).symm.trans hr
    refine rr_iload_n (i := 0) C dJ3_checkIndex_8e157_4 rfl rfl ?_
    refine rr_iload_n (i := 1) C dJ3_checkIndex_8e157_5 rfl rfl ?_
    refine rr_icmp_lt (tgt := 16) C dJ3_checkIndex_8e157_6 (by decide) (fun c6_ => ?_) (fun c6_ => ?_)
    · replace hr := (if_pos c6_).symm.trans hr
      refine rr_iload_n (i := 0) C dJ3_checkIndex_8e157_16 rfl rfl ?_
      obtain rfl := Option.some.inj hr
      exact rr_iret (ty := .int) C dJ3_checkIndex_8e157_17 rfl rfl ⟨rfl, rfl, rfl⟩
    · replace hr := (if_neg c6_).symm.trans hr
      refine rr_aload_nO (i := 2) C dJ3_checkIndex_8e157_9 rfl rfl ?_
      refine rr_iload_n (i := 0) C dJ3_checkIndex_8e157_10 rfl rfl ?_
      refine rr_iload_n (i := 1) C dJ3_checkIndex_8e157_11 rfl rfl ?_
      cases hr
def q_J0_checkIndex_df160 (K : Nat) (h : mm_H) (n : Nat) (l0 : Int32) (l1 : Int32) : Option (Unit) :=
  (q_J3_checkIndex_8e157 K h n l0 l1 none).bind fun v2 =>
  some ()
set_option maxRecDepth 100000 in
set_option maxHeartbeats 4000000 in
theorem c_J0_checkIndex_df160 {K : Nat} {G : mm_G} {l : Launch} {h : mm_H} {n : Nat} (l0 : Int32) (l1 : Int32) {r_ : Unit} (hn : 48 ≤ n) (hr : q_J0_checkIndex_df160 K h n l0 l1 = some r_) : Sp G l yJ0_checkIndex_df160 cJ0_checkIndex_df160 2 none 1 0 0 [.int l0, .int l1] h n (fun v h' n' => v = none ∧ h' = h ∧ n' = n) := by
  refine Sp_of (by decide +kernel) (Nat.le_of_ble_eq_true rfl) hn ?_
  intro W0 hwl C
  subst hwl
  unfold q_J0_checkIndex_df160 at hr
  show WW W0 G 2 0 0 _ 0 [some (.int l0), some (.int l1)] [] h n 0 0
  refine rr_iload_n (i := 0) C dJ0_checkIndex_df160_0 rfl rfl ?_
  refine rr_iload_n (i := 1) C dJ0_checkIndex_df160_1 rfl rfl ?_
  refine rr_getsF C dJ0_checkIndex_df160_2 sl_J0_1053 (fun unk1 => ?_)
  replace hr := Option.bind_eq_some_iff.mp hr
  obtain ⟨v2, e3, hr⟩ := hr
  refine rr_callS (as := [.int l0, .int l1, va_rf unk1]) (st := []) (mc' := 0) (ms' := 0) C dJ0_checkIndex_df160_5 it_J0_1059 (by decide) (Nat.le_of_ble_eq_true rfl) (c_J3_checkIndex_8e157 (K := K) l0 l1 unk1 (by omega) (show q_J3_checkIndex_8e157 K h n l0 l1 unk1 = some v2 from e3)) (fun v_ h_ n_ q_ => ?_)
  obtain ⟨q1_, q2_, q3_⟩ := q_
  subst v_; subst h_; subst n_
  show WW W0 G 2 _ _ _ 8 [some (.int l0), some (.int l1)] [.int v2] h n _ _
  refine rr_pop C dJ0_checkIndex_df160_8 rfl ?_
  obtain rfl := Option.some.inj hr
  exact rr_vret C dJ0_checkIndex_df160_9 rfl ⟨rfl, rfl, rfl⟩
def q_J1_charAt_3b067 (K : Nat) (h : mm_H) (n : Nat) (l0 : Option Nat) (l1 : Int32) : Option (Int32) :=
  l0.bind fun a1 =>
  (lenA h n a1 2).bind fun v3 =>
  (q_J0_checkIndex_df160 K h n l1 v3).bind fun v5 =>
  (ldB h n a1 l1).bind fun v7 =>
  (ckn .char (((Int32.toUInt32 (v7 &&& 255)) % 65536).toInt32)).bind fun u9 =>
  some (((Int32.toUInt32 (v7 &&& 255)) % 65536).toInt32)
set_option maxRecDepth 100000 in
set_option maxHeartbeats 4000000 in
theorem c_J1_charAt_3b067 {K : Nat} {G : mm_G} {l : Launch} {h : mm_H} {n : Nat} (l0 : Option Nat) (l1 : Int32) {r_ : Int32} (hn : 48 ≤ n) (hr : q_J1_charAt_3b067 K h n l0 l1 = some r_) : Sp G l yJ1_charAt_3b067 cJ1_charAt_3b067 2 (some .char) 2 0 0 [va_rf l0, .int l1] h n (fun v h' n' => v = some (.int r_) ∧ h' = h ∧ n' = n) := by
  refine Sp_of (by decide +kernel) (by rcases l0 with _ | _ <;> exact Nat.le_of_ble_eq_true rfl) hn ?_
  intro W0 hwl C
  subst hwl
  unfold q_J1_charAt_3b067 at hr
  rw [show mm_en 2 [va_rf l0, .int l1] = [some (va_rf l0), some (.int l1)] from by rcases l0 with _ | _ <;> rfl]
  show WW W0 G 2 0 0 _ 0 [some (va_rf l0), some (.int l1)] [] h n 0 0
  refine rr_iload_n (i := 1) C dJ1_charAt_3b067_0 rfl rfl ?_
  refine rr_aload_nO (i := 0) C dJ1_charAt_3b067_1 rfl rfl ?_
  replace hr := Option.bind_eq_some_iff.mp hr
  obtain ⟨a1, e2, hr⟩ := hr
  subst e2
  replace hr := Option.bind_eq_some_iff.mp hr
  obtain ⟨v3, e4, hr⟩ := hr
  refine rr_lenA C dJ1_charAt_3b067_2 e4 ?_
  replace hr := Option.bind_eq_some_iff.mp hr
  obtain ⟨v5, e6, hr⟩ := hr
  refine rr_callS (as := [.int l1, .int v3]) (st := []) (mc' := 0) (ms' := 0) C dJ1_charAt_3b067_3 it_J1_9 (by decide) (Nat.le_of_ble_eq_true rfl) (c_J0_checkIndex_df160 l1 v3 (by omega) e6) (fun v_ h_ n_ q_ => ?_)
  obtain ⟨q1_, q2_, q3_⟩ := q_
  subst v_; subst h_; subst n_
  show WW W0 G 2 _ _ _ 6 [some (.ref a1), some (.int l1)] [] h n _ _
  refine rr_aload_n (i := 0) C dJ1_charAt_3b067_6 rfl rfl ?_
  refine rr_iload_n (i := 1) C dJ1_charAt_3b067_7 rfl rfl ?_
  replace hr := Option.bind_eq_some_iff.mp hr
  obtain ⟨v7, e8, hr⟩ := hr
  refine rr_ldB C dJ1_charAt_3b067_8 e8 ?_
  refine rr_sipush (v := 255) C dJ1_charAt_3b067_9 (by decide) ?_
  refine rr_iand C dJ1_charAt_3b067_12 ?_
  refine rr_i2c C dJ1_charAt_3b067_13 ?_
  replace hr := Option.bind_eq_some_iff.mp hr
  obtain ⟨u9, e10, hr⟩ := hr
  obtain rfl := Option.some.inj hr
  exact rr_iret (ty := .char) C dJ1_charAt_3b067_14 rfl (ckn_s e10) ⟨rfl, rfl, rfl⟩
def q_J0_charAt_5068e (K : Nat) (h : mm_H) (n : Nat) (l0 : Nat) (l1 : Int32) : Option (Int32) :=
  (ckS h n l0).bind fun u1 =>
  (q_J0_isLatin1_aae02 K h n l0).bind fun v3 =>
  if v3 = 0 then
    (strV h n l0).bind fun v5 =>
    none
  else
  (strV h n l0).bind fun v7 =>
  (q_J1_charAt_3b067 K h n (some v7) l1).bind fun v9 =>
  (ckn .char v9).bind fun u11 =>
  some v9
set_option maxRecDepth 100000 in
set_option maxHeartbeats 4000000 in
theorem c_J0_charAt_5068e {K : Nat} {G : mm_G} {l : Launch} {h : mm_H} {n : Nat} (l0 : Nat) (l1 : Int32) {r_ : Int32} (hn : 48 ≤ n) (hr : q_J0_charAt_5068e K h n l0 l1 = some r_) : Sp G l yJ0_charAt_5068e cJ0_charAt_5068e 2 (some .char) 3 0 0 [.ref l0, .int l1] h n (fun v h' n' => v = some (.int r_) ∧ h' = h ∧ n' = n) := by
  refine Sp_of (by decide +kernel) (Nat.le_of_ble_eq_true rfl) hn ?_
  intro W0 hwl C
  subst hwl
  unfold q_J0_charAt_5068e at hr
  show WW W0 G 2 0 0 _ 0 [some (.ref l0), some (.int l1)] [] h n 0 0
  refine rr_aload_n (i := 0) C dJ0_charAt_5068e_0 rfl rfl ?_
  replace hr := Option.bind_eq_some_iff.mp hr
  obtain ⟨u1, e2, hr⟩ := hr
  replace hr := Option.bind_eq_some_iff.mp hr
  obtain ⟨v3, e4, hr⟩ := hr
  refine rr_callVS (as := []) (st := []) (mc' := 0) (ms' := 0) C dJ0_charAt_5068e_1 iv_J0_492 rfl (by decide) e2 (Nat.le_of_ble_eq_true rfl) (c_J0_isLatin1_aae02 l0 (by omega) e4) (fun v_ h_ n_ q_ => ?_)
  obtain ⟨q1_, q2_, q3_⟩ := q_
  subst v_; subst h_; subst n_
  show WW W0 G 2 _ _ _ 4 [some (.ref l0), some (.int l1)] [.int v3] h n _ _
  refine rr_if_eq (tgt := 16) C dJ0_charAt_5068e_4 (by decide) (fun c4_ => ?_) (fun c4_ => ?_)
  · replace hr := (if_pos c4_).symm.trans hr
    refine rr_aload_n (i := 0) C dJ0_charAt_5068e_16 rfl rfl ?_
    replace hr := Option.bind_eq_some_iff.mp hr
    obtain ⟨v5, e6, hr⟩ := hr
    refine rr_strV C dJ0_charAt_5068e_17 sl_J0_9 e6 ?_
    refine rr_iload_n (i := 1) C dJ0_charAt_5068e_20 rfl rfl ?_
    cases hr
  · replace hr := (if_neg c4_).symm.trans hr
    refine rr_aload_n (i := 0) C dJ0_charAt_5068e_7 rfl rfl ?_
    replace hr := Option.bind_eq_some_iff.mp hr
    obtain ⟨v7, e8, hr⟩ := hr
    refine rr_strV C dJ0_charAt_5068e_8 sl_J0_9 e8 ?_
    refine rr_iload_n (i := 1) C dJ0_charAt_5068e_11 rfl rfl ?_
    replace hr := Option.bind_eq_some_iff.mp hr
    obtain ⟨v9, e10, hr⟩ := hr
    refine rr_callS (as := [.ref v7, .int l1]) (st := []) (mc' := 0) (ms' := 0) C dJ0_charAt_5068e_12 it_J0_495 (by decide) (Nat.le_of_ble_eq_true rfl) (c_J1_charAt_3b067 (some v7) l1 (by omega) e10) (fun v_ h_ n_ q_ => ?_)
    obtain ⟨q1_, q2_, q3_⟩ := q_
    subst v_; subst h_; subst n_
    show WW W0 G 2 _ _ _ 15 [some (.ref l0), some (.int l1)] [.int v9] h n _ _
    replace hr := Option.bind_eq_some_iff.mp hr
    obtain ⟨u11, e12, hr⟩ := hr
    obtain rfl := Option.some.inj hr
    exact rr_iret (ty := .char) C dJ0_charAt_5068e_15 rfl (ckn_s e12) ⟨rfl, rfl, rfl⟩
def lp_X3_placeAmong_20 (K : Nat) (h : mm_H) (n : Nat) (l0 : Nat) (l1 : Option Nat) : Nat → Int32 → Int32 → Int32 → Option (Nat × Int32)
  | 0, _, _, _ => none
  | k_ + 1, l2, l3, l4 =>
    l1.bind fun a5 =>
    (ckS h n a5).bind fun u7 =>
    (q_J0_length_8abf5 K h n a5).bind fun v9 =>
    if v9 < l4 then
      some (1, l2)
    else
    (ckS h n a5).bind fun u11 =>
    (q_J0_length_8abf5 K h n a5).bind fun v13 =>
    if v13 ≤ l4 then
      (rdI h n l0 3 4).bind fun v15 =>
      if l3 = v15 then
        some (0, l2)
      else
      (rdI h n l0 3 3).bind fun v17 =>
      lp_X3_placeAmong_20 K h n l0 l1 k_ (l2 + 1) v17 (l4 + 1)
    else
    (ckS h n a5).bind fun u19 =>
    (q_J0_charAt_5068e K h n a5 l4).bind fun v21 =>
    if v21 = 32 then
      (rdI h n l0 3 4).bind fun v23 =>
      if l3 = v23 then
        some (0, l2)
      else
      (rdI h n l0 3 3).bind fun v25 =>
      lp_X3_placeAmong_20 K h n l0 l1 k_ (l2 + 1) v25 (l4 + 1)
    else
    (rdI h n l0 3 4).bind fun v27 =>
    if v27 ≤ l3 then
      (rdI h n l0 3 1).bind fun v29 =>
      lp_X3_placeAmong_20 K h n l0 l1 k_ l2 (v29 + 1) (l4 + 1)
    else
    (ckq h n l0 3).bind fun u32 =>
    (q_X3_byteAt K h n l0 l3).bind fun v34 =>
    if v34 = v21 then
      lp_X3_placeAmong_20 K h n l0 l1 k_ l2 (l3 + 1) (l4 + 1)
    else
    (rdI h n l0 3 1).bind fun v37 =>
    lp_X3_placeAmong_20 K h n l0 l1 k_ l2 (v37 + 1) (l4 + 1)
def q_X3_placeAmong (K : Nat) (h : mm_H) (n : Nat) (l0 : Nat) (l1 : Option Nat) : Option (Int32) :=
  (rdI h n l0 3 2).bind fun v1 =>
  if v1 = 1 then
    (rdI h n l0 3 3).bind fun v3 =>
    (lp_X3_placeAmong_20 K h n l0 l1 K 0 v3 0).bind fun v40 =>
    if v40.1 = 0 then
      some v40.2
    else
    if v40.1 = 1 then
      some (-1)
    else
      none
  else
  some (-1)
set_option maxRecDepth 100000 in
set_option maxHeartbeats 4000000 in
theorem w_X3_placeAmong_20 {K : Nat} {W0 : mm_X} {G : mm_G} {mc ms kc ks : Nat} {Q_ : State → Prop} {h : mm_H} {n : Nat} (C : mm_C W0 G cX3_placeAmong yX3_placeAmong.cls 6 mc ms (some .int) 4 yX3_placeAmong.name) (hn : 48 ≤ n) (l0 : Nat) (l1 : Option Nat) : ∀ (k_ : Nat) (l2 : Int32) (l3 : Int32) (l4 : Int32) {r_ : Nat × Int32} (hr : lp_X3_placeAmong_20 K h n l0 l1 k_ l2 l3 l4 = some r_) (hx0 : r_.1 = 0 → WW W0 G 6 mc ms Q_ 100 [none, none, some (.int r_.2), none, none, none] [] h n kc ks) (hx1 : r_.1 = 1 → WW W0 G 6 mc ms Q_ 116 [none, none, none, none, none, none] [] h n kc ks), WW W0 G 6 mc ms Q_ 20 [some (.ref l0), some (va_rf l1), some (.int l2), some (.int l3), some (.int l4), none] [] h n kc ks := by
  intro k_
  induction k_ with
  | zero =>
    intro l2 l3 l4 r_ hr
    cases hr
  | succ k_ ih_ =>
    intro l2 l3 l4 r_ hr hx0 hx1
    unfold lp_X3_placeAmong_20 at hr
    refine rr_iload C dX3_placeAmong_20 rfl ?_
    refine rr_aload_nO (i := 1) C dX3_placeAmong_22 rfl rfl ?_
    replace hr := Option.bind_eq_some_iff.mp hr
    obtain ⟨a5, e6, hr⟩ := hr
    subst e6
    replace hr := Option.bind_eq_some_iff.mp hr
    obtain ⟨u7, e8, hr⟩ := hr
    replace hr := Option.bind_eq_some_iff.mp hr
    obtain ⟨v9, e10, hr⟩ := hr
    refine rr_callVS (as := []) (st := [.int l4]) (mc' := 0) (ms' := 0) C dX3_placeAmong_23 iv_X3_215 rfl (by decide) e8 (Nat.le_of_ble_eq_true rfl) (c_J0_length_8abf5 a5 (by omega) e10) (fun v_ h_ n_ q_ => ?_)
    obtain ⟨q1_, q2_, q3_⟩ := q_
    subst v_; subst h_; subst n_
    show WW W0 G 6 _ _ _ 26 [some (.ref l0), some (.ref a5), some (.int l2), some (.int l3), some (.int l4), none] [.int v9, .int l4] h n _ _
    refine rr_icmp_gt (tgt := 116) C dX3_placeAmong_26 (by decide) (fun c26_ => ?_) (fun c26_ => ?_)
    · replace hr := (if_pos c26_).symm.trans hr
      obtain rfl := Option.some.inj hr
      exact rr_keep [false, false, false, false, false, false] (hx1 rfl)
    · replace hr := (if_neg c26_).symm.trans hr
      refine rr_iload C dX3_placeAmong_29 rfl ?_
      refine rr_aload_n (i := 1) C dX3_placeAmong_31 rfl rfl ?_
      replace hr := Option.bind_eq_some_iff.mp hr
      obtain ⟨u11, e12, hr⟩ := hr
      replace hr := Option.bind_eq_some_iff.mp hr
      obtain ⟨v13, e14, hr⟩ := hr
      refine rr_callVS (as := []) (st := [.int l4]) (mc' := 0) (ms' := 0) C dX3_placeAmong_32 iv_X3_215 rfl (by decide) e12 (Nat.le_of_ble_eq_true rfl) (c_J0_length_8abf5 a5 (by omega) e14) (fun v_ h_ n_ q_ => ?_)
      obtain ⟨q1_, q2_, q3_⟩ := q_
      subst v_; subst h_; subst n_
      show WW W0 G 6 _ _ _ 35 [some (.ref l0), some (.ref a5), some (.int l2), some (.int l3), some (.int l4), none] [.int v13, .int l4] h n _ _
      refine rr_icmp_ge (tgt := 47) C dX3_placeAmong_35 (by decide) (fun c35_ => ?_) (fun c35_ => ?_)
      · replace hr := (if_pos c35_).symm.trans hr
        refine rr_bipush (v := 32) C dX3_placeAmong_47 (by decide) ?_
        refine rr_istore C dX3_placeAmong_49 (by decide) ?_
        show WW W0 G 6 _ _ _ 51 [some (.ref l0), some (.ref a5), some (.int l2), some (.int l3), some (.int l4), some (.int 32)] [] h n _ _
        refine rr_iload C dX3_placeAmong_51 rfl ?_
        refine rr_bipush (v := 32) C dX3_placeAmong_53 (by decide) ?_
        refine rr_icmp_eq (tgt := 92) C dX3_placeAmong_55 (by decide) (fun _ => ?_) (fun q_ => absurd (by decide) q_)
        refine rr_iload_n (i := 3) C dX3_placeAmong_92 rfl rfl ?_
        refine rr_aload_n (i := 0) C dX3_placeAmong_93 rfl rfl ?_
        replace hr := Option.bind_eq_some_iff.mp hr
        obtain ⟨v15, e16, hr⟩ := hr
        refine rr_rdI C dX3_placeAmong_94 fl_X3_46 e16 ?_
        refine rr_icmp_ne (tgt := 102) C dX3_placeAmong_97 (by decide) (fun c97_ => ?_) (fun c97_ => ?_)
        · replace hr := (if_neg c97_).symm.trans hr
          refine rr_iinc (v := l2 + 1) C dX3_placeAmong_102 rfl rfl ?_
          show WW W0 G 6 _ _ _ 105 [some (.ref l0), some (.ref a5), some (.int (l2 + 1)), some (.int l3), some (.int l4), some (.int 32)] [] h n _ _
          refine rr_aload_n (i := 0) C dX3_placeAmong_105 rfl rfl ?_
          replace hr := Option.bind_eq_some_iff.mp hr
          obtain ⟨v17, e18, hr⟩ := hr
          refine rr_rdI C dX3_placeAmong_106 fl_X3_208 e18 ?_
          refine rr_istore_n (i := 3) C dX3_placeAmong_109 rfl (by decide) ?_
          show WW W0 G 6 _ _ _ 110 [some (.ref l0), some (.ref a5), some (.int (l2 + 1)), some (.int v17), some (.int l4), some (.int 32)] [] h n _ _
          refine rr_iinc (v := l4 + 1) C dX3_placeAmong_110 rfl rfl ?_
          show WW W0 G 6 _ _ _ 113 [some (.ref l0), some (.ref a5), some (.int (l2 + 1)), some (.int v17), some (.int (l4 + 1)), some (.int 32)] [] h n _ _
          refine rr_goto (tgt := 20) C dX3_placeAmong_113 (by decide) ?_
          exact rr_keep [true, true, true, true, true, false] (ih_ _ _ _ hr hx0 hx1)
        · replace hr := (if_pos c97_).symm.trans hr
          obtain rfl := Option.some.inj hr
          exact rr_keep [false, false, true, false, false, false] (hx0 rfl)
      · replace hr := (if_neg c35_).symm.trans hr
        refine rr_aload_n (i := 1) C dX3_placeAmong_38 rfl rfl ?_
        refine rr_iload C dX3_placeAmong_39 rfl ?_
        replace hr := Option.bind_eq_some_iff.mp hr
        obtain ⟨u19, e20, hr⟩ := hr
        replace hr := Option.bind_eq_some_iff.mp hr
        obtain ⟨v21, e22, hr⟩ := hr
        refine rr_callVS (as := [.int l4]) (st := []) (mc' := 0) (ms' := 0) C dX3_placeAmong_41 iv_X3_219 rfl (by decide) e20 (Nat.le_of_ble_eq_true rfl) (c_J0_charAt_5068e a5 l4 (by omega) e22) (fun v_ h_ n_ q_ => ?_)
        obtain ⟨q1_, q2_, q3_⟩ := q_
        subst v_; subst h_; subst n_
        show WW W0 G 6 _ _ _ 44 [some (.ref l0), some (.ref a5), some (.int l2), some (.int l3), some (.int l4), none] [.int v21] h n _ _
        refine rr_goto (tgt := 49) C dX3_placeAmong_44 (by decide) ?_
        refine rr_istore C dX3_placeAmong_49 (by decide) ?_
        show WW W0 G 6 _ _ _ 51 [some (.ref l0), some (.ref a5), some (.int l2), some (.int l3), some (.int l4), some (.int v21)] [] h n _ _
        refine rr_iload C dX3_placeAmong_51 rfl ?_
        refine rr_bipush (v := 32) C dX3_placeAmong_53 (by decide) ?_
        refine rr_icmp_eq (tgt := 92) C dX3_placeAmong_55 (by decide) (fun c55_ => ?_) (fun c55_ => ?_)
        · replace hr := (if_pos c55_).symm.trans hr
          refine rr_iload_n (i := 3) C dX3_placeAmong_92 rfl rfl ?_
          refine rr_aload_n (i := 0) C dX3_placeAmong_93 rfl rfl ?_
          replace hr := Option.bind_eq_some_iff.mp hr
          obtain ⟨v23, e24, hr⟩ := hr
          refine rr_rdI C dX3_placeAmong_94 fl_X3_46 e24 ?_
          refine rr_icmp_ne (tgt := 102) C dX3_placeAmong_97 (by decide) (fun c97_ => ?_) (fun c97_ => ?_)
          · replace hr := (if_neg c97_).symm.trans hr
            refine rr_iinc (v := l2 + 1) C dX3_placeAmong_102 rfl rfl ?_
            show WW W0 G 6 _ _ _ 105 [some (.ref l0), some (.ref a5), some (.int (l2 + 1)), some (.int l3), some (.int l4), some (.int v21)] [] h n _ _
            refine rr_aload_n (i := 0) C dX3_placeAmong_105 rfl rfl ?_
            replace hr := Option.bind_eq_some_iff.mp hr
            obtain ⟨v25, e26, hr⟩ := hr
            refine rr_rdI C dX3_placeAmong_106 fl_X3_208 e26 ?_
            refine rr_istore_n (i := 3) C dX3_placeAmong_109 rfl (by decide) ?_
            show WW W0 G 6 _ _ _ 110 [some (.ref l0), some (.ref a5), some (.int (l2 + 1)), some (.int v25), some (.int l4), some (.int v21)] [] h n _ _
            refine rr_iinc (v := l4 + 1) C dX3_placeAmong_110 rfl rfl ?_
            show WW W0 G 6 _ _ _ 113 [some (.ref l0), some (.ref a5), some (.int (l2 + 1)), some (.int v25), some (.int (l4 + 1)), some (.int v21)] [] h n _ _
            refine rr_goto (tgt := 20) C dX3_placeAmong_113 (by decide) ?_
            exact rr_keep [true, true, true, true, true, false] (ih_ _ _ _ hr hx0 hx1)
          · replace hr := (if_pos c97_).symm.trans hr
            obtain rfl := Option.some.inj hr
            exact rr_keep [false, false, true, false, false, false] (hx0 rfl)
        · replace hr := (if_neg c55_).symm.trans hr
          refine rr_iload_n (i := 3) C dX3_placeAmong_58 rfl rfl ?_
          refine rr_aload_n (i := 0) C dX3_placeAmong_59 rfl rfl ?_
          replace hr := Option.bind_eq_some_iff.mp hr
          obtain ⟨v27, e28, hr⟩ := hr
          refine rr_rdI C dX3_placeAmong_60 fl_X3_46 e28 ?_
          refine rr_icmp_ge (tgt := 82) C dX3_placeAmong_63 (by decide) (fun c63_ => ?_) (fun c63_ => ?_)
          · replace hr := (if_pos c63_).symm.trans hr
            refine rr_aload_n (i := 0) C dX3_placeAmong_82 rfl rfl ?_
            replace hr := Option.bind_eq_some_iff.mp hr
            obtain ⟨v29, e30, hr⟩ := hr
            refine rr_rdI C dX3_placeAmong_83 fl_X3_43 e30 ?_
            refine rr_iconst (v := 1) C dX3_placeAmong_86 (by decide) ?_
            refine rr_iadd C dX3_placeAmong_87 ?_
            refine rr_istore_n (i := 3) C dX3_placeAmong_88 rfl (by decide) ?_
            show WW W0 G 6 _ _ _ 89 [some (.ref l0), some (.ref a5), some (.int l2), some (.int (v29 + 1)), some (.int l4), some (.int v21)] [] h n _ _
            refine rr_goto (tgt := 110) C dX3_placeAmong_89 (by decide) ?_
            refine rr_iinc (v := l4 + 1) C dX3_placeAmong_110 rfl rfl ?_
            show WW W0 G 6 _ _ _ 113 [some (.ref l0), some (.ref a5), some (.int l2), some (.int (v29 + 1)), some (.int (l4 + 1)), some (.int v21)] [] h n _ _
            refine rr_goto (tgt := 20) C dX3_placeAmong_113 (by decide) ?_
            exact rr_keep [true, true, true, true, true, false] (ih_ _ _ _ hr hx0 hx1)
          · replace hr := (if_neg c63_).symm.trans hr
            refine rr_aload_n (i := 0) C dX3_placeAmong_66 rfl rfl ?_
            refine rr_iload_n (i := 3) C dX3_placeAmong_67 rfl rfl ?_
            replace hr := Option.bind_eq_some_iff.mp hr
            obtain ⟨u32, e33, hr⟩ := hr
            replace hr := Option.bind_eq_some_iff.mp hr
            obtain ⟨v34, e35, hr⟩ := hr
            refine rr_callVq (as := [.int l3]) (st := []) (mc' := 0) (ms' := 0) C dX3_placeAmong_68 iv_X3_211 (by decide) e33 rfl (Nat.le_of_ble_eq_true rfl) (c_X3_byteAt l0 l3 (by omega) e35) (fun v_ h_ n_ q_ => ?_)
            obtain ⟨q1_, q2_, q3_⟩ := q_
            subst v_; subst h_; subst n_
            show WW W0 G 6 _ _ _ 71 [some (.ref l0), some (.ref a5), some (.int l2), some (.int l3), some (.int l4), some (.int v21)] [.int v34] h n _ _
            refine rr_iload C dX3_placeAmong_71 rfl ?_
            refine rr_icmp_ne (tgt := 82) C dX3_placeAmong_73 (by decide) (fun c73_ => ?_) (fun c73_ => ?_)
            · replace hr := (if_neg c73_).symm.trans hr
              refine rr_aload_n (i := 0) C dX3_placeAmong_82 rfl rfl ?_
              replace hr := Option.bind_eq_some_iff.mp hr
              obtain ⟨v37, e38, hr⟩ := hr
              refine rr_rdI C dX3_placeAmong_83 fl_X3_43 e38 ?_
              refine rr_iconst (v := 1) C dX3_placeAmong_86 (by decide) ?_
              refine rr_iadd C dX3_placeAmong_87 ?_
              refine rr_istore_n (i := 3) C dX3_placeAmong_88 rfl (by decide) ?_
              show WW W0 G 6 _ _ _ 89 [some (.ref l0), some (.ref a5), some (.int l2), some (.int (v37 + 1)), some (.int l4), some (.int v21)] [] h n _ _
              refine rr_goto (tgt := 110) C dX3_placeAmong_89 (by decide) ?_
              refine rr_iinc (v := l4 + 1) C dX3_placeAmong_110 rfl rfl ?_
              show WW W0 G 6 _ _ _ 113 [some (.ref l0), some (.ref a5), some (.int l2), some (.int (v37 + 1)), some (.int (l4 + 1)), some (.int v21)] [] h n _ _
              refine rr_goto (tgt := 20) C dX3_placeAmong_113 (by decide) ?_
              exact rr_keep [true, true, true, true, true, false] (ih_ _ _ _ hr hx0 hx1)
            · replace hr := (if_pos c73_).symm.trans hr
              refine rr_iload_n (i := 3) C dX3_placeAmong_76 rfl rfl ?_
              refine rr_iconst (v := 1) C dX3_placeAmong_77 (by decide) ?_
              refine rr_iadd C dX3_placeAmong_78 ?_
              refine rr_goto (tgt := 88) C dX3_placeAmong_79 (by decide) ?_
              refine rr_istore_n (i := 3) C dX3_placeAmong_88 rfl (by decide) ?_
              show WW W0 G 6 _ _ _ 89 [some (.ref l0), some (.ref a5), some (.int l2), some (.int (l3 + 1)), some (.int l4), some (.int v21)] [] h n _ _
              refine rr_goto (tgt := 110) C dX3_placeAmong_89 (by decide) ?_
              refine rr_iinc (v := l4 + 1) C dX3_placeAmong_110 rfl rfl ?_
              show WW W0 G 6 _ _ _ 113 [some (.ref l0), some (.ref a5), some (.int l2), some (.int (l3 + 1)), some (.int (l4 + 1)), some (.int v21)] [] h n _ _
              refine rr_goto (tgt := 20) C dX3_placeAmong_113 (by decide) ?_
              exact rr_keep [true, true, true, true, true, false] (ih_ _ _ _ hr hx0 hx1)
set_option maxRecDepth 100000 in
set_option maxHeartbeats 4000000 in
theorem c_X3_placeAmong {K : Nat} {G : mm_G} {l : Launch} {h : mm_H} {n : Nat} (l0 : Nat) (l1 : Option Nat) {r_ : Int32} (hn : 48 ≤ n) (hr : q_X3_placeAmong K h n l0 l1 = some r_) : Sp G l yX3_placeAmong cX3_placeAmong 6 (some .int) 4 0 0 [.ref l0, va_rf l1] h n (fun v h' n' => v = some (.int r_) ∧ h' = h ∧ n' = n) := by
  refine Sp_of (by decide +kernel) (by rcases l1 with _ | _ <;> exact Nat.le_of_ble_eq_true rfl) hn ?_
  intro W0 hwl C
  subst hwl
  unfold q_X3_placeAmong at hr
  rw [show mm_en 6 [.ref l0, va_rf l1] = [some (.ref l0), some (va_rf l1), none, none, none, none] from by rcases l1 with _ | _ <;> rfl]
  show WW W0 G 6 0 0 _ 0 [some (.ref l0), some (va_rf l1), none, none, none, none] [] h n 0 0
  refine rr_aload_n (i := 0) C dX3_placeAmong_0 rfl rfl ?_
  replace hr := Option.bind_eq_some_iff.mp hr
  obtain ⟨v1, e2, hr⟩ := hr
  refine rr_rdI C dX3_placeAmong_1 fl_X3_74 e2 ?_
  refine rr_iconst (v := 1) C dX3_placeAmong_4 (by decide) ?_
  refine rr_icmp_eq (tgt := 10) C dX3_placeAmong_5 (by decide) (fun c5_ => ?_) (fun c5_ => ?_)
  · replace hr := (if_pos c5_).symm.trans hr
    refine rr_iconst (v := 0) C dX3_placeAmong_10 (by decide) ?_
    refine rr_istore_n (i := 2) C dX3_placeAmong_11 rfl (by decide) ?_
    rw [mm_set1_rf (i := 1) (r := l1) rfl]
    show WW W0 G 6 _ _ _ 12 [some (.ref l0), some (va_rf l1), some (.int 0), none, none, none] [] h n _ _
    refine rr_aload_n (i := 0) C dX3_placeAmong_12 rfl rfl ?_
    replace hr := Option.bind_eq_some_iff.mp hr
    obtain ⟨v3, e4, hr⟩ := hr
    refine rr_rdI C dX3_placeAmong_13 fl_X3_208 e4 ?_
    refine rr_istore_n (i := 3) C dX3_placeAmong_16 rfl (by decide) ?_
    show WW W0 G 6 _ _ _ 17 [some (.ref l0), some (va_rf l1), some (.int 0), some (.int v3), none, none] [] h n _ _
    refine rr_iconst (v := 0) C dX3_placeAmong_17 (by decide) ?_
    refine rr_istore C dX3_placeAmong_18 (by decide) ?_
    show WW W0 G 6 _ _ _ 20 [some (.ref l0), some (va_rf l1), some (.int 0), some (.int v3), some (.int 0), none] [] h n _ _
    replace hr := Option.bind_eq_some_iff.mp hr
    obtain ⟨v40, e41, hr⟩ := hr
    refine rr_keep [true, true, true, true, true, false] (w_X3_placeAmong_20 C (by omega) l0 l1 K 0 v3 0 e41 ?_ ?_)
    · intro cx_
      replace hr := (if_pos cx_).symm.trans hr
      show WW W0 G 6 _ _ _ 100 [none, none, some (.int v40.2), none, none, none] [] h n _ _
      refine rr_iload_n (i := 2) C dX3_placeAmong_100 rfl rfl ?_
      obtain rfl := Option.some.inj hr
      exact rr_iret (ty := .int) C dX3_placeAmong_101 rfl rfl ⟨rfl, rfl, rfl⟩
    · intro cx_
      replace hr := (if_neg (fun z_ => absurd (z_.symm.trans cx_) (by decide))).symm.trans hr
      replace hr := (if_pos cx_).symm.trans hr
      show WW W0 G 6 _ _ _ 116 [none, none, none, none, none, none] [] h n _ _
      refine rr_iconst (v := (-1)) C dX3_placeAmong_116 (by decide) ?_
      obtain rfl := Option.some.inj hr
      exact rr_iret (ty := .int) C dX3_placeAmong_117 rfl rfl ⟨rfl, rfl, rfl⟩
  · replace hr := (if_neg c5_).symm.trans hr
    refine rr_iconst (v := (-1)) C dX3_placeAmong_8 (by decide) ?_
    obtain rfl := Option.some.inj hr
    exact rr_iret (ty := .int) C dX3_placeAmong_9 rfl rfl ⟨rfl, rfl, rfl⟩
def q_X3_isWord (K : Nat) (h : mm_H) (n : Nat) (l0 : Nat) (l1 : Option Nat) : Option (Int32) :=
  (ckq h n l0 3).bind fun u1 =>
  (q_X3_placeAmong K h n l0 l1).bind fun v3 =>
  if v3 = 0 then
    some 1
  else
  some 0
set_option maxRecDepth 100000 in
set_option maxHeartbeats 4000000 in
theorem c_X3_isWord {K : Nat} {G : mm_G} {l : Launch} {h : mm_H} {n : Nat} (l0 : Nat) (l1 : Option Nat) {r_ : Int32} (hn : 48 ≤ n) (hr : q_X3_isWord K h n l0 l1 = some r_) : Sp G l yX3_isWord cX3_isWord 2 (some .boolean) 5 0 0 [.ref l0, va_rf l1] h n (fun v h' n' => v = some (.int r_) ∧ h' = h ∧ n' = n) := by
  refine Sp_of (by decide +kernel) (by rcases l1 with _ | _ <;> exact Nat.le_of_ble_eq_true rfl) hn ?_
  intro W0 hwl C
  subst hwl
  unfold q_X3_isWord at hr
  rw [show mm_en 2 [.ref l0, va_rf l1] = [some (.ref l0), some (va_rf l1)] from by rcases l1 with _ | _ <;> rfl]
  show WW W0 G 2 0 0 _ 0 [some (.ref l0), some (va_rf l1)] [] h n 0 0
  refine rr_aload_n (i := 0) C dX3_isWord_0 rfl rfl ?_
  refine rr_aload_nO (i := 1) C dX3_isWord_1 rfl rfl ?_
  replace hr := Option.bind_eq_some_iff.mp hr
  obtain ⟨u1, e2, hr⟩ := hr
  replace hr := Option.bind_eq_some_iff.mp hr
  obtain ⟨v3, e4, hr⟩ := hr
  refine rr_callVq (as := [va_rf l1]) (st := []) (mc' := 0) (ms' := 0) C dX3_isWord_2 iv_X3_205 (by decide) e2 rfl (Nat.le_of_ble_eq_true rfl) (c_X3_placeAmong l0 l1 (by omega) e4) (fun v_ h_ n_ q_ => ?_)
  obtain ⟨q1_, q2_, q3_⟩ := q_
  subst v_; subst h_; subst n_
  show WW W0 G 2 _ _ _ 5 [some (.ref l0), some (va_rf l1)] [.int v3] h n _ _
  refine rr_if_ne (tgt := 12) C dX3_isWord_5 (by decide) (fun c5_ => ?_) (fun c5_ => ?_)
  · replace hr := (if_neg c5_).symm.trans hr
    refine rr_iconst (v := 0) C dX3_isWord_12 (by decide) ?_
    obtain rfl := Option.some.inj hr
    exact rr_iret (ty := .boolean) C dX3_isWord_13 rfl rfl ⟨rfl, rfl, rfl⟩
  · replace hr := (if_pos c5_).symm.trans hr
    refine rr_iconst (v := 1) C dX3_isWord_8 (by decide) ?_
    refine rr_goto (tgt := 13) C dX3_isWord_9 (by decide) ?_
    obtain rfl := Option.some.inj hr
    exact rr_iret (ty := .boolean) C dX3_isWord_13 rfl rfl ⟨rfl, rfl, rfl⟩
def q_X3_isSign (K : Nat) (h : mm_H) (n : Nat) (l0 : Nat) (l1 : Int32) : Option (Int32) :=
  (rdI h n l0 3 2).bind fun v1 =>
  if v1 = 3 then
    (rdI h n l0 3 3).bind fun v3 =>
    (ckq h n l0 3).bind fun u5 =>
    (q_X3_byteAt K h n l0 v3).bind fun v7 =>
    if v7 = l1 then
      some 1
    else
    some 0
  else
  some 0
set_option maxRecDepth 100000 in
set_option maxHeartbeats 4000000 in
theorem c_X3_isSign {K : Nat} {G : mm_G} {l : Launch} {h : mm_H} {n : Nat} (l0 : Nat) (l1 : Int32) {r_ : Int32} (hn : 48 ≤ n) (hr : q_X3_isSign K h n l0 l1 = some r_) : Sp G l yX3_isSign cX3_isSign 2 (some .boolean) 1 0 0 [.ref l0, .int l1] h n (fun v h' n' => v = some (.int r_) ∧ h' = h ∧ n' = n) := by
  refine Sp_of (by decide +kernel) (Nat.le_of_ble_eq_true rfl) hn ?_
  intro W0 hwl C
  subst hwl
  unfold q_X3_isSign at hr
  show WW W0 G 2 0 0 _ 0 [some (.ref l0), some (.int l1)] [] h n 0 0
  refine rr_aload_n (i := 0) C dX3_isSign_0 rfl rfl ?_
  replace hr := Option.bind_eq_some_iff.mp hr
  obtain ⟨v1, e2, hr⟩ := hr
  refine rr_rdI C dX3_isSign_1 fl_X3_74 e2 ?_
  refine rr_iconst (v := 3) C dX3_isSign_4 (by decide) ?_
  refine rr_icmp_ne (tgt := 24) C dX3_isSign_5 (by decide) (fun c5_ => ?_) (fun c5_ => ?_)
  · replace hr := (if_neg c5_).symm.trans hr
    refine rr_iconst (v := 0) C dX3_isSign_24 (by decide) ?_
    obtain rfl := Option.some.inj hr
    exact rr_iret (ty := .boolean) C dX3_isSign_25 rfl rfl ⟨rfl, rfl, rfl⟩
  · replace hr := (if_pos c5_).symm.trans hr
    refine rr_aload_n (i := 0) C dX3_isSign_8 rfl rfl ?_
    refine rr_aload_n (i := 0) C dX3_isSign_9 rfl rfl ?_
    replace hr := Option.bind_eq_some_iff.mp hr
    obtain ⟨v3, e4, hr⟩ := hr
    refine rr_rdI C dX3_isSign_10 fl_X3_208 e4 ?_
    replace hr := Option.bind_eq_some_iff.mp hr
    obtain ⟨u5, e6, hr⟩ := hr
    replace hr := Option.bind_eq_some_iff.mp hr
    obtain ⟨v7, e8, hr⟩ := hr
    refine rr_callVq (as := [.int v3]) (st := []) (mc' := 0) (ms' := 0) C dX3_isSign_13 iv_X3_211 (by decide) e6 rfl (Nat.le_of_ble_eq_true rfl) (c_X3_byteAt l0 v3 (by omega) e8) (fun v_ h_ n_ q_ => ?_)
    obtain ⟨q1_, q2_, q3_⟩ := q_
    subst v_; subst h_; subst n_
    show WW W0 G 2 _ _ _ 16 [some (.ref l0), some (.int l1)] [.int v7] h n _ _
    refine rr_iload_n (i := 1) C dX3_isSign_16 rfl rfl ?_
    refine rr_icmp_ne (tgt := 24) C dX3_isSign_17 (by decide) (fun c17_ => ?_) (fun c17_ => ?_)
    · replace hr := (if_neg c17_).symm.trans hr
      refine rr_iconst (v := 0) C dX3_isSign_24 (by decide) ?_
      obtain rfl := Option.some.inj hr
      exact rr_iret (ty := .boolean) C dX3_isSign_25 rfl rfl ⟨rfl, rfl, rfl⟩
    · replace hr := (if_pos c17_).symm.trans hr
      refine rr_iconst (v := 1) C dX3_isSign_20 (by decide) ?_
      refine rr_goto (tgt := 25) C dX3_isSign_21 (by decide) ?_
      obtain rfl := Option.some.inj hr
      exact rr_iret (ty := .boolean) C dX3_isSign_25 rfl rfl ⟨rfl, rfl, rfl⟩
def q_X3_fail (K : Nat) (h : mm_H) (n : Nat) (l0 : Nat) : Option (mm_H) :=
  (rdI h n l0 3 5).bind fun v1 =>
  if v1 = (-1) then
    (rdI h n l0 3 3).bind fun v3 =>
    (wrF h n l0 3 5 (.int v3)).bind fun h5 =>
    (wrF h5 n l0 3 2 (.int 5)).bind fun h7 =>
    some h7
  else
  (wrF h n l0 3 2 (.int 5)).bind fun h9 =>
  some h9
set_option maxRecDepth 100000 in
set_option maxHeartbeats 4000000 in
theorem c_X3_fail {K : Nat} {G : mm_G} {l : Launch} {h : mm_H} {n : Nat} (l0 : Nat) {r_ : mm_H} (hn : 48 ≤ n) (hr : q_X3_fail K h n l0 = some r_) : Sp G l yX3_fail cX3_fail 1 none 0 0 0 [.ref l0] h n (fun v h' n' => v = none ∧ h' = r_ ∧ n' = n) := by
  refine Sp_of (by decide +kernel) (Nat.le_of_ble_eq_true rfl) hn ?_
  intro W0 hwl C
  subst hwl
  unfold q_X3_fail at hr
  show WW W0 G 1 0 0 _ 0 [some (.ref l0)] [] h n 0 0
  refine rr_aload_n (i := 0) C dX3_fail_0 rfl rfl ?_
  replace hr := Option.bind_eq_some_iff.mp hr
  obtain ⟨v1, e2, hr⟩ := hr
  refine rr_rdI C dX3_fail_1 fl_X3_18 e2 ?_
  refine rr_iconst (v := (-1)) C dX3_fail_4 (by decide) ?_
  refine rr_icmp_ne (tgt := 16) C dX3_fail_5 (by decide) (fun c5_ => ?_) (fun c5_ => ?_)
  · replace hr := (if_neg c5_).symm.trans hr
    refine rr_aload_n (i := 0) C dX3_fail_16 rfl rfl ?_
    refine rr_iconst (v := 5) C dX3_fail_17 (by decide) ?_
    replace hr := Option.bind_eq_some_iff.mp hr
    obtain ⟨h9, e10, hr⟩ := hr
    refine rr_wrF C dX3_fail_18 fp_X3_74 rfl rfl e10 ?_
    obtain rfl := Option.some.inj hr
    exact rr_vret C dX3_fail_21 rfl ⟨rfl, rfl, rfl⟩
  · replace hr := (if_pos c5_).symm.trans hr
    refine rr_aload_n (i := 0) C dX3_fail_8 rfl rfl ?_
    refine rr_aload_n (i := 0) C dX3_fail_9 rfl rfl ?_
    replace hr := Option.bind_eq_some_iff.mp hr
    obtain ⟨v3, e4, hr⟩ := hr
    refine rr_rdI C dX3_fail_10 fl_X3_208 e4 ?_
    replace hr := Option.bind_eq_some_iff.mp hr
    obtain ⟨h5, e6, hr⟩ := hr
    refine rr_wrF C dX3_fail_13 fp_X3_18 rfl rfl e6 ?_
    refine rr_aload_n (i := 0) C dX3_fail_16 rfl rfl ?_
    refine rr_iconst (v := 5) C dX3_fail_17 (by decide) ?_
    replace hr := Option.bind_eq_some_iff.mp hr
    obtain ⟨h7, e8, hr⟩ := hr
    refine rr_wrF C dX3_fail_18 fp_X3_74 rfl rfl e8 ?_
    obtain rfl := Option.some.inj hr
    exact rr_vret C dX3_fail_21 rfl ⟨rfl, rfl, rfl⟩
def q_X3_sign (K : Nat) (h : mm_H) (n : Nat) (l0 : Nat) (l1 : Int32) : Option (mm_H) :=
  (ckq h n l0 3).bind fun u1 =>
  (q_X3_isSign K h n l0 l1).bind fun v3 =>
  if v3 = 0 then
    (ckq h n l0 3).bind fun u5 =>
    (q_X3_fail K h n l0).bind fun v7 =>
    some v7
  else
  (ckq h n l0 3).bind fun u9 =>
  (q_X3_step K h n l0).bind fun v11 =>
  some v11
set_option maxRecDepth 100000 in
set_option maxHeartbeats 4000000 in
theorem c_X3_sign {K : Nat} {G : mm_G} {l : Launch} {h : mm_H} {n : Nat} (l0 : Nat) (l1 : Int32) {r_ : mm_H} (hn : 48 ≤ n) (hr : q_X3_sign K h n l0 l1 = some r_) : Sp G l yX3_sign cX3_sign 2 none 2 0 0 [.ref l0, .int l1] h n (fun v h' n' => v = none ∧ h' = r_ ∧ n' = n) := by
  refine Sp_of (by decide +kernel) (Nat.le_of_ble_eq_true rfl) hn ?_
  intro W0 hwl C
  subst hwl
  unfold q_X3_sign at hr
  show WW W0 G 2 0 0 _ 0 [some (.ref l0), some (.int l1)] [] h n 0 0
  refine rr_aload_n (i := 0) C dX3_sign_0 rfl rfl ?_
  refine rr_iload_n (i := 1) C dX3_sign_1 rfl rfl ?_
  replace hr := Option.bind_eq_some_iff.mp hr
  obtain ⟨u1, e2, hr⟩ := hr
  replace hr := Option.bind_eq_some_iff.mp hr
  obtain ⟨v3, e4, hr⟩ := hr
  refine rr_callVq (as := [.int l1]) (st := []) (mc' := 0) (ms' := 0) C dX3_sign_2 iv_X3_193 (by decide) e2 rfl (Nat.le_of_ble_eq_true rfl) (c_X3_isSign l0 l1 (by omega) e4) (fun v_ h_ n_ q_ => ?_)
  obtain ⟨q1_, q2_, q3_⟩ := q_
  subst v_; subst h_; subst n_
  show WW W0 G 2 _ _ _ 5 [some (.ref l0), some (.int l1)] [.int v3] h n _ _
  refine rr_if_eq (tgt := 15) C dX3_sign_5 (by decide) (fun c5_ => ?_) (fun c5_ => ?_)
  · replace hr := (if_pos c5_).symm.trans hr
    refine rr_aload_n (i := 0) C dX3_sign_15 rfl rfl ?_
    replace hr := Option.bind_eq_some_iff.mp hr
    obtain ⟨u5, e6, hr⟩ := hr
    replace hr := Option.bind_eq_some_iff.mp hr
    obtain ⟨v7, e8, hr⟩ := hr
    refine rr_callVq (as := []) (st := []) (mc' := 0) (ms' := 0) C dX3_sign_16 iv_X3_85 (by decide) e6 rfl (Nat.le_of_ble_eq_true rfl) (c_X3_fail l0 (by omega) e8) (fun v_ h_ n_ q_ => ?_)
    obtain ⟨q1_, q2_, q3_⟩ := q_
    subst v_; subst h_; subst n_
    show WW W0 G 2 _ _ _ 19 [some (.ref l0), some (.int l1)] [] v7 n _ _
    obtain rfl := Option.some.inj hr
    exact rr_vret C dX3_sign_19 rfl ⟨rfl, rfl, rfl⟩
  · replace hr := (if_neg c5_).symm.trans hr
    refine rr_aload_n (i := 0) C dX3_sign_8 rfl rfl ?_
    replace hr := Option.bind_eq_some_iff.mp hr
    obtain ⟨u9, e10, hr⟩ := hr
    replace hr := Option.bind_eq_some_iff.mp hr
    obtain ⟨v11, e12, hr⟩ := hr
    refine rr_callVq (as := []) (st := []) (mc' := 0) (ms' := 0) C dX3_sign_9 iv_X3_61 (by decide) e10 rfl (Nat.le_of_ble_eq_true rfl) (c_X3_step l0 (by omega) e12) (fun v_ h_ n_ q_ => ?_)
    obtain ⟨q1_, q2_, q3_⟩ := q_
    subst v_; subst h_; subst n_
    show WW W0 G 2 _ _ _ 12 [some (.ref l0), some (.int l1)] [] v11 n _ _
    refine rr_goto (tgt := 19) C dX3_sign_12 (by decide) ?_
    obtain rfl := Option.some.inj hr
    exact rr_vret C dX3_sign_19 rfl ⟨rfl, rfl, rfl⟩
def lp_X3_value_22 (K : Nat) (h : mm_H) (n : Nat) (l0 : Nat) : Nat → Int32 → Int32 → Option (Int32)
  | 0, _, _ => none
  | k_ + 1, l1, l2 =>
    (rdI h n l0 3 4).bind fun v7 =>
    if v7 ≤ l2 then
      some (l1)
    else
    (ckq h n l0 3).bind fun u9 =>
    (q_X3_byteAt K h n l0 l2).bind fun v11 =>
    lp_X3_value_22 K h n l0 k_ (((l1 * 10) + v11) - 48) (l2 + 1)
def q_X3_value (K : Nat) (h : mm_H) (n : Nat) (l0 : Nat) : Option (Int32) :=
  (rdI h n l0 3 4).bind fun v1 =>
  (rdI h n l0 3 3).bind fun v3 =>
  if (v1 - v3) ≤ 5 then
    (rdI h n l0 3 3).bind fun v5 =>
    (lp_X3_value_22 K h n l0 K 0 v5).bind fun v14 =>
    some v14
  else
  some (-1)
set_option maxRecDepth 100000 in
set_option maxHeartbeats 4000000 in
theorem w_X3_value_22 {K : Nat} {W0 : mm_X} {G : mm_G} {mc ms kc ks : Nat} {Q_ : State → Prop} {h : mm_H} {n : Nat} (C : mm_C W0 G cX3_value yX3_value.cls 3 mc ms (some .int) 1 yX3_value.name) (hn : 48 ≤ n) (l0 : Nat) : ∀ (k_ : Nat) (l1 : Int32) (l2 : Int32) {r_ : Int32} (hr : lp_X3_value_22 K h n l0 k_ l1 l2 = some r_) (hx0 : WW W0 G 3 mc ms Q_ 50 [none, some (.int r_), none] [] h n kc ks), WW W0 G 3 mc ms Q_ 22 [some (.ref l0), some (.int l1), some (.int l2)] [] h n kc ks := by
  intro k_
  induction k_ with
  | zero =>
    intro l1 l2 r_ hr
    cases hr
  | succ k_ ih_ =>
    intro l1 l2 r_ hr hx0
    unfold lp_X3_value_22 at hr
    refine rr_iload_n (i := 2) C dX3_value_22 rfl rfl ?_
    refine rr_aload_n (i := 0) C dX3_value_23 rfl rfl ?_
    replace hr := Option.bind_eq_some_iff.mp hr
    obtain ⟨v7, e8, hr⟩ := hr
    refine rr_rdI C dX3_value_24 fl_X3_46 e8 ?_
    refine rr_icmp_ge (tgt := 50) C dX3_value_27 (by decide) (fun c27_ => ?_) (fun c27_ => ?_)
    · replace hr := (if_pos c27_).symm.trans hr
      obtain rfl := Option.some.inj hr
      exact rr_keep [false, true, false] (hx0)
    · replace hr := (if_neg c27_).symm.trans hr
      refine rr_iload_n (i := 1) C dX3_value_30 rfl rfl ?_
      refine rr_bipush (v := 10) C dX3_value_31 (by decide) ?_
      refine rr_imul C dX3_value_33 ?_
      refine rr_aload_n (i := 0) C dX3_value_34 rfl rfl ?_
      refine rr_iload_n (i := 2) C dX3_value_35 rfl rfl ?_
      replace hr := Option.bind_eq_some_iff.mp hr
      obtain ⟨u9, e10, hr⟩ := hr
      replace hr := Option.bind_eq_some_iff.mp hr
      obtain ⟨v11, e12, hr⟩ := hr
      refine rr_callVq (as := [.int l2]) (st := [.int (l1 * 10)]) (mc' := 0) (ms' := 0) C dX3_value_36 iv_X3_211 (by decide) e10 rfl (Nat.le_of_ble_eq_true rfl) (c_X3_byteAt l0 l2 (by omega) e12) (fun v_ h_ n_ q_ => ?_)
      obtain ⟨q1_, q2_, q3_⟩ := q_
      subst v_; subst h_; subst n_
      show WW W0 G 3 _ _ _ 39 [some (.ref l0), some (.int l1), some (.int l2)] [.int v11, .int (l1 * 10)] h n _ _
      refine rr_iadd C dX3_value_39 ?_
      refine rr_bipush (v := 48) C dX3_value_40 (by decide) ?_
      refine rr_isub C dX3_value_42 ?_
      refine rr_istore_n (i := 1) C dX3_value_43 rfl (by decide) ?_
      show WW W0 G 3 _ _ _ 44 [some (.ref l0), some (.int (((l1 * 10) + v11) - 48)), some (.int l2)] [] h n _ _
      refine rr_iinc (v := l2 + 1) C dX3_value_44 rfl rfl ?_
      show WW W0 G 3 _ _ _ 47 [some (.ref l0), some (.int (((l1 * 10) + v11) - 48)), some (.int (l2 + 1))] [] h n _ _
      refine rr_goto (tgt := 22) C dX3_value_47 (by decide) ?_
      exact rr_keep [true, true, true] (ih_ _ _ hr hx0)
set_option maxRecDepth 100000 in
set_option maxHeartbeats 4000000 in
theorem c_X3_value {K : Nat} {G : mm_G} {l : Launch} {h : mm_H} {n : Nat} (l0 : Nat) {r_ : Int32} (hn : 48 ≤ n) (hr : q_X3_value K h n l0 = some r_) : Sp G l yX3_value cX3_value 3 (some .int) 1 0 0 [.ref l0] h n (fun v h' n' => v = some (.int r_) ∧ h' = h ∧ n' = n) := by
  refine Sp_of (by decide +kernel) (Nat.le_of_ble_eq_true rfl) hn ?_
  intro W0 hwl C
  subst hwl
  unfold q_X3_value at hr
  show WW W0 G 3 0 0 _ 0 [some (.ref l0), none, none] [] h n 0 0
  refine rr_aload_n (i := 0) C dX3_value_0 rfl rfl ?_
  replace hr := Option.bind_eq_some_iff.mp hr
  obtain ⟨v1, e2, hr⟩ := hr
  refine rr_rdI C dX3_value_1 fl_X3_46 e2 ?_
  refine rr_aload_n (i := 0) C dX3_value_4 rfl rfl ?_
  replace hr := Option.bind_eq_some_iff.mp hr
  obtain ⟨v3, e4, hr⟩ := hr
  refine rr_rdI C dX3_value_5 fl_X3_208 e4 ?_
  refine rr_isub C dX3_value_8 ?_
  refine rr_iconst (v := 5) C dX3_value_9 (by decide) ?_
  refine rr_icmp_le (tgt := 15) C dX3_value_10 (by decide) (fun c10_ => ?_) (fun c10_ => ?_)
  · replace hr := (if_pos c10_).symm.trans hr
    refine rr_iconst (v := 0) C dX3_value_15 (by decide) ?_
    refine rr_istore_n (i := 1) C dX3_value_16 rfl (by decide) ?_
    show WW W0 G 3 _ _ _ 17 [some (.ref l0), some (.int 0), none] [] h n _ _
    refine rr_aload_n (i := 0) C dX3_value_17 rfl rfl ?_
    replace hr := Option.bind_eq_some_iff.mp hr
    obtain ⟨v5, e6, hr⟩ := hr
    refine rr_rdI C dX3_value_18 fl_X3_208 e6 ?_
    refine rr_istore_n (i := 2) C dX3_value_21 rfl (by decide) ?_
    show WW W0 G 3 _ _ _ 22 [some (.ref l0), some (.int 0), some (.int v5)] [] h n _ _
    replace hr := Option.bind_eq_some_iff.mp hr
    obtain ⟨v14, e15, hr⟩ := hr
    refine rr_keep [true, true, true] (w_X3_value_22 C (by omega) l0 K 0 v5 e15 ?_)
    show WW W0 G 3 _ _ _ 50 [none, some (.int v14), none] [] h n _ _
    refine rr_iload_n (i := 1) C dX3_value_50 rfl rfl ?_
    obtain rfl := Option.some.inj hr
    exact rr_iret (ty := .int) C dX3_value_51 rfl rfl ⟨rfl, rfl, rfl⟩
  · replace hr := (if_neg c10_).symm.trans hr
    refine rr_iconst (v := (-1)) C dX3_value_13 (by decide) ?_
    obtain rfl := Option.some.inj hr
    exact rr_iret (ty := .int) C dX3_value_14 rfl rfl ⟨rfl, rfl, rfl⟩
def q_X3_strike (K : Nat) (h : mm_H) (n : Nat) (l0 : Nat) (l1 : Option Nat) : Option (mm_H) :=
  (ckq h n l0 3).bind fun u1 =>
  (q_X3_step K h n l0).bind fun v3 =>
  (rdI v3 n l0 3 2).bind fun v5 =>
  if v5 = 2 then
    (ckq v3 n l0 3).bind fun u7 =>
    (q_X3_value K v3 n l0).bind fun v9 =>
    match l1 with
    | none =>
      (ckq v3 n l0 3).bind fun u12 =>
      (q_X3_fail K v3 n l0).bind fun v14 =>
      some v14
    | some a11 =>
      if v9 < 0 then
        (ckq v3 n l0 3).bind fun u16 =>
        (q_X3_fail K v3 n l0).bind fun v18 =>
        some v18
      else
      (rdI v3 n a11 6 1).bind fun v20 =>
      if v20 ≤ v9 then
        (ckq v3 n l0 3).bind fun u22 =>
        (q_X3_fail K v3 n l0).bind fun v24 =>
        some v24
      else
      (rdR v3 n l0 3 6).bind fun v26 =>
      v26.bind fun a28 =>
      (lenA v3 n a28 0).bind fun v30 =>
      if v30 ≤ v9 then
        (ckq v3 n l0 3).bind fun u32 =>
        (q_X3_fail K v3 n l0).bind fun v34 =>
        some v34
      else
      (rdR v3 n l0 3 6).bind fun v36 =>
      v36.bind fun a38 =>
      (ldI v3 n a38 v9).bind fun v40 =>
      if v40 = 0 then
        (ckq v3 n l0 3).bind fun u42 =>
        (q_X3_step K v3 n l0).bind fun v44 =>
        (ckq v44 n l0 3).bind fun u46 =>
        (q_X3_sign K v44 n l0 59).bind fun v48 =>
        (rdR v48 n l0 3 6).bind fun v50 =>
        v50.bind fun a52 =>
        (stI v48 n a52 v9 1).bind fun h54 =>
        (rdI h54 n l0 3 7).bind fun v56 =>
        (wrF h54 n l0 3 7 (.int (v56 + 1))).bind fun h58 =>
        some h58
      else
      (ckq v3 n l0 3).bind fun u60 =>
      (q_X3_fail K v3 n l0).bind fun v62 =>
      some v62
  else
  match l1 with
  | none =>
    (ckq v3 n l0 3).bind fun u65 =>
    (q_X3_fail K v3 n l0).bind fun v67 =>
    some v67
  | some a64 =>
    (ckq v3 n l0 3).bind fun u69 =>
    (q_X3_fail K v3 n l0).bind fun v71 =>
    some v71
set_option maxRecDepth 100000 in
set_option maxHeartbeats 4000000 in
theorem c_X3_strike {K : Nat} {G : mm_G} {l : Launch} {h : mm_H} {n : Nat} (l0 : Nat) (l1 : Option Nat) {r_ : mm_H} (hn : 48 ≤ n) (hr : q_X3_strike K h n l0 l1 = some r_) : Sp G l yX3_strike cX3_strike 3 none 3 0 0 [.ref l0, va_rf l1] h n (fun v h' n' => v = none ∧ h' = r_ ∧ n' = n) := by
  refine Sp_of (by decide +kernel) (by rcases l1 with _ | _ <;> exact Nat.le_of_ble_eq_true rfl) hn ?_
  intro W0 hwl C
  subst hwl
  unfold q_X3_strike at hr
  rw [show mm_en 3 [.ref l0, va_rf l1] = [some (.ref l0), some (va_rf l1), none] from by rcases l1 with _ | _ <;> rfl]
  show WW W0 G 3 0 0 _ 0 [some (.ref l0), some (va_rf l1), none] [] h n 0 0
  refine rr_aload_n (i := 0) C dX3_strike_0 rfl rfl ?_
  replace hr := Option.bind_eq_some_iff.mp hr
  obtain ⟨u1, e2, hr⟩ := hr
  replace hr := Option.bind_eq_some_iff.mp hr
  obtain ⟨v3, e4, hr⟩ := hr
  refine rr_callVq (as := []) (st := []) (mc' := 0) (ms' := 0) C dX3_strike_1 iv_X3_61 (by decide) e2 rfl (Nat.le_of_ble_eq_true rfl) (c_X3_step l0 (by omega) e4) (fun v_ h_ n_ q_ => ?_)
  obtain ⟨q1_, q2_, q3_⟩ := q_
  subst v_; subst h_; subst n_
  show WW W0 G 3 _ _ _ 4 [some (.ref l0), some (va_rf l1), none] [] v3 n _ _
  refine rr_aload_n (i := 0) C dX3_strike_4 rfl rfl ?_
  replace hr := Option.bind_eq_some_iff.mp hr
  obtain ⟨v5, e6, hr⟩ := hr
  refine rr_rdI C dX3_strike_5 fl_X3_74 e6 ?_
  refine rr_iconst (v := 2) C dX3_strike_8 (by decide) ?_
  refine rr_icmp_ne (tgt := 19) C dX3_strike_9 (by decide) (fun c9_ => ?_) (fun c9_ => ?_)
  · replace hr := (if_neg c9_).symm.trans hr
    refine rr_iconst (v := (-1)) C dX3_strike_19 (by decide) ?_
    refine rr_istore_n (i := 2) C dX3_strike_20 rfl (by decide) ?_
    rw [mm_set1_rf (i := 1) (r := l1) rfl]
    show WW W0 G 3 _ _ _ 21 [some (.ref l0), some (va_rf l1), some (.int (-1))] [] v3 n _ _
    refine rr_aload_nO (i := 1) C dX3_strike_21 rfl rfl ?_
    rcases l1 with _ | a64
    · dsimp only at hr
      refine rr_ifnullN (tgt := 55) C dX3_strike_22 (by decide) ?_
      refine rr_aload_n (i := 0) C dX3_strike_55 rfl rfl ?_
      replace hr := Option.bind_eq_some_iff.mp hr
      obtain ⟨u65, e66, hr⟩ := hr
      replace hr := Option.bind_eq_some_iff.mp hr
      obtain ⟨v67, e68, hr⟩ := hr
      refine rr_callVq (as := []) (st := []) (mc' := 0) (ms' := 0) C dX3_strike_56 iv_X3_85 (by decide) e66 rfl (Nat.le_of_ble_eq_true rfl) (c_X3_fail l0 (by omega) e68) (fun v_ h_ n_ q_ => ?_)
      obtain ⟨q1_, q2_, q3_⟩ := q_
      subst v_; subst h_; subst n_
      show WW W0 G 3 _ _ _ 59 [some (.ref l0), some (.null), some (.int (-1))] [] v67 n _ _
      obtain rfl := Option.some.inj hr
      exact rr_vret C dX3_strike_59 rfl ⟨rfl, rfl, rfl⟩
    · dsimp only at hr
      refine rr_ifnull C dX3_strike_22 ?_
      refine rr_iload_n (i := 2) C dX3_strike_25 rfl rfl ?_
      refine rr_if_lt (tgt := 55) C dX3_strike_26 (by decide) (fun _ => ?_) (fun q_ => absurd (by decide) q_)
      refine rr_aload_n (i := 0) C dX3_strike_55 rfl rfl ?_
      replace hr := Option.bind_eq_some_iff.mp hr
      obtain ⟨u69, e70, hr⟩ := hr
      replace hr := Option.bind_eq_some_iff.mp hr
      obtain ⟨v71, e72, hr⟩ := hr
      refine rr_callVq (as := []) (st := []) (mc' := 0) (ms' := 0) C dX3_strike_56 iv_X3_85 (by decide) e70 rfl (Nat.le_of_ble_eq_true rfl) (c_X3_fail l0 (by omega) e72) (fun v_ h_ n_ q_ => ?_)
      obtain ⟨q1_, q2_, q3_⟩ := q_
      subst v_; subst h_; subst n_
      show WW W0 G 3 _ _ _ 59 [some (.ref l0), some (.ref a64), some (.int (-1))] [] v71 n _ _
      obtain rfl := Option.some.inj hr
      exact rr_vret C dX3_strike_59 rfl ⟨rfl, rfl, rfl⟩
  · replace hr := (if_pos c9_).symm.trans hr
    refine rr_aload_n (i := 0) C dX3_strike_12 rfl rfl ?_
    replace hr := Option.bind_eq_some_iff.mp hr
    obtain ⟨u7, e8, hr⟩ := hr
    replace hr := Option.bind_eq_some_iff.mp hr
    obtain ⟨v9, e10, hr⟩ := hr
    refine rr_callVq (as := []) (st := []) (mc' := 0) (ms' := 0) C dX3_strike_13 iv_X3_108 (by decide) e8 rfl (Nat.le_of_ble_eq_true rfl) (c_X3_value l0 (by omega) e10) (fun v_ h_ n_ q_ => ?_)
    obtain ⟨q1_, q2_, q3_⟩ := q_
    subst v_; subst h_; subst n_
    show WW W0 G 3 _ _ _ 16 [some (.ref l0), some (va_rf l1), none] [.int v9] v3 n _ _
    refine rr_goto (tgt := 20) C dX3_strike_16 (by decide) ?_
    refine rr_istore_n (i := 2) C dX3_strike_20 rfl (by decide) ?_
    rw [mm_set1_rf (i := 1) (r := l1) rfl]
    show WW W0 G 3 _ _ _ 21 [some (.ref l0), some (va_rf l1), some (.int v9)] [] v3 n _ _
    refine rr_aload_nO (i := 1) C dX3_strike_21 rfl rfl ?_
    rcases l1 with _ | a11
    · dsimp only at hr
      refine rr_ifnullN (tgt := 55) C dX3_strike_22 (by decide) ?_
      refine rr_aload_n (i := 0) C dX3_strike_55 rfl rfl ?_
      replace hr := Option.bind_eq_some_iff.mp hr
      obtain ⟨u12, e13, hr⟩ := hr
      replace hr := Option.bind_eq_some_iff.mp hr
      obtain ⟨v14, e15, hr⟩ := hr
      refine rr_callVq (as := []) (st := []) (mc' := 0) (ms' := 0) C dX3_strike_56 iv_X3_85 (by decide) e13 rfl (Nat.le_of_ble_eq_true rfl) (c_X3_fail l0 (by omega) e15) (fun v_ h_ n_ q_ => ?_)
      obtain ⟨q1_, q2_, q3_⟩ := q_
      subst v_; subst h_; subst n_
      show WW W0 G 3 _ _ _ 59 [some (.ref l0), some (.null), some (.int v9)] [] v14 n _ _
      obtain rfl := Option.some.inj hr
      exact rr_vret C dX3_strike_59 rfl ⟨rfl, rfl, rfl⟩
    · dsimp only at hr
      refine rr_ifnull C dX3_strike_22 ?_
      refine rr_iload_n (i := 2) C dX3_strike_25 rfl rfl ?_
      refine rr_if_lt (tgt := 55) C dX3_strike_26 (by decide) (fun c26_ => ?_) (fun c26_ => ?_)
      · replace hr := (if_pos c26_).symm.trans hr
        refine rr_aload_n (i := 0) C dX3_strike_55 rfl rfl ?_
        replace hr := Option.bind_eq_some_iff.mp hr
        obtain ⟨u16, e17, hr⟩ := hr
        replace hr := Option.bind_eq_some_iff.mp hr
        obtain ⟨v18, e19, hr⟩ := hr
        refine rr_callVq (as := []) (st := []) (mc' := 0) (ms' := 0) C dX3_strike_56 iv_X3_85 (by decide) e17 rfl (Nat.le_of_ble_eq_true rfl) (c_X3_fail l0 (by omega) e19) (fun v_ h_ n_ q_ => ?_)
        obtain ⟨q1_, q2_, q3_⟩ := q_
        subst v_; subst h_; subst n_
        show WW W0 G 3 _ _ _ 59 [some (.ref l0), some (.ref a11), some (.int v9)] [] v18 n _ _
        obtain rfl := Option.some.inj hr
        exact rr_vret C dX3_strike_59 rfl ⟨rfl, rfl, rfl⟩
      · replace hr := (if_neg c26_).symm.trans hr
        refine rr_iload_n (i := 2) C dX3_strike_29 rfl rfl ?_
        refine rr_aload_n (i := 1) C dX3_strike_30 rfl rfl ?_
        replace hr := Option.bind_eq_some_iff.mp hr
        obtain ⟨v20, e21, hr⟩ := hr
        refine rr_rdI C dX3_strike_31 fl_X3_92 e21 ?_
        refine rr_icmp_ge (tgt := 55) C dX3_strike_34 (by decide) (fun c34_ => ?_) (fun c34_ => ?_)
        · replace hr := (if_pos c34_).symm.trans hr
          refine rr_aload_n (i := 0) C dX3_strike_55 rfl rfl ?_
          replace hr := Option.bind_eq_some_iff.mp hr
          obtain ⟨u22, e23, hr⟩ := hr
          replace hr := Option.bind_eq_some_iff.mp hr
          obtain ⟨v24, e25, hr⟩ := hr
          refine rr_callVq (as := []) (st := []) (mc' := 0) (ms' := 0) C dX3_strike_56 iv_X3_85 (by decide) e23 rfl (Nat.le_of_ble_eq_true rfl) (c_X3_fail l0 (by omega) e25) (fun v_ h_ n_ q_ => ?_)
          obtain ⟨q1_, q2_, q3_⟩ := q_
          subst v_; subst h_; subst n_
          show WW W0 G 3 _ _ _ 59 [some (.ref l0), some (.ref a11), some (.int v9)] [] v24 n _ _
          obtain rfl := Option.some.inj hr
          exact rr_vret C dX3_strike_59 rfl ⟨rfl, rfl, rfl⟩
        · replace hr := (if_neg c34_).symm.trans hr
          refine rr_iload_n (i := 2) C dX3_strike_37 rfl rfl ?_
          refine rr_aload_n (i := 0) C dX3_strike_38 rfl rfl ?_
          replace hr := Option.bind_eq_some_iff.mp hr
          obtain ⟨v26, e27, hr⟩ := hr
          refine rr_rdR C dX3_strike_39 fl_X3_22 e27 ?_
          replace hr := Option.bind_eq_some_iff.mp hr
          obtain ⟨a28, e29, hr⟩ := hr
          subst e29
          replace hr := Option.bind_eq_some_iff.mp hr
          obtain ⟨v30, e31, hr⟩ := hr
          refine rr_lenA C dX3_strike_42 e31 ?_
          refine rr_icmp_ge (tgt := 55) C dX3_strike_43 (by decide) (fun c43_ => ?_) (fun c43_ => ?_)
          · replace hr := (if_pos c43_).symm.trans hr
            refine rr_aload_n (i := 0) C dX3_strike_55 rfl rfl ?_
            replace hr := Option.bind_eq_some_iff.mp hr
            obtain ⟨u32, e33, hr⟩ := hr
            replace hr := Option.bind_eq_some_iff.mp hr
            obtain ⟨v34, e35, hr⟩ := hr
            refine rr_callVq (as := []) (st := []) (mc' := 0) (ms' := 0) C dX3_strike_56 iv_X3_85 (by decide) e33 rfl (Nat.le_of_ble_eq_true rfl) (c_X3_fail l0 (by omega) e35) (fun v_ h_ n_ q_ => ?_)
            obtain ⟨q1_, q2_, q3_⟩ := q_
            subst v_; subst h_; subst n_
            show WW W0 G 3 _ _ _ 59 [some (.ref l0), some (.ref a11), some (.int v9)] [] v34 n _ _
            obtain rfl := Option.some.inj hr
            exact rr_vret C dX3_strike_59 rfl ⟨rfl, rfl, rfl⟩
          · replace hr := (if_neg c43_).symm.trans hr
            refine rr_aload_n (i := 0) C dX3_strike_46 rfl rfl ?_
            replace hr := Option.bind_eq_some_iff.mp hr
            obtain ⟨v36, e37, hr⟩ := hr
            refine rr_rdR C dX3_strike_47 fl_X3_22 e37 ?_
            refine rr_iload_n (i := 2) C dX3_strike_50 rfl rfl ?_
            replace hr := Option.bind_eq_some_iff.mp hr
            obtain ⟨a38, e39, hr⟩ := hr
            subst e39
            replace hr := Option.bind_eq_some_iff.mp hr
            obtain ⟨v40, e41, hr⟩ := hr
            refine rr_ldI C dX3_strike_51 e41 ?_
            refine rr_if_eq (tgt := 60) C dX3_strike_52 (by decide) (fun c52_ => ?_) (fun c52_ => ?_)
            · replace hr := (if_pos c52_).symm.trans hr
              refine rr_aload_n (i := 0) C dX3_strike_60 rfl rfl ?_
              replace hr := Option.bind_eq_some_iff.mp hr
              obtain ⟨u42, e43, hr⟩ := hr
              replace hr := Option.bind_eq_some_iff.mp hr
              obtain ⟨v44, e45, hr⟩ := hr
              refine rr_callVq (as := []) (st := []) (mc' := 0) (ms' := 0) C dX3_strike_61 iv_X3_61 (by decide) e43 rfl (Nat.le_of_ble_eq_true rfl) (c_X3_step l0 (by omega) e45) (fun v_ h_ n_ q_ => ?_)
              obtain ⟨q1_, q2_, q3_⟩ := q_
              subst v_; subst h_; subst n_
              show WW W0 G 3 _ _ _ 64 [some (.ref l0), some (.ref a11), some (.int v9)] [] v44 n _ _
              refine rr_aload_n (i := 0) C dX3_strike_64 rfl rfl ?_
              refine rr_bipush (v := 59) C dX3_strike_65 (by decide) ?_
              replace hr := Option.bind_eq_some_iff.mp hr
              obtain ⟨u46, e47, hr⟩ := hr
              replace hr := Option.bind_eq_some_iff.mp hr
              obtain ⟨v48, e49, hr⟩ := hr
              refine rr_callVq (as := [.int 59]) (st := []) (mc' := 0) (ms' := 0) C dX3_strike_67 iv_X3_70 (by decide) e47 rfl (Nat.le_of_ble_eq_true rfl) (c_X3_sign l0 59 (by omega) e49) (fun v_ h_ n_ q_ => ?_)
              obtain ⟨q1_, q2_, q3_⟩ := q_
              subst v_; subst h_; subst n_
              show WW W0 G 3 _ _ _ 70 [some (.ref l0), some (.ref a11), some (.int v9)] [] v48 n _ _
              refine rr_aload_n (i := 0) C dX3_strike_70 rfl rfl ?_
              replace hr := Option.bind_eq_some_iff.mp hr
              obtain ⟨v50, e51, hr⟩ := hr
              refine rr_rdR C dX3_strike_71 fl_X3_22 e51 ?_
              refine rr_iload_n (i := 2) C dX3_strike_74 rfl rfl ?_
              refine rr_iconst (v := 1) C dX3_strike_75 (by decide) ?_
              replace hr := Option.bind_eq_some_iff.mp hr
              obtain ⟨a52, e53, hr⟩ := hr
              subst e53
              replace hr := Option.bind_eq_some_iff.mp hr
              obtain ⟨h54, e55, hr⟩ := hr
              refine rr_stI C dX3_strike_76 e55 ?_
              refine rr_aload_n (i := 0) C dX3_strike_77 rfl rfl ?_
              refine rr_dup C dX3_strike_78 rfl ?_
              replace hr := Option.bind_eq_some_iff.mp hr
              obtain ⟨v56, e57, hr⟩ := hr
              refine rr_rdI C dX3_strike_79 fl_X3_49 e57 ?_
              refine rr_iconst (v := 1) C dX3_strike_82 (by decide) ?_
              refine rr_iadd C dX3_strike_83 ?_
              replace hr := Option.bind_eq_some_iff.mp hr
              obtain ⟨h58, e59, hr⟩ := hr
              refine rr_wrF C dX3_strike_84 fp_X3_49 rfl rfl e59 ?_
              obtain rfl := Option.some.inj hr
              exact rr_vret C dX3_strike_87 rfl ⟨rfl, rfl, rfl⟩
            · replace hr := (if_neg c52_).symm.trans hr
              refine rr_aload_n (i := 0) C dX3_strike_55 rfl rfl ?_
              replace hr := Option.bind_eq_some_iff.mp hr
              obtain ⟨u60, e61, hr⟩ := hr
              replace hr := Option.bind_eq_some_iff.mp hr
              obtain ⟨v62, e63, hr⟩ := hr
              refine rr_callVq (as := []) (st := []) (mc' := 0) (ms' := 0) C dX3_strike_56 iv_X3_85 (by decide) e61 rfl (Nat.le_of_ble_eq_true rfl) (c_X3_fail l0 (by omega) e63) (fun v_ h_ n_ q_ => ?_)
              obtain ⟨q1_, q2_, q3_⟩ := q_
              subst v_; subst h_; subst n_
              show WW W0 G 3 _ _ _ 59 [some (.ref l0), some (.ref a11), some (.int v9)] [] v62 n _ _
              obtain rfl := Option.some.inj hr
              exact rr_vret C dX3_strike_59 rfl ⟨rfl, rfl, rfl⟩
def q_X3_pick (K : Nat) (h : mm_H) (n : Nat) (l0 : Nat) (l1 : Option Nat) : Option (Int32 × mm_H) :=
  (ckq h n l0 3).bind fun u1 =>
  (q_X3_placeAmong K h n l0 l1).bind fun v3 =>
  if v3 = (-1) then
    (ckq h n l0 3).bind fun u5 =>
    (q_X3_fail K h n l0).bind fun v7 =>
    some (v3, v7)
  else
  (ckq h n l0 3).bind fun u9 =>
  (q_X3_step K h n l0).bind fun v11 =>
  some (v3, v11)
set_option maxRecDepth 100000 in
set_option maxHeartbeats 4000000 in
theorem c_X3_pick {K : Nat} {G : mm_G} {l : Launch} {h : mm_H} {n : Nat} (l0 : Nat) (l1 : Option Nat) {r_ : Int32 × mm_H} (hn : 48 ≤ n) (hr : q_X3_pick K h n l0 l1 = some r_) : Sp G l yX3_pick cX3_pick 3 (some .int) 5 0 0 [.ref l0, va_rf l1] h n (fun v h' n' => v = some (.int r_.1) ∧ h' = r_.2 ∧ n' = n) := by
  refine Sp_of (by decide +kernel) (by rcases l1 with _ | _ <;> exact Nat.le_of_ble_eq_true rfl) hn ?_
  intro W0 hwl C
  subst hwl
  unfold q_X3_pick at hr
  rw [show mm_en 3 [.ref l0, va_rf l1] = [some (.ref l0), some (va_rf l1), none] from by rcases l1 with _ | _ <;> rfl]
  show WW W0 G 3 0 0 _ 0 [some (.ref l0), some (va_rf l1), none] [] h n 0 0
  refine rr_aload_n (i := 0) C dX3_pick_0 rfl rfl ?_
  refine rr_aload_nO (i := 1) C dX3_pick_1 rfl rfl ?_
  replace hr := Option.bind_eq_some_iff.mp hr
  obtain ⟨u1, e2, hr⟩ := hr
  replace hr := Option.bind_eq_some_iff.mp hr
  obtain ⟨v3, e4, hr⟩ := hr
  refine rr_callVq (as := [va_rf l1]) (st := []) (mc' := 0) (ms' := 0) C dX3_pick_2 iv_X3_205 (by decide) e2 rfl (Nat.le_of_ble_eq_true rfl) (c_X3_placeAmong l0 l1 (by omega) e4) (fun v_ h_ n_ q_ => ?_)
  obtain ⟨q1_, q2_, q3_⟩ := q_
  subst v_; subst h_; subst n_
  show WW W0 G 3 _ _ _ 5 [some (.ref l0), some (va_rf l1), none] [.int v3] h n _ _
  refine rr_istore_n (i := 2) C dX3_pick_5 rfl (by decide) ?_
  rw [mm_set1_rf (i := 1) (r := l1) rfl]
  show WW W0 G 3 _ _ _ 6 [some (.ref l0), some (va_rf l1), some (.int v3)] [] h n _ _
  refine rr_iload_n (i := 2) C dX3_pick_6 rfl rfl ?_
  refine rr_iconst (v := (-1)) C dX3_pick_7 (by decide) ?_
  refine rr_icmp_ne (tgt := 18) C dX3_pick_8 (by decide) (fun c8_ => ?_) (fun c8_ => ?_)
  · replace hr := (if_neg c8_).symm.trans hr
    refine rr_aload_n (i := 0) C dX3_pick_18 rfl rfl ?_
    replace hr := Option.bind_eq_some_iff.mp hr
    obtain ⟨u9, e10, hr⟩ := hr
    replace hr := Option.bind_eq_some_iff.mp hr
    obtain ⟨v11, e12, hr⟩ := hr
    refine rr_callVq (as := []) (st := []) (mc' := 0) (ms' := 0) C dX3_pick_19 iv_X3_61 (by decide) e10 rfl (Nat.le_of_ble_eq_true rfl) (c_X3_step l0 (by omega) e12) (fun v_ h_ n_ q_ => ?_)
    obtain ⟨q1_, q2_, q3_⟩ := q_
    subst v_; subst h_; subst n_
    show WW W0 G 3 _ _ _ 22 [some (.ref l0), some (va_rf l1), some (.int v3)] [] v11 n _ _
    refine rr_iload_n (i := 2) C dX3_pick_22 rfl rfl ?_
    obtain rfl := Option.some.inj hr
    exact rr_iret (ty := .int) C dX3_pick_23 rfl rfl ⟨rfl, rfl, rfl⟩
  · replace hr := (if_pos c8_).symm.trans hr
    refine rr_aload_n (i := 0) C dX3_pick_11 rfl rfl ?_
    replace hr := Option.bind_eq_some_iff.mp hr
    obtain ⟨u5, e6, hr⟩ := hr
    replace hr := Option.bind_eq_some_iff.mp hr
    obtain ⟨v7, e8, hr⟩ := hr
    refine rr_callVq (as := []) (st := []) (mc' := 0) (ms' := 0) C dX3_pick_12 iv_X3_85 (by decide) e6 rfl (Nat.le_of_ble_eq_true rfl) (c_X3_fail l0 (by omega) e8) (fun v_ h_ n_ q_ => ?_)
    obtain ⟨q1_, q2_, q3_⟩ := q_
    subst v_; subst h_; subst n_
    show WW W0 G 3 _ _ _ 15 [some (.ref l0), some (va_rf l1), some (.int v3)] [] v7 n _ _
    refine rr_goto (tgt := 22) C dX3_pick_15 (by decide) ?_
    refine rr_iload_n (i := 2) C dX3_pick_22 rfl rfl ?_
    obtain rfl := Option.some.inj hr
    exact rr_iret (ty := .int) C dX3_pick_23 rfl rfl ⟨rfl, rfl, rfl⟩
def q_X3_number (K : Nat) (h : mm_H) (n : Nat) (l0 : Nat) (l1 : Int32) (l2 : Int32) : Option (Int32 × mm_H) :=
  (rdI h n l0 3 2).bind fun v1 =>
  if v1 = 2 then
    (ckq h n l0 3).bind fun u3 =>
    (q_X3_value K h n l0).bind fun v5 =>
    if v5 = (-1) then
      (ckq h n l0 3).bind fun u7 =>
      (q_X3_fail K h n l0).bind fun v9 =>
      some ((-1), v9)
    else
    if v5 < l1 then
      (ckq h n l0 3).bind fun u11 =>
      (q_X3_fail K h n l0).bind fun v13 =>
      some ((-1), v13)
    else
    if v5 ≤ l2 then
      (ckq h n l0 3).bind fun u15 =>
      (q_X3_step K h n l0).bind fun v17 =>
      some (v5, v17)
    else
    (ckq h n l0 3).bind fun u19 =>
    (q_X3_fail K h n l0).bind fun v21 =>
    some ((-1), v21)
  else
  (ckq h n l0 3).bind fun u23 =>
  (q_X3_fail K h n l0).bind fun v25 =>
  some ((-1), v25)
set_option maxRecDepth 100000 in
set_option maxHeartbeats 4000000 in
theorem c_X3_number {K : Nat} {G : mm_G} {l : Launch} {h : mm_H} {n : Nat} (l0 : Nat) (l1 : Int32) (l2 : Int32) {r_ : Int32 × mm_H} (hn : 48 ≤ n) (hr : q_X3_number K h n l0 l1 l2 = some r_) : Sp G l yX3_number cX3_number 4 (some .int) 2 0 0 [.ref l0, .int l1, .int l2] h n (fun v h' n' => v = some (.int r_.1) ∧ h' = r_.2 ∧ n' = n) := by
  refine Sp_of (by decide +kernel) (Nat.le_of_ble_eq_true rfl) hn ?_
  intro W0 hwl C
  subst hwl
  unfold q_X3_number at hr
  show WW W0 G 4 0 0 _ 0 [some (.ref l0), some (.int l1), some (.int l2), none] [] h n 0 0
  refine rr_aload_n (i := 0) C dX3_number_0 rfl rfl ?_
  replace hr := Option.bind_eq_some_iff.mp hr
  obtain ⟨v1, e2, hr⟩ := hr
  refine rr_rdI C dX3_number_1 fl_X3_74 e2 ?_
  refine rr_iconst (v := 2) C dX3_number_4 (by decide) ?_
  refine rr_icmp_ne (tgt := 15) C dX3_number_5 (by decide) (fun c5_ => ?_) (fun c5_ => ?_)
  · replace hr := (if_neg c5_).symm.trans hr
    refine rr_iconst (v := (-1)) C dX3_number_15 (by decide) ?_
    refine rr_istore_n (i := 3) C dX3_number_16 rfl (by decide) ?_
    show WW W0 G 4 _ _ _ 17 [some (.ref l0), some (.int l1), some (.int l2), some (.int (-1))] [] h n _ _
    refine rr_iload_n (i := 3) C dX3_number_17 rfl rfl ?_
    refine rr_iconst (v := (-1)) C dX3_number_18 (by decide) ?_
    refine rr_icmp_eq (tgt := 32) C dX3_number_19 (by decide) (fun _ => ?_) (fun q_ => absurd (by decide) q_)
    refine rr_aload_n (i := 0) C dX3_number_32 rfl rfl ?_
    replace hr := Option.bind_eq_some_iff.mp hr
    obtain ⟨u23, e24, hr⟩ := hr
    replace hr := Option.bind_eq_some_iff.mp hr
    obtain ⟨v25, e26, hr⟩ := hr
    refine rr_callVq (as := []) (st := []) (mc' := 0) (ms' := 0) C dX3_number_33 iv_X3_85 (by decide) e24 rfl (Nat.le_of_ble_eq_true rfl) (c_X3_fail l0 (by omega) e26) (fun v_ h_ n_ q_ => ?_)
    obtain ⟨q1_, q2_, q3_⟩ := q_
    subst v_; subst h_; subst n_
    show WW W0 G 4 _ _ _ 36 [some (.ref l0), some (.int l1), some (.int l2), some (.int (-1))] [] v25 n _ _
    refine rr_iconst (v := (-1)) C dX3_number_36 (by decide) ?_
    obtain rfl := Option.some.inj hr
    exact rr_iret (ty := .int) C dX3_number_37 rfl rfl ⟨rfl, rfl, rfl⟩
  · replace hr := (if_pos c5_).symm.trans hr
    refine rr_aload_n (i := 0) C dX3_number_8 rfl rfl ?_
    replace hr := Option.bind_eq_some_iff.mp hr
    obtain ⟨u3, e4, hr⟩ := hr
    replace hr := Option.bind_eq_some_iff.mp hr
    obtain ⟨v5, e6, hr⟩ := hr
    refine rr_callVq (as := []) (st := []) (mc' := 0) (ms' := 0) C dX3_number_9 iv_X3_108 (by decide) e4 rfl (Nat.le_of_ble_eq_true rfl) (c_X3_value l0 (by omega) e6) (fun v_ h_ n_ q_ => ?_)
    obtain ⟨q1_, q2_, q3_⟩ := q_
    subst v_; subst h_; subst n_
    show WW W0 G 4 _ _ _ 12 [some (.ref l0), some (.int l1), some (.int l2), none] [.int v5] h n _ _
    refine rr_goto (tgt := 16) C dX3_number_12 (by decide) ?_
    refine rr_istore_n (i := 3) C dX3_number_16 rfl (by decide) ?_
    show WW W0 G 4 _ _ _ 17 [some (.ref l0), some (.int l1), some (.int l2), some (.int v5)] [] h n _ _
    refine rr_iload_n (i := 3) C dX3_number_17 rfl rfl ?_
    refine rr_iconst (v := (-1)) C dX3_number_18 (by decide) ?_
    refine rr_icmp_eq (tgt := 32) C dX3_number_19 (by decide) (fun c19_ => ?_) (fun c19_ => ?_)
    · replace hr := (if_pos c19_).symm.trans hr
      refine rr_aload_n (i := 0) C dX3_number_32 rfl rfl ?_
      replace hr := Option.bind_eq_some_iff.mp hr
      obtain ⟨u7, e8, hr⟩ := hr
      replace hr := Option.bind_eq_some_iff.mp hr
      obtain ⟨v9, e10, hr⟩ := hr
      refine rr_callVq (as := []) (st := []) (mc' := 0) (ms' := 0) C dX3_number_33 iv_X3_85 (by decide) e8 rfl (Nat.le_of_ble_eq_true rfl) (c_X3_fail l0 (by omega) e10) (fun v_ h_ n_ q_ => ?_)
      obtain ⟨q1_, q2_, q3_⟩ := q_
      subst v_; subst h_; subst n_
      show WW W0 G 4 _ _ _ 36 [some (.ref l0), some (.int l1), some (.int l2), some (.int v5)] [] v9 n _ _
      refine rr_iconst (v := (-1)) C dX3_number_36 (by decide) ?_
      obtain rfl := Option.some.inj hr
      exact rr_iret (ty := .int) C dX3_number_37 rfl rfl ⟨rfl, rfl, rfl⟩
    · replace hr := (if_neg c19_).symm.trans hr
      refine rr_iload_n (i := 3) C dX3_number_22 rfl rfl ?_
      refine rr_iload_n (i := 1) C dX3_number_23 rfl rfl ?_
      refine rr_icmp_lt (tgt := 32) C dX3_number_24 (by decide) (fun c24_ => ?_) (fun c24_ => ?_)
      · replace hr := (if_pos c24_).symm.trans hr
        refine rr_aload_n (i := 0) C dX3_number_32 rfl rfl ?_
        replace hr := Option.bind_eq_some_iff.mp hr
        obtain ⟨u11, e12, hr⟩ := hr
        replace hr := Option.bind_eq_some_iff.mp hr
        obtain ⟨v13, e14, hr⟩ := hr
        refine rr_callVq (as := []) (st := []) (mc' := 0) (ms' := 0) C dX3_number_33 iv_X3_85 (by decide) e12 rfl (Nat.le_of_ble_eq_true rfl) (c_X3_fail l0 (by omega) e14) (fun v_ h_ n_ q_ => ?_)
        obtain ⟨q1_, q2_, q3_⟩ := q_
        subst v_; subst h_; subst n_
        show WW W0 G 4 _ _ _ 36 [some (.ref l0), some (.int l1), some (.int l2), some (.int v5)] [] v13 n _ _
        refine rr_iconst (v := (-1)) C dX3_number_36 (by decide) ?_
        obtain rfl := Option.some.inj hr
        exact rr_iret (ty := .int) C dX3_number_37 rfl rfl ⟨rfl, rfl, rfl⟩
      · replace hr := (if_neg c24_).symm.trans hr
        refine rr_iload_n (i := 3) C dX3_number_27 rfl rfl ?_
        refine rr_iload_n (i := 2) C dX3_number_28 rfl rfl ?_
        refine rr_icmp_le (tgt := 38) C dX3_number_29 (by decide) (fun c29_ => ?_) (fun c29_ => ?_)
        · replace hr := (if_pos c29_).symm.trans hr
          refine rr_aload_n (i := 0) C dX3_number_38 rfl rfl ?_
          replace hr := Option.bind_eq_some_iff.mp hr
          obtain ⟨u15, e16, hr⟩ := hr
          replace hr := Option.bind_eq_some_iff.mp hr
          obtain ⟨v17, e18, hr⟩ := hr
          refine rr_callVq (as := []) (st := []) (mc' := 0) (ms' := 0) C dX3_number_39 iv_X3_61 (by decide) e16 rfl (Nat.le_of_ble_eq_true rfl) (c_X3_step l0 (by omega) e18) (fun v_ h_ n_ q_ => ?_)
          obtain ⟨q1_, q2_, q3_⟩ := q_
          subst v_; subst h_; subst n_
          show WW W0 G 4 _ _ _ 42 [some (.ref l0), some (.int l1), some (.int l2), some (.int v5)] [] v17 n _ _
          refine rr_iload_n (i := 3) C dX3_number_42 rfl rfl ?_
          obtain rfl := Option.some.inj hr
          exact rr_iret (ty := .int) C dX3_number_43 rfl rfl ⟨rfl, rfl, rfl⟩
        · replace hr := (if_neg c29_).symm.trans hr
          refine rr_aload_n (i := 0) C dX3_number_32 rfl rfl ?_
          replace hr := Option.bind_eq_some_iff.mp hr
          obtain ⟨u19, e20, hr⟩ := hr
          replace hr := Option.bind_eq_some_iff.mp hr
          obtain ⟨v21, e22, hr⟩ := hr
          refine rr_callVq (as := []) (st := []) (mc' := 0) (ms' := 0) C dX3_number_33 iv_X3_85 (by decide) e20 rfl (Nat.le_of_ble_eq_true rfl) (c_X3_fail l0 (by omega) e22) (fun v_ h_ n_ q_ => ?_)
          obtain ⟨q1_, q2_, q3_⟩ := q_
          subst v_; subst h_; subst n_
          show WW W0 G 4 _ _ _ 36 [some (.ref l0), some (.int l1), some (.int l2), some (.int v5)] [] v21 n _ _
          refine rr_iconst (v := (-1)) C dX3_number_36 (by decide) ?_
          obtain rfl := Option.some.inj hr
          exact rr_iret (ty := .int) C dX3_number_37 rfl rfl ⟨rfl, rfl, rfl⟩
def q_X3_allow (K : Nat) (h : mm_H) (n : Nat) (l0 : Nat) (l1 : Option Nat) : Option (mm_H) :=
  (ckq h n l0 3).bind fun u1 =>
  (q_X3_pick K h n l0 (some 6)).bind fun v3 =>
  l1.bind fun a5 =>
  (wrF v3.2 n a5 5 1 (.int v3.1)).bind fun h7 =>
  (ckq h7 n l0 3).bind fun u9 =>
  (q_X3_pick K h7 n l0 (some 8)).bind fun v11 =>
  (wrF v11.2 n a5 5 2 (.int v11.1)).bind fun h13 =>
  (rdI h13 n a5 5 2).bind fun v15 =>
  if v15 = 3 then
    (ckq h13 n l0 3).bind fun u17 =>
    (q_X3_number K h13 n l0 0 200).bind fun v19 =>
    (wrF v19.2 n a5 5 4 (.int v19.1)).bind fun h21 =>
    some h21
  else
  (ckq h13 n l0 3).bind fun u23 =>
  (q_X3_number K h13 n l0 0 2).bind fun v25 =>
  (wrF v25.2 n a5 5 3 (.int v25.1)).bind fun h27 =>
  (ckq h27 n l0 3).bind fun u29 =>
  (q_X3_number K h27 n l0 0 200).bind fun v31 =>
  (wrF v31.2 n a5 5 4 (.int v31.1)).bind fun h33 =>
  some h33
set_option maxRecDepth 100000 in
set_option maxHeartbeats 4000000 in
theorem c_X3_allow {K : Nat} {G : mm_G} {l : Launch} {h : mm_H} {n : Nat} (l0 : Nat) (l1 : Option Nat) {r_ : mm_H} (hn : 48 ≤ n) (hr : q_X3_allow K h n l0 l1 = some r_) : Sp G l yX3_allow cX3_allow 2 none 6 0 0 [.ref l0, va_rf l1] h n (fun v h' n' => v = none ∧ h' = r_ ∧ n' = n) := by
  refine Sp_of (by decide +kernel) (by rcases l1 with _ | _ <;> exact Nat.le_of_ble_eq_true rfl) hn ?_
  intro W0 hwl C
  subst hwl
  unfold q_X3_allow at hr
  rw [show mm_en 2 [.ref l0, va_rf l1] = [some (.ref l0), some (va_rf l1)] from by rcases l1 with _ | _ <;> rfl]
  show WW W0 G 2 0 0 _ 0 [some (.ref l0), some (va_rf l1)] [] h n 0 0
  refine rr_aload_nO (i := 1) C dX3_allow_0 rfl rfl ?_
  refine rr_aload_n (i := 0) C dX3_allow_1 rfl rfl ?_
  refine rr_ldcS (i := 3) C dX3_allow_2 (by decide) rfl ?_
  replace hr := Option.bind_eq_some_iff.mp hr
  obtain ⟨u1, e2, hr⟩ := hr
  replace hr := Option.bind_eq_some_iff.mp hr
  obtain ⟨v3, e4, hr⟩ := hr
  refine rr_callVq (as := [.ref 6]) (st := [va_rf l1]) (mc' := 0) (ms' := 0) C dX3_allow_4 iv_X3_114 (by decide) e2 rfl (by rcases l1 with _ | _ <;> exact Nat.le_of_ble_eq_true rfl) (c_X3_pick l0 (some 6) (by omega) e4) (fun v_ h_ n_ q_ => ?_)
  obtain ⟨q1_, q2_, q3_⟩ := q_
  subst v_; subst h_; subst n_
  show WW W0 G 2 _ _ _ 7 [some (.ref l0), some (va_rf l1)] [.int v3.1, va_rf l1] v3.2 n _ _
  replace hr := Option.bind_eq_some_iff.mp hr
  obtain ⟨a5, e6, hr⟩ := hr
  subst e6
  replace hr := Option.bind_eq_some_iff.mp hr
  obtain ⟨h7, e8, hr⟩ := hr
  refine rr_wrF C dX3_allow_7 fp_X3_127 rfl rfl e8 ?_
  refine rr_aload_n (i := 1) C dX3_allow_10 rfl rfl ?_
  refine rr_aload_n (i := 0) C dX3_allow_11 rfl rfl ?_
  refine rr_ldcS (i := 5) C dX3_allow_12 (by decide) rfl ?_
  replace hr := Option.bind_eq_some_iff.mp hr
  obtain ⟨u9, e10, hr⟩ := hr
  replace hr := Option.bind_eq_some_iff.mp hr
  obtain ⟨v11, e12, hr⟩ := hr
  refine rr_callVq (as := [.ref 8]) (st := [.ref a5]) (mc' := 0) (ms' := 0) C dX3_allow_14 iv_X3_114 (by decide) e10 rfl (Nat.le_of_ble_eq_true rfl) (c_X3_pick l0 (some 8) (by omega) e12) (fun v_ h_ n_ q_ => ?_)
  obtain ⟨q1_, q2_, q3_⟩ := q_
  subst v_; subst h_; subst n_
  show WW W0 G 2 _ _ _ 17 [some (.ref l0), some (.ref a5)] [.int v11.1, .ref a5] v11.2 n _ _
  replace hr := Option.bind_eq_some_iff.mp hr
  obtain ⟨h13, e14, hr⟩ := hr
  refine rr_wrF C dX3_allow_17 fp_X3_154 rfl rfl e14 ?_
  refine rr_aload_n (i := 1) C dX3_allow_20 rfl rfl ?_
  replace hr := Option.bind_eq_some_iff.mp hr
  obtain ⟨v15, e16, hr⟩ := hr
  refine rr_rdI C dX3_allow_21 fl_X3_154 e16 ?_
  refine rr_iconst (v := 3) C dX3_allow_24 (by decide) ?_
  refine rr_icmp_eq (tgt := 38) C dX3_allow_25 (by decide) (fun c25_ => ?_) (fun c25_ => ?_)
  · replace hr := (if_pos c25_).symm.trans hr
    refine rr_aload_n (i := 1) C dX3_allow_38 rfl rfl ?_
    refine rr_aload_n (i := 0) C dX3_allow_39 rfl rfl ?_
    refine rr_iconst (v := 0) C dX3_allow_40 (by decide) ?_
    refine rr_sipush (v := 200) C dX3_allow_41 (by decide) ?_
    replace hr := Option.bind_eq_some_iff.mp hr
    obtain ⟨u17, e18, hr⟩ := hr
    replace hr := Option.bind_eq_some_iff.mp hr
    obtain ⟨v19, e20, hr⟩ := hr
    refine rr_callVq (as := [.int 0, .int 200]) (st := [.ref a5]) (mc' := 0) (ms' := 0) C dX3_allow_44 iv_X3_130 (by decide) e18 rfl (Nat.le_of_ble_eq_true rfl) (c_X3_number l0 0 200 (by omega) e20) (fun v_ h_ n_ q_ => ?_)
    obtain ⟨q1_, q2_, q3_⟩ := q_
    subst v_; subst h_; subst n_
    show WW W0 G 2 _ _ _ 47 [some (.ref l0), some (.ref a5)] [.int v19.1, .ref a5] v19.2 n _ _
    replace hr := Option.bind_eq_some_iff.mp hr
    obtain ⟨h21, e22, hr⟩ := hr
    refine rr_wrF C dX3_allow_47 fp_X3_133 rfl rfl e22 ?_
    obtain rfl := Option.some.inj hr
    exact rr_vret C dX3_allow_50 rfl ⟨rfl, rfl, rfl⟩
  · replace hr := (if_neg c25_).symm.trans hr
    refine rr_aload_n (i := 1) C dX3_allow_28 rfl rfl ?_
    refine rr_aload_n (i := 0) C dX3_allow_29 rfl rfl ?_
    refine rr_iconst (v := 0) C dX3_allow_30 (by decide) ?_
    refine rr_iconst (v := 2) C dX3_allow_31 (by decide) ?_
    replace hr := Option.bind_eq_some_iff.mp hr
    obtain ⟨u23, e24, hr⟩ := hr
    replace hr := Option.bind_eq_some_iff.mp hr
    obtain ⟨v25, e26, hr⟩ := hr
    refine rr_callVq (as := [.int 0, .int 2]) (st := [.ref a5]) (mc' := 0) (ms' := 0) C dX3_allow_32 iv_X3_130 (by decide) e24 rfl (Nat.le_of_ble_eq_true rfl) (c_X3_number l0 0 2 (by omega) e26) (fun v_ h_ n_ q_ => ?_)
    obtain ⟨q1_, q2_, q3_⟩ := q_
    subst v_; subst h_; subst n_
    show WW W0 G 2 _ _ _ 35 [some (.ref l0), some (.ref a5)] [.int v25.1, .ref a5] v25.2 n _ _
    replace hr := Option.bind_eq_some_iff.mp hr
    obtain ⟨h27, e28, hr⟩ := hr
    refine rr_wrF C dX3_allow_35 fp_X3_157 rfl rfl e28 ?_
    refine rr_aload_n (i := 1) C dX3_allow_38 rfl rfl ?_
    refine rr_aload_n (i := 0) C dX3_allow_39 rfl rfl ?_
    refine rr_iconst (v := 0) C dX3_allow_40 (by decide) ?_
    refine rr_sipush (v := 200) C dX3_allow_41 (by decide) ?_
    replace hr := Option.bind_eq_some_iff.mp hr
    obtain ⟨u29, e30, hr⟩ := hr
    replace hr := Option.bind_eq_some_iff.mp hr
    obtain ⟨v31, e32, hr⟩ := hr
    refine rr_callVq (as := [.int 0, .int 200]) (st := [.ref a5]) (mc' := 0) (ms' := 0) C dX3_allow_44 iv_X3_130 (by decide) e30 rfl (Nat.le_of_ble_eq_true rfl) (c_X3_number l0 0 200 (by omega) e32) (fun v_ h_ n_ q_ => ?_)
    obtain ⟨q1_, q2_, q3_⟩ := q_
    subst v_; subst h_; subst n_
    show WW W0 G 2 _ _ _ 47 [some (.ref l0), some (.ref a5)] [.int v31.1, .ref a5] v31.2 n _ _
    replace hr := Option.bind_eq_some_iff.mp hr
    obtain ⟨h33, e34, hr⟩ := hr
    refine rr_wrF C dX3_allow_47 fp_X3_133 rfl rfl e34 ?_
    obtain rfl := Option.some.inj hr
    exact rr_vret C dX3_allow_50 rfl ⟨rfl, rfl, rfl⟩
def q_X3_target (K : Nat) (h : mm_H) (n : Nat) (l0 : Nat) (l1 : Option Nat) : Option (mm_H) :=
  (ckq h n l0 3).bind fun u1 =>
  (q_X3_number K h n l0 0 2).bind fun v3 =>
  l1.bind fun a5 =>
  (wrF v3.2 n a5 5 1 (.int v3.1)).bind fun h7 =>
  (ckq h7 n l0 3).bind fun u9 =>
  (q_X3_pick K h7 n l0 (some 9)).bind fun v11 =>
  (wrF v11.2 n a5 5 2 (.int v11.1)).bind fun h13 =>
  (ckq h13 n l0 3).bind fun u15 =>
  (q_X3_number K h13 n l0 0 99999).bind fun v17 =>
  (wrF v17.2 n a5 5 4 (.int v17.1)).bind fun h19 =>
  (ckq h19 n l0 3).bind fun u21 =>
  (q_X3_pick K h19 n l0 (some 10)).bind fun v23 =>
  (ckq v23.2 n l0 3).bind fun u25 =>
  (q_X3_number K v23.2 n l0 1 99999).bind fun v27 =>
  (wrF v27.2 n a5 5 6 (.int v27.1)).bind fun h29 =>
  (ckq h29 n l0 3).bind fun u31 =>
  (q_X3_pick K h29 n l0 (some 11)).bind fun v33 =>
  (ckq v33.2 n l0 3).bind fun u35 =>
  (q_X3_number K v33.2 n l0 0 99999).bind fun v37 =>
  (wrF v37.2 n a5 5 7 (.int v37.1)).bind fun h39 =>
  (ckq h39 n l0 3).bind fun u41 =>
  (q_X3_pick K h39 n l0 (some 12)).bind fun v43 =>
  (ckq v43.2 n l0 3).bind fun u45 =>
  (q_X3_number K v43.2 n l0 0 99999).bind fun v47 =>
  (wrF v47.2 n a5 5 8 (.int v47.1)).bind fun h49 =>
  (ckq h49 n l0 3).bind fun u51 =>
  (q_X3_pick K h49 n l0 (some 13)).bind fun v53 =>
  (ckq v53.2 n l0 3).bind fun u55 =>
  (q_X3_number K v53.2 n l0 0 99999).bind fun v57 =>
  (wrF v57.2 n a5 5 9 (.int v57.1)).bind fun h59 =>
  some h59
set_option maxRecDepth 100000 in
set_option maxHeartbeats 4000000 in
theorem c_X3_target {K : Nat} {G : mm_G} {l : Launch} {h : mm_H} {n : Nat} (l0 : Nat) (l1 : Option Nat) {r_ : mm_H} (hn : 48 ≤ n) (hr : q_X3_target K h n l0 l1 = some r_) : Sp G l yX3_target cX3_target 2 none 6 0 0 [.ref l0, va_rf l1] h n (fun v h' n' => v = none ∧ h' = r_ ∧ n' = n) := by
  refine Sp_of (by decide +kernel) (by rcases l1 with _ | _ <;> exact Nat.le_of_ble_eq_true rfl) hn ?_
  intro W0 hwl C
  subst hwl
  unfold q_X3_target at hr
  rw [show mm_en 2 [.ref l0, va_rf l1] = [some (.ref l0), some (va_rf l1)] from by rcases l1 with _ | _ <;> rfl]
  show WW W0 G 2 0 0 _ 0 [some (.ref l0), some (va_rf l1)] [] h n 0 0
  refine rr_aload_nO (i := 1) C dX3_target_0 rfl rfl ?_
  refine rr_aload_n (i := 0) C dX3_target_1 rfl rfl ?_
  refine rr_iconst (v := 0) C dX3_target_2 (by decide) ?_
  refine rr_iconst (v := 2) C dX3_target_3 (by decide) ?_
  replace hr := Option.bind_eq_some_iff.mp hr
  obtain ⟨u1, e2, hr⟩ := hr
  replace hr := Option.bind_eq_some_iff.mp hr
  obtain ⟨v3, e4, hr⟩ := hr
  refine rr_callVq (as := [.int 0, .int 2]) (st := [va_rf l1]) (mc' := 0) (ms' := 0) C dX3_target_4 iv_X3_130 (by decide) e2 rfl (by rcases l1 with _ | _ <;> exact Nat.le_of_ble_eq_true rfl) (c_X3_number l0 0 2 (by omega) e4) (fun v_ h_ n_ q_ => ?_)
  obtain ⟨q1_, q2_, q3_⟩ := q_
  subst v_; subst h_; subst n_
  show WW W0 G 2 _ _ _ 7 [some (.ref l0), some (va_rf l1)] [.int v3.1, va_rf l1] v3.2 n _ _
  replace hr := Option.bind_eq_some_iff.mp hr
  obtain ⟨a5, e6, hr⟩ := hr
  subst e6
  replace hr := Option.bind_eq_some_iff.mp hr
  obtain ⟨h7, e8, hr⟩ := hr
  refine rr_wrF C dX3_target_7 fp_X3_127 rfl rfl e8 ?_
  refine rr_aload_n (i := 1) C dX3_target_10 rfl rfl ?_
  refine rr_aload_n (i := 0) C dX3_target_11 rfl rfl ?_
  refine rr_ldcS (i := 6) C dX3_target_12 (by decide) rfl ?_
  replace hr := Option.bind_eq_some_iff.mp hr
  obtain ⟨u9, e10, hr⟩ := hr
  replace hr := Option.bind_eq_some_iff.mp hr
  obtain ⟨v11, e12, hr⟩ := hr
  refine rr_callVq (as := [.ref 9]) (st := [.ref a5]) (mc' := 0) (ms' := 0) C dX3_target_14 iv_X3_114 (by decide) e10 rfl (Nat.le_of_ble_eq_true rfl) (c_X3_pick l0 (some 9) (by omega) e12) (fun v_ h_ n_ q_ => ?_)
  obtain ⟨q1_, q2_, q3_⟩ := q_
  subst v_; subst h_; subst n_
  show WW W0 G 2 _ _ _ 17 [some (.ref l0), some (.ref a5)] [.int v11.1, .ref a5] v11.2 n _ _
  replace hr := Option.bind_eq_some_iff.mp hr
  obtain ⟨h13, e14, hr⟩ := hr
  refine rr_wrF C dX3_target_17 fp_X3_154 rfl rfl e14 ?_
  refine rr_aload_n (i := 1) C dX3_target_20 rfl rfl ?_
  refine rr_aload_n (i := 0) C dX3_target_21 rfl rfl ?_
  refine rr_iconst (v := 0) C dX3_target_22 (by decide) ?_
  refine rr_ldc C dX3_target_23 ct_X3_162 ?_
  replace hr := Option.bind_eq_some_iff.mp hr
  obtain ⟨u15, e16, hr⟩ := hr
  replace hr := Option.bind_eq_some_iff.mp hr
  obtain ⟨v17, e18, hr⟩ := hr
  refine rr_callVq (as := [.int 0, .int 99999]) (st := [.ref a5]) (mc' := 0) (ms' := 0) C dX3_target_25 iv_X3_130 (by decide) e16 rfl (Nat.le_of_ble_eq_true rfl) (c_X3_number l0 0 99999 (by omega) e18) (fun v_ h_ n_ q_ => ?_)
  obtain ⟨q1_, q2_, q3_⟩ := q_
  subst v_; subst h_; subst n_
  show WW W0 G 2 _ _ _ 28 [some (.ref l0), some (.ref a5)] [.int v17.1, .ref a5] v17.2 n _ _
  replace hr := Option.bind_eq_some_iff.mp hr
  obtain ⟨h19, e20, hr⟩ := hr
  refine rr_wrF C dX3_target_28 fp_X3_133 rfl rfl e20 ?_
  refine rr_aload_n (i := 0) C dX3_target_31 rfl rfl ?_
  refine rr_ldcS (i := 7) C dX3_target_32 (by decide) rfl ?_
  replace hr := Option.bind_eq_some_iff.mp hr
  obtain ⟨u21, e22, hr⟩ := hr
  replace hr := Option.bind_eq_some_iff.mp hr
  obtain ⟨v23, e24, hr⟩ := hr
  refine rr_callVq (as := [.ref 10]) (st := []) (mc' := 0) (ms' := 0) C dX3_target_34 iv_X3_114 (by decide) e22 rfl (Nat.le_of_ble_eq_true rfl) (c_X3_pick l0 (some 10) (by omega) e24) (fun v_ h_ n_ q_ => ?_)
  obtain ⟨q1_, q2_, q3_⟩ := q_
  subst v_; subst h_; subst n_
  show WW W0 G 2 _ _ _ 37 [some (.ref l0), some (.ref a5)] [.int v23.1] v23.2 n _ _
  refine rr_pop C dX3_target_37 rfl ?_
  refine rr_aload_n (i := 1) C dX3_target_38 rfl rfl ?_
  refine rr_aload_n (i := 0) C dX3_target_39 rfl rfl ?_
  refine rr_iconst (v := 1) C dX3_target_40 (by decide) ?_
  refine rr_ldc C dX3_target_41 ct_X3_162 ?_
  replace hr := Option.bind_eq_some_iff.mp hr
  obtain ⟨u25, e26, hr⟩ := hr
  replace hr := Option.bind_eq_some_iff.mp hr
  obtain ⟨v27, e28, hr⟩ := hr
  refine rr_callVq (as := [.int 1, .int 99999]) (st := [.ref a5]) (mc' := 0) (ms' := 0) C dX3_target_43 iv_X3_130 (by decide) e26 rfl (Nat.le_of_ble_eq_true rfl) (c_X3_number l0 1 99999 (by omega) e28) (fun v_ h_ n_ q_ => ?_)
  obtain ⟨q1_, q2_, q3_⟩ := q_
  subst v_; subst h_; subst n_
  show WW W0 G 2 _ _ _ 46 [some (.ref l0), some (.ref a5)] [.int v27.1, .ref a5] v27.2 n _ _
  replace hr := Option.bind_eq_some_iff.mp hr
  obtain ⟨h29, e30, hr⟩ := hr
  refine rr_wrF C dX3_target_46 fp_X3_164 rfl rfl e30 ?_
  refine rr_aload_n (i := 0) C dX3_target_49 rfl rfl ?_
  refine rr_ldcS (i := 8) C dX3_target_50 (by decide) rfl ?_
  replace hr := Option.bind_eq_some_iff.mp hr
  obtain ⟨u31, e32, hr⟩ := hr
  replace hr := Option.bind_eq_some_iff.mp hr
  obtain ⟨v33, e34, hr⟩ := hr
  refine rr_callVq (as := [.ref 11]) (st := []) (mc' := 0) (ms' := 0) C dX3_target_52 iv_X3_114 (by decide) e32 rfl (Nat.le_of_ble_eq_true rfl) (c_X3_pick l0 (some 11) (by omega) e34) (fun v_ h_ n_ q_ => ?_)
  obtain ⟨q1_, q2_, q3_⟩ := q_
  subst v_; subst h_; subst n_
  show WW W0 G 2 _ _ _ 55 [some (.ref l0), some (.ref a5)] [.int v33.1] v33.2 n _ _
  refine rr_pop C dX3_target_55 rfl ?_
  refine rr_aload_n (i := 1) C dX3_target_56 rfl rfl ?_
  refine rr_aload_n (i := 0) C dX3_target_57 rfl rfl ?_
  refine rr_iconst (v := 0) C dX3_target_58 (by decide) ?_
  refine rr_ldc C dX3_target_59 ct_X3_162 ?_
  replace hr := Option.bind_eq_some_iff.mp hr
  obtain ⟨u35, e36, hr⟩ := hr
  replace hr := Option.bind_eq_some_iff.mp hr
  obtain ⟨v37, e38, hr⟩ := hr
  refine rr_callVq (as := [.int 0, .int 99999]) (st := [.ref a5]) (mc' := 0) (ms' := 0) C dX3_target_61 iv_X3_130 (by decide) e36 rfl (Nat.le_of_ble_eq_true rfl) (c_X3_number l0 0 99999 (by omega) e38) (fun v_ h_ n_ q_ => ?_)
  obtain ⟨q1_, q2_, q3_⟩ := q_
  subst v_; subst h_; subst n_
  show WW W0 G 2 _ _ _ 64 [some (.ref l0), some (.ref a5)] [.int v37.1, .ref a5] v37.2 n _ _
  replace hr := Option.bind_eq_some_iff.mp hr
  obtain ⟨h39, e40, hr⟩ := hr
  refine rr_wrF C dX3_target_64 fp_X3_168 rfl rfl e40 ?_
  refine rr_aload_n (i := 0) C dX3_target_67 rfl rfl ?_
  refine rr_ldcS (i := 9) C dX3_target_68 (by decide) rfl ?_
  replace hr := Option.bind_eq_some_iff.mp hr
  obtain ⟨u41, e42, hr⟩ := hr
  replace hr := Option.bind_eq_some_iff.mp hr
  obtain ⟨v43, e44, hr⟩ := hr
  refine rr_callVq (as := [.ref 12]) (st := []) (mc' := 0) (ms' := 0) C dX3_target_70 iv_X3_114 (by decide) e42 rfl (Nat.le_of_ble_eq_true rfl) (c_X3_pick l0 (some 12) (by omega) e44) (fun v_ h_ n_ q_ => ?_)
  obtain ⟨q1_, q2_, q3_⟩ := q_
  subst v_; subst h_; subst n_
  show WW W0 G 2 _ _ _ 73 [some (.ref l0), some (.ref a5)] [.int v43.1] v43.2 n _ _
  refine rr_pop C dX3_target_73 rfl ?_
  refine rr_aload_n (i := 1) C dX3_target_74 rfl rfl ?_
  refine rr_aload_n (i := 0) C dX3_target_75 rfl rfl ?_
  refine rr_iconst (v := 0) C dX3_target_76 (by decide) ?_
  refine rr_ldc C dX3_target_77 ct_X3_162 ?_
  replace hr := Option.bind_eq_some_iff.mp hr
  obtain ⟨u45, e46, hr⟩ := hr
  replace hr := Option.bind_eq_some_iff.mp hr
  obtain ⟨v47, e48, hr⟩ := hr
  refine rr_callVq (as := [.int 0, .int 99999]) (st := [.ref a5]) (mc' := 0) (ms' := 0) C dX3_target_79 iv_X3_130 (by decide) e46 rfl (Nat.le_of_ble_eq_true rfl) (c_X3_number l0 0 99999 (by omega) e48) (fun v_ h_ n_ q_ => ?_)
  obtain ⟨q1_, q2_, q3_⟩ := q_
  subst v_; subst h_; subst n_
  show WW W0 G 2 _ _ _ 82 [some (.ref l0), some (.ref a5)] [.int v47.1, .ref a5] v47.2 n _ _
  replace hr := Option.bind_eq_some_iff.mp hr
  obtain ⟨h49, e50, hr⟩ := hr
  refine rr_wrF C dX3_target_82 fp_X3_172 rfl rfl e50 ?_
  refine rr_aload_n (i := 0) C dX3_target_85 rfl rfl ?_
  refine rr_ldcS (i := 10) C dX3_target_86 (by decide) rfl ?_
  replace hr := Option.bind_eq_some_iff.mp hr
  obtain ⟨u51, e52, hr⟩ := hr
  replace hr := Option.bind_eq_some_iff.mp hr
  obtain ⟨v53, e54, hr⟩ := hr
  refine rr_callVq (as := [.ref 13]) (st := []) (mc' := 0) (ms' := 0) C dX3_target_88 iv_X3_114 (by decide) e52 rfl (Nat.le_of_ble_eq_true rfl) (c_X3_pick l0 (some 13) (by omega) e54) (fun v_ h_ n_ q_ => ?_)
  obtain ⟨q1_, q2_, q3_⟩ := q_
  subst v_; subst h_; subst n_
  show WW W0 G 2 _ _ _ 91 [some (.ref l0), some (.ref a5)] [.int v53.1] v53.2 n _ _
  refine rr_pop C dX3_target_91 rfl ?_
  refine rr_aload_n (i := 1) C dX3_target_92 rfl rfl ?_
  refine rr_aload_n (i := 0) C dX3_target_93 rfl rfl ?_
  refine rr_iconst (v := 0) C dX3_target_94 (by decide) ?_
  refine rr_ldc C dX3_target_95 ct_X3_162 ?_
  replace hr := Option.bind_eq_some_iff.mp hr
  obtain ⟨u55, e56, hr⟩ := hr
  replace hr := Option.bind_eq_some_iff.mp hr
  obtain ⟨v57, e58, hr⟩ := hr
  refine rr_callVq (as := [.int 0, .int 99999]) (st := [.ref a5]) (mc' := 0) (ms' := 0) C dX3_target_97 iv_X3_130 (by decide) e56 rfl (Nat.le_of_ble_eq_true rfl) (c_X3_number l0 0 99999 (by omega) e58) (fun v_ h_ n_ q_ => ?_)
  obtain ⟨q1_, q2_, q3_⟩ := q_
  subst v_; subst h_; subst n_
  show WW W0 G 2 _ _ _ 100 [some (.ref l0), some (.ref a5)] [.int v57.1, .ref a5] v57.2 n _ _
  replace hr := Option.bind_eq_some_iff.mp hr
  obtain ⟨h59, e60, hr⟩ := hr
  refine rr_wrF C dX3_target_100 fp_X3_176 rfl rfl e60 ?_
  obtain rfl := Option.some.inj hr
  exact rr_vret C dX3_target_103 rfl ⟨rfl, rfl, rfl⟩
def q_X3_write (K : Nat) (h : mm_H) (n : Nat) (l0 : Nat) (l1 : Int32) : Option (mm_H) :=
  (rdI h n l0 3 11).bind fun v1 =>
  (rdR h n l0 3 10).bind fun v3 =>
  v3.bind fun a5 =>
  (lenA h n a5 0).bind fun v7 =>
  if v7 ≤ v1 then
    some h
  else
  (rdR h n l0 3 10).bind fun v9 =>
  (rdI h n l0 3 11).bind fun v11 =>
  v9.bind fun a13 =>
  (stI h n a13 v11 l1).bind fun h15 =>
  (rdI h15 n l0 3 11).bind fun v17 =>
  (wrF h15 n l0 3 11 (.int (v17 + 1))).bind fun h19 =>
  some h19
set_option maxRecDepth 100000 in
set_option maxHeartbeats 4000000 in
theorem c_X3_write {K : Nat} {G : mm_G} {l : Launch} {h : mm_H} {n : Nat} (l0 : Nat) (l1 : Int32) {r_ : mm_H} (hn : 48 ≤ n) (hr : q_X3_write K h n l0 l1 = some r_) : Sp G l yX3_write cX3_write 2 none 0 0 0 [.ref l0, .int l1] h n (fun v h' n' => v = none ∧ h' = r_ ∧ n' = n) := by
  refine Sp_of (by decide +kernel) (Nat.le_of_ble_eq_true rfl) hn ?_
  intro W0 hwl C
  subst hwl
  unfold q_X3_write at hr
  show WW W0 G 2 0 0 _ 0 [some (.ref l0), some (.int l1)] [] h n 0 0
  refine rr_aload_n (i := 0) C dX3_write_0 rfl rfl ?_
  replace hr := Option.bind_eq_some_iff.mp hr
  obtain ⟨v1, e2, hr⟩ := hr
  refine rr_rdI C dX3_write_1 fl_X3_119 e2 ?_
  refine rr_aload_n (i := 0) C dX3_write_4 rfl rfl ?_
  replace hr := Option.bind_eq_some_iff.mp hr
  obtain ⟨v3, e4, hr⟩ := hr
  refine rr_rdR C dX3_write_5 fl_X3_31 e4 ?_
  replace hr := Option.bind_eq_some_iff.mp hr
  obtain ⟨a5, e6, hr⟩ := hr
  subst e6
  replace hr := Option.bind_eq_some_iff.mp hr
  obtain ⟨v7, e8, hr⟩ := hr
  refine rr_lenA C dX3_write_8 e8 ?_
  refine rr_icmp_ge (tgt := 32) C dX3_write_9 (by decide) (fun c9_ => ?_) (fun c9_ => ?_)
  · replace hr := (if_pos c9_).symm.trans hr
    obtain rfl := Option.some.inj hr
    exact rr_vret C dX3_write_32 rfl ⟨rfl, rfl, rfl⟩
  · replace hr := (if_neg c9_).symm.trans hr
    refine rr_aload_n (i := 0) C dX3_write_12 rfl rfl ?_
    replace hr := Option.bind_eq_some_iff.mp hr
    obtain ⟨v9, e10, hr⟩ := hr
    refine rr_rdR C dX3_write_13 fl_X3_31 e10 ?_
    refine rr_aload_n (i := 0) C dX3_write_16 rfl rfl ?_
    replace hr := Option.bind_eq_some_iff.mp hr
    obtain ⟨v11, e12, hr⟩ := hr
    refine rr_rdI C dX3_write_17 fl_X3_119 e12 ?_
    refine rr_iload_n (i := 1) C dX3_write_20 rfl rfl ?_
    replace hr := Option.bind_eq_some_iff.mp hr
    obtain ⟨a13, e14, hr⟩ := hr
    subst e14
    replace hr := Option.bind_eq_some_iff.mp hr
    obtain ⟨h15, e16, hr⟩ := hr
    refine rr_stI C dX3_write_21 e16 ?_
    refine rr_aload_n (i := 0) C dX3_write_22 rfl rfl ?_
    refine rr_dup C dX3_write_23 rfl ?_
    replace hr := Option.bind_eq_some_iff.mp hr
    obtain ⟨v17, e18, hr⟩ := hr
    refine rr_rdI C dX3_write_24 fl_X3_119 e18 ?_
    refine rr_iconst (v := 1) C dX3_write_27 (by decide) ?_
    refine rr_iadd C dX3_write_28 ?_
    replace hr := Option.bind_eq_some_iff.mp hr
    obtain ⟨h19, e20, hr⟩ := hr
    refine rr_wrF C dX3_write_29 fp_X3_119 rfl rfl e20 ?_
    obtain rfl := Option.some.inj hr
    exact rr_vret C dX3_write_32 rfl ⟨rfl, rfl, rfl⟩
def q_X5_comparison (K : Nat) (h : mm_H) (n : Nat) (l0 : Int32) (l1 : Int32) (l2 : Int32) : Option (Int32) :=
  some ((((l2 * 5) + l0) * 3) + l1)
set_option maxRecDepth 100000 in
set_option maxHeartbeats 4000000 in
theorem c_X5_comparison {K : Nat} {G : mm_G} {l : Launch} {h : mm_H} {n : Nat} (l0 : Int32) (l1 : Int32) (l2 : Int32) {r_ : Int32} (hn : 48 ≤ n) (hr : q_X5_comparison K h n l0 l1 l2 = some r_) : Sp G l yX5_comparison cX5_comparison 3 (some .int) 0 0 0 [.int l0, .int l1, .int l2] h n (fun v h' n' => v = some (.int r_) ∧ h' = h ∧ n' = n) := by
  refine Sp_of (by decide +kernel) (Nat.le_of_ble_eq_true rfl) hn ?_
  intro W0 hwl C
  subst hwl
  unfold q_X5_comparison at hr
  show WW W0 G 3 0 0 _ 0 [some (.int l0), some (.int l1), some (.int l2)] [] h n 0 0
  refine rr_iload_n (i := 2) C dX5_comparison_0 rfl rfl ?_
  refine rr_iconst (v := 5) C dX5_comparison_1 (by decide) ?_
  refine rr_imul C dX5_comparison_2 ?_
  refine rr_iload_n (i := 0) C dX5_comparison_3 rfl rfl ?_
  refine rr_iadd C dX5_comparison_4 ?_
  refine rr_iconst (v := 3) C dX5_comparison_5 (by decide) ?_
  refine rr_imul C dX5_comparison_6 ?_
  refine rr_iload_n (i := 1) C dX5_comparison_7 rfl rfl ?_
  refine rr_iadd C dX5_comparison_8 ?_
  obtain rfl := Option.some.inj hr
  exact rr_iret (ty := .int) C dX5_comparison_9 rfl rfl ⟨rfl, rfl, rfl⟩

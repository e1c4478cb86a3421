def q_X3_kindOf (K : Nat) (h : mm_H) (n : Nat) (l0 : Int32) : Option (Int32) :=
  if l0 < 97 then
    if l0 < 48 then
      if l0 = 10 then
        some 4
      else
      if l0 = 32 then
        some 4
      else
      if l0 = 40 then
        some 3
      else
      if l0 = 41 then
        some 3
      else
      if l0 = 59 then
        some 3
      else
      if l0 = 60 then
        some 3
      else
      if l0 = 61 then
        some 3
      else
      if l0 = 62 then
        some 3
      else
      some 5
    else
    if 57 < l0 then
      if l0 = 10 then
        some 4
      else
      if l0 = 32 then
        some 4
      else
      if l0 = 40 then
        some 3
      else
      if l0 = 41 then
        some 3
      else
      if l0 = 59 then
        some 3
      else
      if l0 = 60 then
        some 3
      else
      if l0 = 61 then
        some 3
      else
      if l0 = 62 then
        some 3
      else
      some 5
    else
    some 2
  else
  if 122 < l0 then
    if l0 < 48 then
      if l0 = 10 then
        some 4
      else
      if l0 = 32 then
        some 4
      else
      if l0 = 40 then
        some 3
      else
      if l0 = 41 then
        some 3
      else
      if l0 = 59 then
        some 3
      else
      if l0 = 60 then
        some 3
      else
      if l0 = 61 then
        some 3
      else
      if l0 = 62 then
        some 3
      else
      some 5
    else
    if 57 < l0 then
      if l0 = 10 then
        some 4
      else
      if l0 = 32 then
        some 4
      else
      if l0 = 40 then
        some 3
      else
      if l0 = 41 then
        some 3
      else
      if l0 = 59 then
        some 3
      else
      if l0 = 60 then
        some 3
      else
      if l0 = 61 then
        some 3
      else
      if l0 = 62 then
        some 3
      else
      some 5
    else
    some 2
  else
  some 1
set_option maxRecDepth 100000 in
set_option maxHeartbeats 4000000 in
theorem c_X3_kindOf {K : Nat} {G : mm_G} {l : Launch} {h : mm_H} {n : Nat} (l0 : Int32) {r_ : Int32} (hn : 32 ≤ n) (hr : q_X3_kindOf K h n l0 = some r_) : Sp G l yX3_kindOf cX3_kindOf 1 (some .int) 0 0 0 [.int l0] h n (fun v h' n' => v = some (.int r_) ∧ h' = h ∧ n' = n) := by
  refine Sp_of (by decide +kernel) (Nat.le_of_ble_eq_true rfl) hn ?_
  intro W0 hwl C
  subst hwl
  unfold q_X3_kindOf at hr
  show WW W0 G 1 0 0 _ 0 [some (.int l0)] [] h n 0 0
  refine rr_iload_n (i := 0) C dX3_kindOf_0 rfl rfl ?_
  refine rr_bipush (v := 97) C dX3_kindOf_1 (by decide) ?_
  refine rr_icmp_lt (tgt := 14) C dX3_kindOf_3 (by decide) (fun c3_ => ?_) (fun c3_ => ?_)
  · replace hr := (if_pos c3_).symm.trans hr
    refine rr_iload_n (i := 0) C dX3_kindOf_14 rfl rfl ?_
    refine rr_bipush (v := 48) C dX3_kindOf_15 (by decide) ?_
    refine rr_icmp_lt (tgt := 28) C dX3_kindOf_17 (by decide) (fun c17_ => ?_) (fun c17_ => ?_)
    · replace hr := (if_pos c17_).symm.trans hr
      refine rr_iload_n (i := 0) C dX3_kindOf_28 rfl rfl ?_
      by_cases s29_10 : l0 = 10
      · replace hr := (if_pos s29_10).symm.trans hr
        refine rr_lookup (off := 75) (tgt := 104) C dX3_kindOf_29 (by decide) (by rw [s29_10]; rfl) (by decide) ?_
        refine rr_iconst (v := 4) C dX3_kindOf_104 (by decide) ?_
        obtain rfl := Option.some.inj hr
        exact rr_iret (ty := .int) C dX3_kindOf_105 rfl rfl ⟨rfl, rfl, rfl⟩
      replace hr := (if_neg s29_10).symm.trans hr
      by_cases s29_32 : l0 = 32
      · replace hr := (if_pos s29_32).symm.trans hr
        refine rr_lookup (off := 75) (tgt := 104) C dX3_kindOf_29 (by decide) (by rw [s29_32]; rfl) (by decide) ?_
        refine rr_iconst (v := 4) C dX3_kindOf_104 (by decide) ?_
        obtain rfl := Option.some.inj hr
        exact rr_iret (ty := .int) C dX3_kindOf_105 rfl rfl ⟨rfl, rfl, rfl⟩
      replace hr := (if_neg s29_32).symm.trans hr
      by_cases s29_40 : l0 = 40
      · replace hr := (if_pos s29_40).symm.trans hr
        refine rr_lookup (off := 77) (tgt := 106) C dX3_kindOf_29 (by decide) (by rw [s29_40]; rfl) (by decide) ?_
        refine rr_iconst (v := 3) C dX3_kindOf_106 (by decide) ?_
        obtain rfl := Option.some.inj hr
        exact rr_iret (ty := .int) C dX3_kindOf_107 rfl rfl ⟨rfl, rfl, rfl⟩
      replace hr := (if_neg s29_40).symm.trans hr
      by_cases s29_41 : l0 = 41
      · replace hr := (if_pos s29_41).symm.trans hr
        refine rr_lookup (off := 77) (tgt := 106) C dX3_kindOf_29 (by decide) (by rw [s29_41]; rfl) (by decide) ?_
        refine rr_iconst (v := 3) C dX3_kindOf_106 (by decide) ?_
        obtain rfl := Option.some.inj hr
        exact rr_iret (ty := .int) C dX3_kindOf_107 rfl rfl ⟨rfl, rfl, rfl⟩
      replace hr := (if_neg s29_41).symm.trans hr
      by_cases s29_59 : l0 = 59
      · replace hr := (if_pos s29_59).symm.trans hr
        refine rr_lookup (off := 77) (tgt := 106) C dX3_kindOf_29 (by decide) (by rw [s29_59]; rfl) (by decide) ?_
        refine rr_iconst (v := 3) C dX3_kindOf_106 (by decide) ?_
        obtain rfl := Option.some.inj hr
        exact rr_iret (ty := .int) C dX3_kindOf_107 rfl rfl ⟨rfl, rfl, rfl⟩
      replace hr := (if_neg s29_59).symm.trans hr
      by_cases s29_60 : l0 = 60
      · replace hr := (if_pos s29_60).symm.trans hr
        refine rr_lookup (off := 77) (tgt := 106) C dX3_kindOf_29 (by decide) (by rw [s29_60]; rfl) (by decide) ?_
        refine rr_iconst (v := 3) C dX3_kindOf_106 (by decide) ?_
        obtain rfl := Option.some.inj hr
        exact rr_iret (ty := .int) C dX3_kindOf_107 rfl rfl ⟨rfl, rfl, rfl⟩
      replace hr := (if_neg s29_60).symm.trans hr
      by_cases s29_61 : l0 = 61
      · replace hr := (if_pos s29_61).symm.trans hr
        refine rr_lookup (off := 77) (tgt := 106) C dX3_kindOf_29 (by decide) (by rw [s29_61]; rfl) (by decide) ?_
        refine rr_iconst (v := 3) C dX3_kindOf_106 (by decide) ?_
        obtain rfl := Option.some.inj hr
        exact rr_iret (ty := .int) C dX3_kindOf_107 rfl rfl ⟨rfl, rfl, rfl⟩
      replace hr := (if_neg s29_61).symm.trans hr
      by_cases s29_62 : l0 = 62
      · replace hr := (if_pos s29_62).symm.trans hr
        refine rr_lookup (off := 77) (tgt := 106) C dX3_kindOf_29 (by decide) (by rw [s29_62]; rfl) (by decide) ?_
        refine rr_iconst (v := 3) C dX3_kindOf_106 (by decide) ?_
        obtain rfl := Option.some.inj hr
        exact rr_iret (ty := .int) C dX3_kindOf_107 rfl rfl ⟨rfl, rfl, rfl⟩
      replace hr := (if_neg s29_62).symm.trans hr
      refine rr_lookup (off := 79) (tgt := 108) C dX3_kindOf_29 (by decide) ((lv_osw s29_10 rfl).trans ((lv_osw s29_32 rfl).trans ((lv_osw s29_40 rfl).trans ((lv_osw s29_41 rfl).trans ((lv_osw s29_59 rfl).trans ((lv_osw s29_60 rfl).trans ((lv_osw s29_61 rfl).trans ((lv_osw s29_62 rfl).trans rfl)))))))) (by decide) ?_
      refine rr_iconst (v := 5) C dX3_kindOf_108 (by decide) ?_
      obtain rfl := Option.some.inj hr
      exact rr_iret (ty := .int) C dX3_kindOf_109 rfl rfl ⟨rfl, rfl, rfl⟩
    · replace hr := (if_neg c17_).symm.trans hr
      refine rr_iload_n (i := 0) C dX3_kindOf_20 rfl rfl ?_
      refine rr_bipush (v := 57) C dX3_kindOf_21 (by decide) ?_
      refine rr_icmp_gt (tgt := 28) C dX3_kindOf_23 (by decide) (fun c23_ => ?_) (fun c23_ => ?_)
      · replace hr := (if_pos c23_).symm.trans hr
        refine rr_iload_n (i := 0) C dX3_kindOf_28 rfl rfl ?_
        by_cases s29_10 : l0 = 10
        · replace hr := (if_pos s29_10).symm.trans hr
          refine rr_lookup (off := 75) (tgt := 104) C dX3_kindOf_29 (by decide) (by rw [s29_10]; rfl) (by decide) ?_
          refine rr_iconst (v := 4) C dX3_kindOf_104 (by decide) ?_
          obtain rfl := Option.some.inj hr
          exact rr_iret (ty := .int) C dX3_kindOf_105 rfl rfl ⟨rfl, rfl, rfl⟩
        replace hr := (if_neg s29_10).symm.trans hr
        by_cases s29_32 : l0 = 32
        · replace hr := (if_pos s29_32).symm.trans hr
          refine rr_lookup (off := 75) (tgt := 104) C dX3_kindOf_29 (by decide) (by rw [s29_32]; rfl) (by decide) ?_
          refine rr_iconst (v := 4) C dX3_kindOf_104 (by decide) ?_
          obtain rfl := Option.some.inj hr
          exact rr_iret (ty := .int) C dX3_kindOf_105 rfl rfl ⟨rfl, rfl, rfl⟩
        replace hr := (if_neg s29_32).symm.trans hr
        by_cases s29_40 : l0 = 40
        · replace hr := (if_pos s29_40).symm.trans hr
          refine rr_lookup (off := 77) (tgt := 106) C dX3_kindOf_29 (by decide) (by rw [s29_40]; rfl) (by decide) ?_
          refine rr_iconst (v := 3) C dX3_kindOf_106 (by decide) ?_
          obtain rfl := Option.some.inj hr
          exact rr_iret (ty := .int) C dX3_kindOf_107 rfl rfl ⟨rfl, rfl, rfl⟩
        replace hr := (if_neg s29_40).symm.trans hr
        by_cases s29_41 : l0 = 41
        · replace hr := (if_pos s29_41).symm.trans hr
          refine rr_lookup (off := 77) (tgt := 106) C dX3_kindOf_29 (by decide) (by rw [s29_41]; rfl) (by decide) ?_
          refine rr_iconst (v := 3) C dX3_kindOf_106 (by decide) ?_
          obtain rfl := Option.some.inj hr
          exact rr_iret (ty := .int) C dX3_kindOf_107 rfl rfl ⟨rfl, rfl, rfl⟩
        replace hr := (if_neg s29_41).symm.trans hr
        by_cases s29_59 : l0 = 59
        · replace hr := (if_pos s29_59).symm.trans hr
          refine rr_lookup (off := 77) (tgt := 106) C dX3_kindOf_29 (by decide) (by rw [s29_59]; rfl) (by decide) ?_
          refine rr_iconst (v := 3) C dX3_kindOf_106 (by decide) ?_
          obtain rfl := Option.some.inj hr
          exact rr_iret (ty := .int) C dX3_kindOf_107 rfl rfl ⟨rfl, rfl, rfl⟩
        replace hr := (if_neg s29_59).symm.trans hr
        by_cases s29_60 : l0 = 60
        · replace hr := (if_pos s29_60).symm.trans hr
          refine rr_lookup (off := 77) (tgt := 106) C dX3_kindOf_29 (by decide) (by rw [s29_60]; rfl) (by decide) ?_
          refine rr_iconst (v := 3) C dX3_kindOf_106 (by decide) ?_
          obtain rfl := Option.some.inj hr
          exact rr_iret (ty := .int) C dX3_kindOf_107 rfl rfl ⟨rfl, rfl, rfl⟩
        replace hr := (if_neg s29_60).symm.trans hr
        by_cases s29_61 : l0 = 61
        · replace hr := (if_pos s29_61).symm.trans hr
          refine rr_lookup (off := 77) (tgt := 106) C dX3_kindOf_29 (by decide) (by rw [s29_61]; rfl) (by decide) ?_
          refine rr_iconst (v := 3) C dX3_kindOf_106 (by decide) ?_
          obtain rfl := Option.some.inj hr
          exact rr_iret (ty := .int) C dX3_kindOf_107 rfl rfl ⟨rfl, rfl, rfl⟩
        replace hr := (if_neg s29_61).symm.trans hr
        by_cases s29_62 : l0 = 62
        · replace hr := (if_pos s29_62).symm.trans hr
          refine rr_lookup (off := 77) (tgt := 106) C dX3_kindOf_29 (by decide) (by rw [s29_62]; rfl) (by decide) ?_
          refine rr_iconst (v := 3) C dX3_kindOf_106 (by decide) ?_
          obtain rfl := Option.some.inj hr
          exact rr_iret (ty := .int) C dX3_kindOf_107 rfl rfl ⟨rfl, rfl, rfl⟩
        replace hr := (if_neg s29_62).symm.trans hr
        refine rr_lookup (off := 79) (tgt := 108) C dX3_kindOf_29 (by decide) ((lv_osw s29_10 rfl).trans ((lv_osw s29_32 rfl).trans ((lv_osw s29_40 rfl).trans ((lv_osw s29_41 rfl).trans ((lv_osw s29_59 rfl).trans ((lv_osw s29_60 rfl).trans ((lv_osw s29_61 rfl).trans ((lv_osw s29_62 rfl).trans rfl)))))))) (by decide) ?_
        refine rr_iconst (v := 5) C dX3_kindOf_108 (by decide) ?_
        obtain rfl := Option.some.inj hr
        exact rr_iret (ty := .int) C dX3_kindOf_109 rfl rfl ⟨rfl, rfl, rfl⟩
      · replace hr := (if_neg c23_).symm.trans hr
        refine rr_iconst (v := 2) C dX3_kindOf_26 (by decide) ?_
        obtain rfl := Option.some.inj hr
        exact rr_iret (ty := .int) C dX3_kindOf_27 rfl rfl ⟨rfl, rfl, rfl⟩
  · replace hr := (if_neg c3_).symm.trans hr
    refine rr_iload_n (i := 0) C dX3_kindOf_6 rfl rfl ?_
    refine rr_bipush (v := 122) C dX3_kindOf_7 (by decide) ?_
    refine rr_icmp_gt (tgt := 14) C dX3_kindOf_9 (by decide) (fun c9_ => ?_) (fun c9_ => ?_)
    · replace hr := (if_pos c9_).symm.trans hr
      refine rr_iload_n (i := 0) C dX3_kindOf_14 rfl rfl ?_
      refine rr_bipush (v := 48) C dX3_kindOf_15 (by decide) ?_
      refine rr_icmp_lt (tgt := 28) C dX3_kindOf_17 (by decide) (fun c17_ => ?_) (fun c17_ => ?_)
      · replace hr := (if_pos c17_).symm.trans hr
        refine rr_iload_n (i := 0) C dX3_kindOf_28 rfl rfl ?_
        by_cases s29_10 : l0 = 10
        · replace hr := (if_pos s29_10).symm.trans hr
          refine rr_lookup (off := 75) (tgt := 104) C dX3_kindOf_29 (by decide) (by rw [s29_10]; rfl) (by decide) ?_
          refine rr_iconst (v := 4) C dX3_kindOf_104 (by decide) ?_
          obtain rfl := Option.some.inj hr
          exact rr_iret (ty := .int) C dX3_kindOf_105 rfl rfl ⟨rfl, rfl, rfl⟩
        replace hr := (if_neg s29_10).symm.trans hr
        by_cases s29_32 : l0 = 32
        · replace hr := (if_pos s29_32).symm.trans hr
          refine rr_lookup (off := 75) (tgt := 104) C dX3_kindOf_29 (by decide) (by rw [s29_32]; rfl) (by decide) ?_
          refine rr_iconst (v := 4) C dX3_kindOf_104 (by decide) ?_
          obtain rfl := Option.some.inj hr
          exact rr_iret (ty := .int) C dX3_kindOf_105 rfl rfl ⟨rfl, rfl, rfl⟩
        replace hr := (if_neg s29_32).symm.trans hr
        by_cases s29_40 : l0 = 40
        · replace hr := (if_pos s29_40).symm.trans hr
          refine rr_lookup (off := 77) (tgt := 106) C dX3_kindOf_29 (by decide) (by rw [s29_40]; rfl) (by decide) ?_
          refine rr_iconst (v := 3) C dX3_kindOf_106 (by decide) ?_
          obtain rfl := Option.some.inj hr
          exact rr_iret (ty := .int) C dX3_kindOf_107 rfl rfl ⟨rfl, rfl, rfl⟩
        replace hr := (if_neg s29_40).symm.trans hr
        by_cases s29_41 : l0 = 41
        · replace hr := (if_pos s29_41).symm.trans hr
          refine rr_lookup (off := 77) (tgt := 106) C dX3_kindOf_29 (by decide) (by rw [s29_41]; rfl) (by decide) ?_
          refine rr_iconst (v := 3) C dX3_kindOf_106 (by decide) ?_
          obtain rfl := Option.some.inj hr
          exact rr_iret (ty := .int) C dX3_kindOf_107 rfl rfl ⟨rfl, rfl, rfl⟩
        replace hr := (if_neg s29_41).symm.trans hr
        by_cases s29_59 : l0 = 59
        · replace hr := (if_pos s29_59).symm.trans hr
          refine rr_lookup (off := 77) (tgt := 106) C dX3_kindOf_29 (by decide) (by rw [s29_59]; rfl) (by decide) ?_
          refine rr_iconst (v := 3) C dX3_kindOf_106 (by decide) ?_
          obtain rfl := Option.some.inj hr
          exact rr_iret (ty := .int) C dX3_kindOf_107 rfl rfl ⟨rfl, rfl, rfl⟩
        replace hr := (if_neg s29_59).symm.trans hr
        by_cases s29_60 : l0 = 60
        · replace hr := (if_pos s29_60).symm.trans hr
          refine rr_lookup (off := 77) (tgt := 106) C dX3_kindOf_29 (by decide) (by rw [s29_60]; rfl) (by decide) ?_
          refine rr_iconst (v := 3) C dX3_kindOf_106 (by decide) ?_
          obtain rfl := Option.some.inj hr
          exact rr_iret (ty := .int) C dX3_kindOf_107 rfl rfl ⟨rfl, rfl, rfl⟩
        replace hr := (if_neg s29_60).symm.trans hr
        by_cases s29_61 : l0 = 61
        · replace hr := (if_pos s29_61).symm.trans hr
          refine rr_lookup (off := 77) (tgt := 106) C dX3_kindOf_29 (by decide) (by rw [s29_61]; rfl) (by decide) ?_
          refine rr_iconst (v := 3) C dX3_kindOf_106 (by decide) ?_
          obtain rfl := Option.some.inj hr
          exact rr_iret (ty := .int) C dX3_kindOf_107 rfl rfl ⟨rfl, rfl, rfl⟩
        replace hr := (if_neg s29_61).symm.trans hr
        by_cases s29_62 : l0 = 62
        · replace hr := (if_pos s29_62).symm.trans hr
          refine rr_lookup (off := 77) (tgt := 106) C dX3_kindOf_29 (by decide) (by rw [s29_62]; rfl) (by decide) ?_
          refine rr_iconst (v := 3) C dX3_kindOf_106 (by decide) ?_
          obtain rfl := Option.some.inj hr
          exact rr_iret (ty := .int) C dX3_kindOf_107 rfl rfl ⟨rfl, rfl, rfl⟩
        replace hr := (if_neg s29_62).symm.trans hr
        refine rr_lookup (off := 79) (tgt := 108) C dX3_kindOf_29 (by decide) ((lv_osw s29_10 rfl).trans ((lv_osw s29_32 rfl).trans ((lv_osw s29_40 rfl).trans ((lv_osw s29_41 rfl).trans ((lv_osw s29_59 rfl).trans ((lv_osw s29_60 rfl).trans ((lv_osw s29_61 rfl).trans ((lv_osw s29_62 rfl).trans rfl)))))))) (by decide) ?_
        refine rr_iconst (v := 5) C dX3_kindOf_108 (by decide) ?_
        obtain rfl := Option.some.inj hr
        exact rr_iret (ty := .int) C dX3_kindOf_109 rfl rfl ⟨rfl, rfl, rfl⟩
      · replace hr := (if_neg c17_).symm.trans hr
        refine rr_iload_n (i := 0) C dX3_kindOf_20 rfl rfl ?_
        refine rr_bipush (v := 57) C dX3_kindOf_21 (by decide) ?_
        refine rr_icmp_gt (tgt := 28) C dX3_kindOf_23 (by decide) (fun c23_ => ?_) (fun c23_ => ?_)
        · replace hr := (if_pos c23_).symm.trans hr
          refine rr_iload_n (i := 0) C dX3_kindOf_28 rfl rfl ?_
          by_cases s29_10 : l0 = 10
          · replace hr := (if_pos s29_10).symm.trans hr
            refine rr_lookup (off := 75) (tgt := 104) C dX3_kindOf_29 (by decide) (by rw [s29_10]; rfl) (by decide) ?_
            refine rr_iconst (v := 4) C dX3_kindOf_104 (by decide) ?_
            obtain rfl := Option.some.inj hr
            exact rr_iret (ty := .int) C dX3_kindOf_105 rfl rfl ⟨rfl, rfl, rfl⟩
          replace hr := (if_neg s29_10).symm.trans hr
          by_cases s29_32 : l0 = 32
          · replace hr := (if_pos s29_32).symm.trans hr
            refine rr_lookup (off := 75) (tgt := 104) C dX3_kindOf_29 (by decide) (by rw [s29_32]; rfl) (by decide) ?_
            refine rr_iconst (v := 4) C dX3_kindOf_104 (by decide) ?_
            obtain rfl := Option.some.inj hr
            exact rr_iret (ty := .int) C dX3_kindOf_105 rfl rfl ⟨rfl, rfl, rfl⟩
          replace hr := (if_neg s29_32).symm.trans hr
          by_cases s29_40 : l0 = 40
          · replace hr := (if_pos s29_40).symm.trans hr
            refine rr_lookup (off := 77) (tgt := 106) C dX3_kindOf_29 (by decide) (by rw [s29_40]; rfl) (by decide) ?_
            refine rr_iconst (v := 3) C dX3_kindOf_106 (by decide) ?_
            obtain rfl := Option.some.inj hr
            exact rr_iret (ty := .int) C dX3_kindOf_107 rfl rfl ⟨rfl, rfl, rfl⟩
          replace hr := (if_neg s29_40).symm.trans hr
          by_cases s29_41 : l0 = 41
          · replace hr := (if_pos s29_41).symm.trans hr
            refine rr_lookup (off := 77) (tgt := 106) C dX3_kindOf_29 (by decide) (by rw [s29_41]; rfl) (by decide) ?_
            refine rr_iconst (v := 3) C dX3_kindOf_106 (by decide) ?_
            obtain rfl := Option.some.inj hr
            exact rr_iret (ty := .int) C dX3_kindOf_107 rfl rfl ⟨rfl, rfl, rfl⟩
          replace hr := (if_neg s29_41).symm.trans hr
          by_cases s29_59 : l0 = 59
          · replace hr := (if_pos s29_59).symm.trans hr
            refine rr_lookup (off := 77) (tgt := 106) C dX3_kindOf_29 (by decide) (by rw [s29_59]; rfl) (by decide) ?_
            refine rr_iconst (v := 3) C dX3_kindOf_106 (by decide) ?_
            obtain rfl := Option.some.inj hr
            exact rr_iret (ty := .int) C dX3_kindOf_107 rfl rfl ⟨rfl, rfl, rfl⟩
          replace hr := (if_neg s29_59).symm.trans hr
          by_cases s29_60 : l0 = 60
          · replace hr := (if_pos s29_60).symm.trans hr
            refine rr_lookup (off := 77) (tgt := 106) C dX3_kindOf_29 (by decide) (by rw [s29_60]; rfl) (by decide) ?_
            refine rr_iconst (v := 3) C dX3_kindOf_106 (by decide) ?_
            obtain rfl := Option.some.inj hr
            exact rr_iret (ty := .int) C dX3_kindOf_107 rfl rfl ⟨rfl, rfl, rfl⟩
          replace hr := (if_neg s29_60).symm.trans hr
          by_cases s29_61 : l0 = 61
          · replace hr := (if_pos s29_61).symm.trans hr
            refine rr_lookup (off := 77) (tgt := 106) C dX3_kindOf_29 (by decide) (by rw [s29_61]; rfl) (by decide) ?_
            refine rr_iconst (v := 3) C dX3_kindOf_106 (by decide) ?_
            obtain rfl := Option.some.inj hr
            exact rr_iret (ty := .int) C dX3_kindOf_107 rfl rfl ⟨rfl, rfl, rfl⟩
          replace hr := (if_neg s29_61).symm.trans hr
          by_cases s29_62 : l0 = 62
          · replace hr := (if_pos s29_62).symm.trans hr
            refine rr_lookup (off := 77) (tgt := 106) C dX3_kindOf_29 (by decide) (by rw [s29_62]; rfl) (by decide) ?_
            refine rr_iconst (v := 3) C dX3_kindOf_106 (by decide) ?_
            obtain rfl := Option.some.inj hr
            exact rr_iret (ty := .int) C dX3_kindOf_107 rfl rfl ⟨rfl, rfl, rfl⟩
          replace hr := (if_neg s29_62).symm.trans hr
          refine rr_lookup (off := 79) (tgt := 108) C dX3_kindOf_29 (by decide) ((lv_osw s29_10 rfl).trans ((lv_osw s29_32 rfl).trans ((lv_osw s29_40 rfl).trans ((lv_osw s29_41 rfl).trans ((lv_osw s29_59 rfl).trans ((lv_osw s29_60 rfl).trans ((lv_osw s29_61 rfl).trans ((lv_osw s29_62 rfl).trans rfl)))))))) (by decide) ?_
          refine rr_iconst (v := 5) C dX3_kindOf_108 (by decide) ?_
          obtain rfl := Option.some.inj hr
          exact rr_iret (ty := .int) C dX3_kindOf_109 rfl rfl ⟨rfl, rfl, rfl⟩
        · replace hr := (if_neg c23_).symm.trans hr
          refine rr_iconst (v := 2) C dX3_kindOf_26 (by decide) ?_
          obtain rfl := Option.some.inj hr
          exact rr_iret (ty := .int) C dX3_kindOf_27 rfl rfl ⟨rfl, rfl, rfl⟩
    · replace hr := (if_neg c9_).symm.trans hr
      refine rr_iconst (v := 1) C dX3_kindOf_12 (by decide) ?_
      obtain rfl := Option.some.inj hr
      exact rr_iret (ty := .int) C dX3_kindOf_13 rfl rfl ⟨rfl, rfl, rfl⟩
def lp_X3_step_17 (K : Nat) (n : Nat) (l0 : Nat) : Nat → mm_H → Option (mm_H)
  | 0, _ => none
  | k_ + 1, h =>
    (rdI h n l0 3 3).bind fun v7 =>
    (rdI h n l0 3 1).bind fun v9 =>
    if v9 ≤ v7 then
      some (h)
    else
    (rdI h n l0 3 3).bind fun v11 =>
    (ckq h n l0 3).bind fun u13 =>
    (q_X3_byteAt K h n l0 v11).bind fun v15 =>
    (q_X3_kindOf K h n v15).bind fun v17 =>
    if v17 = 4 then
      (rdI h n l0 3 3).bind fun v19 =>
      (wrF h n l0 3 3 (.int (v19 + 1))).bind fun h21 =>
      lp_X3_step_17 K n l0 k_  h21
    else
    some (h)
def lp_X3_step_112 (K : Nat) (n : Nat) (l0 : Nat) : Nat → mm_H → Option (mm_H)
  | 0, _ => none
  | k_ + 1, h =>
    (rdI h n l0 3 4).bind fun v41 =>
    (rdI h n l0 3 1).bind fun v43 =>
    if v43 ≤ v41 then
      some (h)
    else
    (rdI h n l0 3 2).bind fun v45 =>
    if v45 = 1 then
      (rdI h n l0 3 4).bind fun v47 =>
      (ckq h n l0 3).bind fun u49 =>
      (q_X3_byteAt K h n l0 v47).bind fun v51 =>
      (q_X3_kindOf K h n v51).bind fun v53 =>
      (rdI h n l0 3 2).bind fun v55 =>
      if v53 = v55 then
        (rdI h n l0 3 4).bind fun v57 =>
        (wrF h n l0 3 4 (.int (v57 + 1))).bind fun h59 =>
        lp_X3_step_112 K n l0 k_  h59
      else
      some (h)
    else
    (rdI h n l0 3 2).bind fun v61 =>
    if v61 = 2 then
      (rdI h n l0 3 4).bind fun v63 =>
      (ckq h n l0 3).bind fun u65 =>
      (q_X3_byteAt K h n l0 v63).bind fun v67 =>
      (q_X3_kindOf K h n v67).bind fun v69 =>
      (rdI h n l0 3 2).bind fun v71 =>
      if v69 = v71 then
        (rdI h n l0 3 4).bind fun v73 =>
        (wrF h n l0 3 4 (.int (v73 + 1))).bind fun h75 =>
        lp_X3_step_112 K n l0 k_  h75
      else
      some (h)
    else
    some (h)
def q_X3_step (K : Nat) (h : mm_H) (n : Nat) (l0 : Nat) : Option (mm_H) :=
  (rdI h n l0 3 5).bind fun v1 =>
  if v1 = (-1) then
    (rdI h n l0 3 4).bind fun v3 =>
    (wrF h n l0 3 3 (.int v3)).bind fun h5 =>
    (lp_X3_step_17 K n l0 K  h5).bind fun v23 =>
    (rdI v23 n l0 3 3).bind fun v25 =>
    (wrF v23 n l0 3 4 (.int v25)).bind fun h27 =>
    (rdI h27 n l0 3 3).bind fun v29 =>
    (rdI h27 n l0 3 1).bind fun v31 =>
    if v31 ≤ v29 then
      (wrF h27 n l0 3 2 (.int 0)).bind fun h33 =>
      (rdI h33 n l0 3 2).bind fun v35 =>
      if v35 = 0 then
        some h33
      else
      (rdI h33 n l0 3 4).bind fun v37 =>
      (wrF h33 n l0 3 4 (.int (v37 + 1))).bind fun h39 =>
      (lp_X3_step_112 K n l0 K  h39).bind fun v77 =>
      some v77
    else
    (rdI h27 n l0 3 3).bind fun v79 =>
    (ckq h27 n l0 3).bind fun u81 =>
    (q_X3_byteAt K h27 n l0 v79).bind fun v83 =>
    (q_X3_kindOf K h27 n v83).bind fun v85 =>
    (wrF h27 n l0 3 2 (.int v85)).bind fun h87 =>
    (rdI h87 n l0 3 2).bind fun v89 =>
    if v89 = 0 then
      some h87
    else
    (rdI h87 n l0 3 4).bind fun v91 =>
    (wrF h87 n l0 3 4 (.int (v91 + 1))).bind fun h93 =>
    (lp_X3_step_112 K n l0 K  h93).bind fun v95 =>
    some v95
  else
  some h
set_option maxRecDepth 100000 in
set_option maxHeartbeats 4000000 in
theorem w_X3_step_17 {K : Nat} {W0 : mm_X} {G : mm_G} {mc ms kc ks : Nat} {Q_ : State → Prop} {n : Nat} (C : mm_C W0 G cX3_step yX3_step.cls 1 mc ms none 1 yX3_step.name) (hn : 32 ≤ n) (l0 : Nat) : ∀ (k_ : Nat)  (h : mm_H) {r_ : mm_H} (hr : lp_X3_step_17 K n l0 k_  h = some r_) (hx0 : WW W0 G 1 mc ms Q_ 56 [some (.ref l0)] [] r_ n kc ks), WW W0 G 1 mc ms Q_ 17 [some (.ref l0)] [] h n kc ks := by
  intro k_
  induction k_ with
  | zero =>
    intro h r_ hr
    cases hr
  | succ k_ ih_ =>
    intro h r_ hr hx0
    unfold lp_X3_step_17 at hr
    refine rr_aload_n (i := 0) C dX3_step_17 rfl rfl ?_
    replace hr := Option.bind_eq_some_iff.mp hr
    obtain ⟨v7, e8, hr⟩ := hr
    refine rr_rdI C dX3_step_18 fl_X3_208 e8 ?_
    refine rr_aload_n (i := 0) C dX3_step_21 rfl rfl ?_
    replace hr := Option.bind_eq_some_iff.mp hr
    obtain ⟨v9, e10, hr⟩ := hr
    refine rr_rdI C dX3_step_22 fl_X3_43 e10 ?_
    refine rr_icmp_ge (tgt := 56) C dX3_step_25 (by decide) (fun c25_ => ?_) (fun c25_ => ?_)
    · replace hr := (if_pos c25_).symm.trans hr
      obtain rfl := Option.some.inj hr
      exact rr_keep [true] (hx0)
    · replace hr := (if_neg c25_).symm.trans hr
      refine rr_aload_n (i := 0) C dX3_step_28 rfl rfl ?_
      refine rr_aload_n (i := 0) C dX3_step_29 rfl rfl ?_
      replace hr := Option.bind_eq_some_iff.mp hr
      obtain ⟨v11, e12, hr⟩ := hr
      refine rr_rdI C dX3_step_30 fl_X3_208 e12 ?_
      replace hr := Option.bind_eq_some_iff.mp hr
      obtain ⟨u13, e14, hr⟩ := hr
      replace hr := Option.bind_eq_some_iff.mp hr
      obtain ⟨v15, e16, hr⟩ := hr
      refine rr_callVq (as := [.int v11]) (st := []) (mc' := 0) (ms' := 0) C dX3_step_33 iv_X3_211 (by decide) e14 rfl (Nat.le_of_ble_eq_true rfl) (c_X3_byteAt l0 v11 (by omega) e16) (fun v_ h_ n_ q_ => ?_)
      obtain ⟨q1_, q2_, q3_⟩ := q_
      subst v_; subst h_; subst n_
      show WW W0 G 1 _ _ _ 36 [some (.ref l0)] [.int v15] h n _ _
      replace hr := Option.bind_eq_some_iff.mp hr
      obtain ⟨v17, e18, hr⟩ := hr
      refine rr_callS (as := [.int v15]) (st := []) (mc' := 0) (ms' := 0) C dX3_step_36 it_X3_223 (by decide) (Nat.le_of_ble_eq_true rfl) (c_X3_kindOf v15 (by omega) e18) (fun v_ h_ n_ q_ => ?_)
      obtain ⟨q1_, q2_, q3_⟩ := q_
      subst v_; subst h_; subst n_
      show WW W0 G 1 _ _ _ 39 [some (.ref l0)] [.int v17] h n _ _
      refine rr_iconst (v := 4) C dX3_step_39 (by decide) ?_
      refine rr_icmp_ne (tgt := 56) C dX3_step_40 (by decide) (fun c40_ => ?_) (fun c40_ => ?_)
      · replace hr := (if_neg c40_).symm.trans hr
        obtain rfl := Option.some.inj hr
        exact rr_keep [true] (hx0)
      · replace hr := (if_pos c40_).symm.trans hr
        refine rr_aload_n (i := 0) C dX3_step_43 rfl rfl ?_
        refine rr_dup C dX3_step_44 rfl ?_
        replace hr := Option.bind_eq_some_iff.mp hr
        obtain ⟨v19, e20, hr⟩ := hr
        refine rr_rdI C dX3_step_45 fl_X3_208 e20 ?_
        refine rr_iconst (v := 1) C dX3_step_48 (by decide) ?_
        refine rr_iadd C dX3_step_49 ?_
        replace hr := Option.bind_eq_some_iff.mp hr
        obtain ⟨h21, e22, hr⟩ := hr
        refine rr_wrF C dX3_step_50 fp_X3_208 rfl rfl e22 ?_
        refine rr_goto (tgt := 17) C dX3_step_53 (by decide) ?_
        exact rr_keep [true] (ih_  _ hr hx0)
set_option maxRecDepth 100000 in
set_option maxHeartbeats 4000000 in
theorem w_X3_step_112 {K : Nat} {W0 : mm_X} {G : mm_G} {mc ms kc ks : Nat} {Q_ : State → Prop} {n : Nat} (C : mm_C W0 G cX3_step yX3_step.cls 1 mc ms none 1 yX3_step.name) (hn : 32 ≤ n) (l0 : Nat) : ∀ (k_ : Nat)  (h : mm_H) {r_ : mm_H} (hr : lp_X3_step_112 K n l0 k_  h = some r_) (hx0 : WW W0 G 1 mc ms Q_ 170 [none] [] r_ n kc ks), WW W0 G 1 mc ms Q_ 112 [some (.ref l0)] [] h n kc ks := by
  intro k_
  induction k_ with
  | zero =>
    intro h r_ hr
    cases hr
  | succ k_ ih_ =>
    intro h r_ hr hx0
    unfold lp_X3_step_112 at hr
    refine rr_aload_n (i := 0) C dX3_step_112 rfl rfl ?_
    replace hr := Option.bind_eq_some_iff.mp hr
    obtain ⟨v41, e42, hr⟩ := hr
    refine rr_rdI C dX3_step_113 fl_X3_46 e42 ?_
    refine rr_aload_n (i := 0) C dX3_step_116 rfl rfl ?_
    replace hr := Option.bind_eq_some_iff.mp hr
    obtain ⟨v43, e44, hr⟩ := hr
    refine rr_rdI C dX3_step_117 fl_X3_43 e44 ?_
    refine rr_icmp_ge (tgt := 170) C dX3_step_120 (by decide) (fun c120_ => ?_) (fun c120_ => ?_)
    · replace hr := (if_pos c120_).symm.trans hr
      obtain rfl := Option.some.inj hr
      exact rr_keep [false] (hx0)
    · replace hr := (if_neg c120_).symm.trans hr
      refine rr_aload_n (i := 0) C dX3_step_123 rfl rfl ?_
      replace hr := Option.bind_eq_some_iff.mp hr
      obtain ⟨v45, e46, hr⟩ := hr
      refine rr_rdI C dX3_step_124 fl_X3_74 e46 ?_
      refine rr_iconst (v := 1) C dX3_step_127 (by decide) ?_
      refine rr_icmp_eq (tgt := 139) C dX3_step_128 (by decide) (fun c128_ => ?_) (fun c128_ => ?_)
      · replace hr := (if_pos c128_).symm.trans hr
        refine rr_aload_n (i := 0) C dX3_step_139 rfl rfl ?_
        refine rr_aload_n (i := 0) C dX3_step_140 rfl rfl ?_
        replace hr := Option.bind_eq_some_iff.mp hr
        obtain ⟨v47, e48, hr⟩ := hr
        refine rr_rdI C dX3_step_141 fl_X3_46 e48 ?_
        replace hr := Option.bind_eq_some_iff.mp hr
        obtain ⟨u49, e50, hr⟩ := hr
        replace hr := Option.bind_eq_some_iff.mp hr
        obtain ⟨v51, e52, hr⟩ := hr
        refine rr_callVq (as := [.int v47]) (st := []) (mc' := 0) (ms' := 0) C dX3_step_144 iv_X3_211 (by decide) e50 rfl (Nat.le_of_ble_eq_true rfl) (c_X3_byteAt l0 v47 (by omega) e52) (fun v_ h_ n_ q_ => ?_)
        obtain ⟨q1_, q2_, q3_⟩ := q_
        subst v_; subst h_; subst n_
        show WW W0 G 1 _ _ _ 147 [some (.ref l0)] [.int v51] h n _ _
        replace hr := Option.bind_eq_some_iff.mp hr
        obtain ⟨v53, e54, hr⟩ := hr
        refine rr_callS (as := [.int v51]) (st := []) (mc' := 0) (ms' := 0) C dX3_step_147 it_X3_223 (by decide) (Nat.le_of_ble_eq_true rfl) (c_X3_kindOf v51 (by omega) e54) (fun v_ h_ n_ q_ => ?_)
        obtain ⟨q1_, q2_, q3_⟩ := q_
        subst v_; subst h_; subst n_
        show WW W0 G 1 _ _ _ 150 [some (.ref l0)] [.int v53] h n _ _
        refine rr_aload_n (i := 0) C dX3_step_150 rfl rfl ?_
        replace hr := Option.bind_eq_some_iff.mp hr
        obtain ⟨v55, e56, hr⟩ := hr
        refine rr_rdI C dX3_step_151 fl_X3_74 e56 ?_
        refine rr_icmp_ne (tgt := 170) C dX3_step_154 (by decide) (fun c154_ => ?_) (fun c154_ => ?_)
        · replace hr := (if_neg c154_).symm.trans hr
          obtain rfl := Option.some.inj hr
          exact rr_keep [false] (hx0)
        · replace hr := (if_pos c154_).symm.trans hr
          refine rr_aload_n (i := 0) C dX3_step_157 rfl rfl ?_
          refine rr_dup C dX3_step_158 rfl ?_
          replace hr := Option.bind_eq_some_iff.mp hr
          obtain ⟨v57, e58, hr⟩ := hr
          refine rr_rdI C dX3_step_159 fl_X3_46 e58 ?_
          refine rr_iconst (v := 1) C dX3_step_162 (by decide) ?_
          refine rr_iadd C dX3_step_163 ?_
          replace hr := Option.bind_eq_some_iff.mp hr
          obtain ⟨h59, e60, hr⟩ := hr
          refine rr_wrF C dX3_step_164 fp_X3_46 rfl rfl e60 ?_
          refine rr_goto (tgt := 112) C dX3_step_167 (by decide) ?_
          exact rr_keep [true] (ih_  _ hr hx0)
      · replace hr := (if_neg c128_).symm.trans hr
        refine rr_aload_n (i := 0) C dX3_step_131 rfl rfl ?_
        replace hr := Option.bind_eq_some_iff.mp hr
        obtain ⟨v61, e62, hr⟩ := hr
        refine rr_rdI C dX3_step_132 fl_X3_74 e62 ?_
        refine rr_iconst (v := 2) C dX3_step_135 (by decide) ?_
        refine rr_icmp_ne (tgt := 170) C dX3_step_136 (by decide) (fun c136_ => ?_) (fun c136_ => ?_)
        · replace hr := (if_neg c136_).symm.trans hr
          obtain rfl := Option.some.inj hr
          exact rr_keep [false] (hx0)
        · replace hr := (if_pos c136_).symm.trans hr
          refine rr_aload_n (i := 0) C dX3_step_139 rfl rfl ?_
          refine rr_aload_n (i := 0) C dX3_step_140 rfl rfl ?_
          replace hr := Option.bind_eq_some_iff.mp hr
          obtain ⟨v63, e64, hr⟩ := hr
          refine rr_rdI C dX3_step_141 fl_X3_46 e64 ?_
          replace hr := Option.bind_eq_some_iff.mp hr
          obtain ⟨u65, e66, hr⟩ := hr
          replace hr := Option.bind_eq_some_iff.mp hr
          obtain ⟨v67, e68, hr⟩ := hr
          refine rr_callVq (as := [.int v63]) (st := []) (mc' := 0) (ms' := 0) C dX3_step_144 iv_X3_211 (by decide) e66 rfl (Nat.le_of_ble_eq_true rfl) (c_X3_byteAt l0 v63 (by omega) e68) (fun v_ h_ n_ q_ => ?_)
          obtain ⟨q1_, q2_, q3_⟩ := q_
          subst v_; subst h_; subst n_
          show WW W0 G 1 _ _ _ 147 [some (.ref l0)] [.int v67] h n _ _
          replace hr := Option.bind_eq_some_iff.mp hr
          obtain ⟨v69, e70, hr⟩ := hr
          refine rr_callS (as := [.int v67]) (st := []) (mc' := 0) (ms' := 0) C dX3_step_147 it_X3_223 (by decide) (Nat.le_of_ble_eq_true rfl) (c_X3_kindOf v67 (by omega) e70) (fun v_ h_ n_ q_ => ?_)
          obtain ⟨q1_, q2_, q3_⟩ := q_
          subst v_; subst h_; subst n_
          show WW W0 G 1 _ _ _ 150 [some (.ref l0)] [.int v69] h n _ _
          refine rr_aload_n (i := 0) C dX3_step_150 rfl rfl ?_
          replace hr := Option.bind_eq_some_iff.mp hr
          obtain ⟨v71, e72, hr⟩ := hr
          refine rr_rdI C dX3_step_151 fl_X3_74 e72 ?_
          refine rr_icmp_ne (tgt := 170) C dX3_step_154 (by decide) (fun c154_ => ?_) (fun c154_ => ?_)
          · replace hr := (if_neg c154_).symm.trans hr
            obtain rfl := Option.some.inj hr
            exact rr_keep [false] (hx0)
          · replace hr := (if_pos c154_).symm.trans hr
            refine rr_aload_n (i := 0) C dX3_step_157 rfl rfl ?_
            refine rr_dup C dX3_step_158 rfl ?_
            replace hr := Option.bind_eq_some_iff.mp hr
            obtain ⟨v73, e74, hr⟩ := hr
            refine rr_rdI C dX3_step_159 fl_X3_46 e74 ?_
            refine rr_iconst (v := 1) C dX3_step_162 (by decide) ?_
            refine rr_iadd C dX3_step_163 ?_
            replace hr := Option.bind_eq_some_iff.mp hr
            obtain ⟨h75, e76, hr⟩ := hr
            refine rr_wrF C dX3_step_164 fp_X3_46 rfl rfl e76 ?_
            refine rr_goto (tgt := 112) C dX3_step_167 (by decide) ?_
            exact rr_keep [true] (ih_  _ hr hx0)
set_option maxRecDepth 100000 in
set_option maxHeartbeats 4000000 in
theorem c_X3_step {K : Nat} {G : mm_G} {l : Launch} {h : mm_H} {n : Nat} (l0 : Nat) {r_ : mm_H} (hn : 32 ≤ n) (hr : q_X3_step K h n l0 = some r_) : Sp G l yX3_step cX3_step 1 none 1 0 0 [.ref l0] h n (fun v h' n' => v = none ∧ h' = r_ ∧ n' = n) := by
  refine Sp_of (by decide +kernel) (Nat.le_of_ble_eq_true rfl) hn ?_
  intro W0 hwl C
  subst hwl
  unfold q_X3_step at hr
  show WW W0 G 1 0 0 _ 0 [some (.ref l0)] [] h n 0 0
  refine rr_aload_n (i := 0) C dX3_step_0 rfl rfl ?_
  replace hr := Option.bind_eq_some_iff.mp hr
  obtain ⟨v1, e2, hr⟩ := hr
  refine rr_rdI C dX3_step_1 fl_X3_18 e2 ?_
  refine rr_iconst (v := (-1)) C dX3_step_4 (by decide) ?_
  refine rr_icmp_eq (tgt := 9) C dX3_step_5 (by decide) (fun c5_ => ?_) (fun c5_ => ?_)
  · replace hr := (if_pos c5_).symm.trans hr
    refine rr_aload_n (i := 0) C dX3_step_9 rfl rfl ?_
    refine rr_aload_n (i := 0) C dX3_step_10 rfl rfl ?_
    replace hr := Option.bind_eq_some_iff.mp hr
    obtain ⟨v3, e4, hr⟩ := hr
    refine rr_rdI C dX3_step_11 fl_X3_46 e4 ?_
    replace hr := Option.bind_eq_some_iff.mp hr
    obtain ⟨h5, e6, hr⟩ := hr
    refine rr_wrF C dX3_step_14 fp_X3_208 rfl rfl e6 ?_
    replace hr := Option.bind_eq_some_iff.mp hr
    obtain ⟨v23, e24, hr⟩ := hr
    refine rr_keep [true] (w_X3_step_17 C (by omega) l0 K  h5 e24 ?_)
    show WW W0 G 1 _ _ _ 56 [some (.ref l0)] [] v23 n _ _
    refine rr_aload_n (i := 0) C dX3_step_56 rfl rfl ?_
    refine rr_aload_n (i := 0) C dX3_step_57 rfl rfl ?_
    replace hr := Option.bind_eq_some_iff.mp hr
    obtain ⟨v25, e26, hr⟩ := hr
    refine rr_rdI C dX3_step_58 fl_X3_208 e26 ?_
    replace hr := Option.bind_eq_some_iff.mp hr
    obtain ⟨h27, e28, hr⟩ := hr
    refine rr_wrF C dX3_step_61 fp_X3_46 rfl rfl e28 ?_
    refine rr_aload_n (i := 0) C dX3_step_64 rfl rfl ?_
    refine rr_aload_n (i := 0) C dX3_step_65 rfl rfl ?_
    replace hr := Option.bind_eq_some_iff.mp hr
    obtain ⟨v29, e30, hr⟩ := hr
    refine rr_rdI C dX3_step_66 fl_X3_208 e30 ?_
    refine rr_aload_n (i := 0) C dX3_step_69 rfl rfl ?_
    replace hr := Option.bind_eq_some_iff.mp hr
    obtain ⟨v31, e32, hr⟩ := hr
    refine rr_rdI C dX3_step_70 fl_X3_43 e32 ?_
    refine rr_icmp_ge (tgt := 90) C dX3_step_73 (by decide) (fun c73_ => ?_) (fun c73_ => ?_)
    · replace hr := (if_pos c73_).symm.trans hr
      refine rr_iconst (v := 0) C dX3_step_90 (by decide) ?_
      replace hr := Option.bind_eq_some_iff.mp hr
      obtain ⟨h33, e34, hr⟩ := hr
      refine rr_wrF C dX3_step_91 fp_X3_74 rfl rfl e34 ?_
      refine rr_aload_n (i := 0) C dX3_step_94 rfl rfl ?_
      replace hr := Option.bind_eq_some_iff.mp hr
      obtain ⟨v35, e36, hr⟩ := hr
      refine rr_rdI C dX3_step_95 fl_X3_74 e36 ?_
      refine rr_if_ne (tgt := 102) C dX3_step_98 (by decide) (fun c98_ => ?_) (fun c98_ => ?_)
      · replace hr := (if_neg c98_).symm.trans hr
        refine rr_aload_n (i := 0) C dX3_step_102 rfl rfl ?_
        refine rr_dup C dX3_step_103 rfl ?_
        replace hr := Option.bind_eq_some_iff.mp hr
        obtain ⟨v37, e38, hr⟩ := hr
        refine rr_rdI C dX3_step_104 fl_X3_46 e38 ?_
        refine rr_iconst (v := 1) C dX3_step_107 (by decide) ?_
        refine rr_iadd C dX3_step_108 ?_
        replace hr := Option.bind_eq_some_iff.mp hr
        obtain ⟨h39, e40, hr⟩ := hr
        refine rr_wrF C dX3_step_109 fp_X3_46 rfl rfl e40 ?_
        replace hr := Option.bind_eq_some_iff.mp hr
        obtain ⟨v77, e78, hr⟩ := hr
        refine rr_keep [true] (w_X3_step_112 C (by omega) l0 K  h39 e78 ?_)
        show WW W0 G 1 _ _ _ 170 [none] [] v77 n _ _
        obtain rfl := Option.some.inj hr
        exact rr_vret C dX3_step_170 rfl ⟨rfl, rfl, rfl⟩
      · replace hr := (if_pos c98_).symm.trans hr
        obtain rfl := Option.some.inj hr
        exact rr_vret C dX3_step_101 rfl ⟨rfl, rfl, rfl⟩
    · replace hr := (if_neg c73_).symm.trans hr
      refine rr_aload_n (i := 0) C dX3_step_76 rfl rfl ?_
      refine rr_aload_n (i := 0) C dX3_step_77 rfl rfl ?_
      replace hr := Option.bind_eq_some_iff.mp hr
      obtain ⟨v79, e80, hr⟩ := hr
      refine rr_rdI C dX3_step_78 fl_X3_208 e80 ?_
      replace hr := Option.bind_eq_some_iff.mp hr
      obtain ⟨u81, e82, hr⟩ := hr
      replace hr := Option.bind_eq_some_iff.mp hr
      obtain ⟨v83, e84, hr⟩ := hr
      refine rr_callVq (as := [.int v79]) (st := [.ref l0]) (mc' := 0) (ms' := 0) C dX3_step_81 iv_X3_211 (by decide) e82 rfl (Nat.le_of_ble_eq_true rfl) (c_X3_byteAt l0 v79 (by omega) e84) (fun v_ h_ n_ q_ => ?_)
      obtain ⟨q1_, q2_, q3_⟩ := q_
      subst v_; subst h_; subst n_
      show WW W0 G 1 _ _ _ 84 [some (.ref l0)] [.int v83, .ref l0] h27 n _ _
      replace hr := Option.bind_eq_some_iff.mp hr
      obtain ⟨v85, e86, hr⟩ := hr
      refine rr_callS (as := [.int v83]) (st := [.ref l0]) (mc' := 0) (ms' := 0) C dX3_step_84 it_X3_223 (by decide) (Nat.le_of_ble_eq_true rfl) (c_X3_kindOf v83 (by omega) e86) (fun v_ h_ n_ q_ => ?_)
      obtain ⟨q1_, q2_, q3_⟩ := q_
      subst v_; subst h_; subst n_
      show WW W0 G 1 _ _ _ 87 [some (.ref l0)] [.int v85, .ref l0] h27 n _ _
      refine rr_goto (tgt := 91) C dX3_step_87 (by decide) ?_
      replace hr := Option.bind_eq_some_iff.mp hr
      obtain ⟨h87, e88, hr⟩ := hr
      refine rr_wrF C dX3_step_91 fp_X3_74 rfl rfl e88 ?_
      refine rr_aload_n (i := 0) C dX3_step_94 rfl rfl ?_
      replace hr := Option.bind_eq_some_iff.mp hr
      obtain ⟨v89, e90, hr⟩ := hr
      refine rr_rdI C dX3_step_95 fl_X3_74 e90 ?_
      refine rr_if_ne (tgt := 102) C dX3_step_98 (by decide) (fun c98_ => ?_) (fun c98_ => ?_)
      · replace hr := (if_neg c98_).symm.trans hr
        refine rr_aload_n (i := 0) C dX3_step_102 rfl rfl ?_
        refine rr_dup C dX3_step_103 rfl ?_
        replace hr := Option.bind_eq_some_iff.mp hr
        obtain ⟨v91, e92, hr⟩ := hr
        refine rr_rdI C dX3_step_104 fl_X3_46 e92 ?_
        refine rr_iconst (v := 1) C dX3_step_107 (by decide) ?_
        refine rr_iadd C dX3_step_108 ?_
        replace hr := Option.bind_eq_some_iff.mp hr
        obtain ⟨h93, e94, hr⟩ := hr
        refine rr_wrF C dX3_step_109 fp_X3_46 rfl rfl e94 ?_
        replace hr := Option.bind_eq_some_iff.mp hr
        obtain ⟨v95, e96, hr⟩ := hr
        refine rr_keep [true] (w_X3_step_112 C (by omega) l0 K  h93 e96 ?_)
        show WW W0 G 1 _ _ _ 170 [none] [] v95 n _ _
        obtain rfl := Option.some.inj hr
        exact rr_vret C dX3_step_170 rfl ⟨rfl, rfl, rfl⟩
      · replace hr := (if_pos c98_).symm.trans hr
        obtain rfl := Option.some.inj hr
        exact rr_vret C dX3_step_101 rfl ⟨rfl, rfl, rfl⟩
  · replace hr := (if_neg c5_).symm.trans hr
    obtain rfl := Option.some.inj hr
    exact rr_vret C dX3_step_8 rfl ⟨rfl, rfl, rfl⟩
def lp_X3_value_22 (K : Nat) (h : mm_H) (n : Nat) (l0 : Nat) : Nat → Int32 → Int32 → Option (Int32)
  | 0, _, _ => none
  | k_ + 1, l1, l2 =>
    (rdI h n l0 3 4).bind fun v7 =>
    if v7 ≤ l2 then
      some (l1)
    else
    (ckq h n l0 3).bind fun u9 =>
    (q_X3_byteAt K h n l0 l2).bind fun v11 =>
    lp_X3_value_22 K h n l0 k_ (((l1 * 10) + v11) - 48) (l2 + 1)
def q_X3_value (K : Nat) (h : mm_H) (n : Nat) (l0 : Nat) : Option (Int32) :=
  (rdI h n l0 3 4).bind fun v1 =>
  (rdI h n l0 3 3).bind fun v3 =>
  if (v1 - v3) ≤ 5 then
    (rdI h n l0 3 3).bind fun v5 =>
    (lp_X3_value_22 K h n l0 K 0 v5).bind fun v14 =>
    some v14
  else
  some (-1)
set_option maxRecDepth 100000 in
set_option maxHeartbeats 4000000 in
theorem w_X3_value_22 {K : Nat} {W0 : mm_X} {G : mm_G} {mc ms kc ks : Nat} {Q_ : State → Prop} {h : mm_H} {n : Nat} (C : mm_C W0 G cX3_value yX3_value.cls 3 mc ms (some .int) 1 yX3_value.name) (hn : 32 ≤ n) (l0 : Nat) : ∀ (k_ : Nat) (l1 : Int32) (l2 : Int32) {r_ : Int32} (hr : lp_X3_value_22 K h n l0 k_ l1 l2 = some r_) (hx0 : WW W0 G 3 mc ms Q_ 50 [none, some (.int r_), none] [] h n kc ks), WW W0 G 3 mc ms Q_ 22 [some (.ref l0), some (.int l1), some (.int l2)] [] h n kc ks := by
  intro k_
  induction k_ with
  | zero =>
    intro l1 l2 r_ hr
    cases hr
  | succ k_ ih_ =>
    intro l1 l2 r_ hr hx0
    unfold lp_X3_value_22 at hr
    refine rr_iload_n (i := 2) C dX3_value_22 rfl rfl ?_
    refine rr_aload_n (i := 0) C dX3_value_23 rfl rfl ?_
    replace hr := Option.bind_eq_some_iff.mp hr
    obtain ⟨v7, e8, hr⟩ := hr
    refine rr_rdI C dX3_value_24 fl_X3_46 e8 ?_
    refine rr_icmp_ge (tgt := 50) C dX3_value_27 (by decide) (fun c27_ => ?_) (fun c27_ => ?_)
    · replace hr := (if_pos c27_).symm.trans hr
      obtain rfl := Option.some.inj hr
      exact rr_keep [false, true, false] (hx0)
    · replace hr := (if_neg c27_).symm.trans hr
      refine rr_iload_n (i := 1) C dX3_value_30 rfl rfl ?_
      refine rr_bipush (v := 10) C dX3_value_31 (by decide) ?_
      refine rr_imul C dX3_value_33 ?_
      refine rr_aload_n (i := 0) C dX3_value_34 rfl rfl ?_
      refine rr_iload_n (i := 2) C dX3_value_35 rfl rfl ?_
      replace hr := Option.bind_eq_some_iff.mp hr
      obtain ⟨u9, e10, hr⟩ := hr
      replace hr := Option.bind_eq_some_iff.mp hr
      obtain ⟨v11, e12, hr⟩ := hr
      refine rr_callVq (as := [.int l2]) (st := [.int (l1 * 10)]) (mc' := 0) (ms' := 0) C dX3_value_36 iv_X3_211 (by decide) e10 rfl (Nat.le_of_ble_eq_true rfl) (c_X3_byteAt l0 l2 (by omega) e12) (fun v_ h_ n_ q_ => ?_)
      obtain ⟨q1_, q2_, q3_⟩ := q_
      subst v_; subst h_; subst n_
      show WW W0 G 3 _ _ _ 39 [some (.ref l0), some (.int l1), some (.int l2)] [.int v11, .int (l1 * 10)] h n _ _
      refine rr_iadd C dX3_value_39 ?_
      refine rr_bipush (v := 48) C dX3_value_40 (by decide) ?_
      refine rr_isub C dX3_value_42 ?_
      refine rr_istore_n (i := 1) C dX3_value_43 rfl (by decide) ?_
      show WW W0 G 3 _ _ _ 44 [some (.ref l0), some (.int (((l1 * 10) + v11) - 48)), some (.int l2)] [] h n _ _
      refine rr_iinc (v := l2 + 1) C dX3_value_44 rfl rfl ?_
      show WW W0 G 3 _ _ _ 47 [some (.ref l0), some (.int (((l1 * 10) + v11) - 48)), some (.int (l2 + 1))] [] h n _ _
      refine rr_goto (tgt := 22) C dX3_value_47 (by decide) ?_
      exact rr_keep [true, true, true] (ih_ _ _ hr hx0)
set_option maxRecDepth 100000 in
set_option maxHeartbeats 4000000 in
theorem c_X3_value {K : Nat} {G : mm_G} {l : Launch} {h : mm_H} {n : Nat} (l0 : Nat) {r_ : Int32} (hn : 32 ≤ n) (hr : q_X3_value K h n l0 = some r_) : Sp G l yX3_value cX3_value 3 (some .int) 1 0 0 [.ref l0] h n (fun v h' n' => v = some (.int r_) ∧ h' = h ∧ n' = n) := by
  refine Sp_of (by decide +kernel) (Nat.le_of_ble_eq_true rfl) hn ?_
  intro W0 hwl C
  subst hwl
  unfold q_X3_value at hr
  show WW W0 G 3 0 0 _ 0 [some (.ref l0), none, none] [] h n 0 0
  refine rr_aload_n (i := 0) C dX3_value_0 rfl rfl ?_
  replace hr := Option.bind_eq_some_iff.mp hr
  obtain ⟨v1, e2, hr⟩ := hr
  refine rr_rdI C dX3_value_1 fl_X3_46 e2 ?_
  refine rr_aload_n (i := 0) C dX3_value_4 rfl rfl ?_
  replace hr := Option.bind_eq_some_iff.mp hr
  obtain ⟨v3, e4, hr⟩ := hr
  refine rr_rdI C dX3_value_5 fl_X3_208 e4 ?_
  refine rr_isub C dX3_value_8 ?_
  refine rr_iconst (v := 5) C dX3_value_9 (by decide) ?_
  refine rr_icmp_le (tgt := 15) C dX3_value_10 (by decide) (fun c10_ => ?_) (fun c10_ => ?_)
  · replace hr := (if_pos c10_).symm.trans hr
    refine rr_iconst (v := 0) C dX3_value_15 (by decide) ?_
    refine rr_istore_n (i := 1) C dX3_value_16 rfl (by decide) ?_
    show WW W0 G 3 _ _ _ 17 [some (.ref l0), some (.int 0), none] [] h n _ _
    refine rr_aload_n (i := 0) C dX3_value_17 rfl rfl ?_
    replace hr := Option.bind_eq_some_iff.mp hr
    obtain ⟨v5, e6, hr⟩ := hr
    refine rr_rdI C dX3_value_18 fl_X3_208 e6 ?_
    refine rr_istore_n (i := 2) C dX3_value_21 rfl (by decide) ?_
    show WW W0 G 3 _ _ _ 22 [some (.ref l0), some (.int 0), some (.int v5)] [] h n _ _
    replace hr := Option.bind_eq_some_iff.mp hr
    obtain ⟨v14, e15, hr⟩ := hr
    refine rr_keep [true, true, true] (w_X3_value_22 C (by omega) l0 K 0 v5 e15 ?_)
    show WW W0 G 3 _ _ _ 50 [none, some (.int v14), none] [] h n _ _
    refine rr_iload_n (i := 1) C dX3_value_50 rfl rfl ?_
    obtain rfl := Option.some.inj hr
    exact rr_iret (ty := .int) C dX3_value_51 rfl rfl ⟨rfl, rfl, rfl⟩
  · replace hr := (if_neg c10_).symm.trans hr
    refine rr_iconst (v := (-1)) C dX3_value_13 (by decide) ?_
    obtain rfl := Option.some.inj hr
    exact rr_iret (ty := .int) C dX3_value_14 rfl rfl ⟨rfl, rfl, rfl⟩
def q_X3_fail (K : Nat) (h : mm_H) (n : Nat) (l0 : Nat) : Option (mm_H) :=
  (rdI h n l0 3 5).bind fun v1 =>
  if v1 = (-1) then
    (rdI h n l0 3 3).bind fun v3 =>
    (wrF h n l0 3 5 (.int v3)).bind fun h5 =>
    (wrF h5 n l0 3 2 (.int 5)).bind fun h7 =>
    some h7
  else
  (wrF h n l0 3 2 (.int 5)).bind fun h9 =>
  some h9
set_option maxRecDepth 100000 in
set_option maxHeartbeats 4000000 in
theorem c_X3_fail {K : Nat} {G : mm_G} {l : Launch} {h : mm_H} {n : Nat} (l0 : Nat) {r_ : mm_H} (hn : 32 ≤ n) (hr : q_X3_fail K h n l0 = some r_) : Sp G l yX3_fail cX3_fail 1 none 0 0 0 [.ref l0] h n (fun v h' n' => v = none ∧ h' = r_ ∧ n' = n) := by
  refine Sp_of (by decide +kernel) (Nat.le_of_ble_eq_true rfl) hn ?_
  intro W0 hwl C
  subst hwl
  unfold q_X3_fail at hr
  show WW W0 G 1 0 0 _ 0 [some (.ref l0)] [] h n 0 0
  refine rr_aload_n (i := 0) C dX3_fail_0 rfl rfl ?_
  replace hr := Option.bind_eq_some_iff.mp hr
  obtain ⟨v1, e2, hr⟩ := hr
  refine rr_rdI C dX3_fail_1 fl_X3_18 e2 ?_
  refine rr_iconst (v := (-1)) C dX3_fail_4 (by decide) ?_
  refine rr_icmp_ne (tgt := 16) C dX3_fail_5 (by decide) (fun c5_ => ?_) (fun c5_ => ?_)
  · replace hr := (if_neg c5_).symm.trans hr
    refine rr_aload_n (i := 0) C dX3_fail_16 rfl rfl ?_
    refine rr_iconst (v := 5) C dX3_fail_17 (by decide) ?_
    replace hr := Option.bind_eq_some_iff.mp hr
    obtain ⟨h9, e10, hr⟩ := hr
    refine rr_wrF C dX3_fail_18 fp_X3_74 rfl rfl e10 ?_
    obtain rfl := Option.some.inj hr
    exact rr_vret C dX3_fail_21 rfl ⟨rfl, rfl, rfl⟩
  · replace hr := (if_pos c5_).symm.trans hr
    refine rr_aload_n (i := 0) C dX3_fail_8 rfl rfl ?_
    refine rr_aload_n (i := 0) C dX3_fail_9 rfl rfl ?_
    replace hr := Option.bind_eq_some_iff.mp hr
    obtain ⟨v3, e4, hr⟩ := hr
    refine rr_rdI C dX3_fail_10 fl_X3_208 e4 ?_
    replace hr := Option.bind_eq_some_iff.mp hr
    obtain ⟨h5, e6, hr⟩ := hr
    refine rr_wrF C dX3_fail_13 fp_X3_18 rfl rfl e6 ?_
    refine rr_aload_n (i := 0) C dX3_fail_16 rfl rfl ?_
    refine rr_iconst (v := 5) C dX3_fail_17 (by decide) ?_
    replace hr := Option.bind_eq_some_iff.mp hr
    obtain ⟨h7, e8, hr⟩ := hr
    refine rr_wrF C dX3_fail_18 fp_X3_74 rfl rfl e8 ?_
    obtain rfl := Option.some.inj hr
    exact rr_vret C dX3_fail_21 rfl ⟨rfl, rfl, rfl⟩
def q_X3_isSign (K : Nat) (h : mm_H) (n : Nat) (l0 : Nat) (l1 : Int32) : Option (Int32) :=
  (rdI h n l0 3 2).bind fun v1 =>
  if v1 = 3 then
    (rdI h n l0 3 3).bind fun v3 =>
    (ckq h n l0 3).bind fun u5 =>
    (q_X3_byteAt K h n l0 v3).bind fun v7 =>
    if v7 = l1 then
      some 1
    else
    some 0
  else
  some 0
set_option maxRecDepth 100000 in
set_option maxHeartbeats 4000000 in
theorem c_X3_isSign {K : Nat} {G : mm_G} {l : Launch} {h : mm_H} {n : Nat} (l0 : Nat) (l1 : Int32) {r_ : Int32} (hn : 32 ≤ n) (hr : q_X3_isSign K h n l0 l1 = some r_) : Sp G l yX3_isSign cX3_isSign 2 (some .boolean) 1 0 0 [.ref l0, .int l1] h n (fun v h' n' => v = some (.int r_) ∧ h' = h ∧ n' = n) := by
  refine Sp_of (by decide +kernel) (Nat.le_of_ble_eq_true rfl) hn ?_
  intro W0 hwl C
  subst hwl
  unfold q_X3_isSign at hr
  show WW W0 G 2 0 0 _ 0 [some (.ref l0), some (.int l1)] [] h n 0 0
  refine rr_aload_n (i := 0) C dX3_isSign_0 rfl rfl ?_
  replace hr := Option.bind_eq_some_iff.mp hr
  obtain ⟨v1, e2, hr⟩ := hr
  refine rr_rdI C dX3_isSign_1 fl_X3_74 e2 ?_
  refine rr_iconst (v := 3) C dX3_isSign_4 (by decide) ?_
  refine rr_icmp_ne (tgt := 24) C dX3_isSign_5 (by decide) (fun c5_ => ?_) (fun c5_ => ?_)
  · replace hr := (if_neg c5_).symm.trans hr
    refine rr_iconst (v := 0) C dX3_isSign_24 (by decide) ?_
    obtain rfl := Option.some.inj hr
    exact rr_iret (ty := .boolean) C dX3_isSign_25 rfl rfl ⟨rfl, rfl, rfl⟩
  · replace hr := (if_pos c5_).symm.trans hr
    refine rr_aload_n (i := 0) C dX3_isSign_8 rfl rfl ?_
    refine rr_aload_n (i := 0) C dX3_isSign_9 rfl rfl ?_
    replace hr := Option.bind_eq_some_iff.mp hr
    obtain ⟨v3, e4, hr⟩ := hr
    refine rr_rdI C dX3_isSign_10 fl_X3_208 e4 ?_
    replace hr := Option.bind_eq_some_iff.mp hr
    obtain ⟨u5, e6, hr⟩ := hr
    replace hr := Option.bind_eq_some_iff.mp hr
    obtain ⟨v7, e8, hr⟩ := hr
    refine rr_callVq (as := [.int v3]) (st := []) (mc' := 0) (ms' := 0) C dX3_isSign_13 iv_X3_211 (by decide) e6 rfl (Nat.le_of_ble_eq_true rfl) (c_X3_byteAt l0 v3 (by omega) e8) (fun v_ h_ n_ q_ => ?_)
    obtain ⟨q1_, q2_, q3_⟩ := q_
    subst v_; subst h_; subst n_
    show WW W0 G 2 _ _ _ 16 [some (.ref l0), some (.int l1)] [.int v7] h n _ _
    refine rr_iload_n (i := 1) C dX3_isSign_16 rfl rfl ?_
    refine rr_icmp_ne (tgt := 24) C dX3_isSign_17 (by decide) (fun c17_ => ?_) (fun c17_ => ?_)
    · replace hr := (if_neg c17_).symm.trans hr
      refine rr_iconst (v := 0) C dX3_isSign_24 (by decide) ?_
      obtain rfl := Option.some.inj hr
      exact rr_iret (ty := .boolean) C dX3_isSign_25 rfl rfl ⟨rfl, rfl, rfl⟩
    · replace hr := (if_pos c17_).symm.trans hr
      refine rr_iconst (v := 1) C dX3_isSign_20 (by decide) ?_
      refine rr_goto (tgt := 25) C dX3_isSign_21 (by decide) ?_
      obtain rfl := Option.some.inj hr
      exact rr_iret (ty := .boolean) C dX3_isSign_25 rfl rfl ⟨rfl, rfl, rfl⟩
def q_X3_sign (K : Nat) (h : mm_H) (n : Nat) (l0 : Nat) (l1 : Int32) : Option (mm_H) :=
  (ckq h n l0 3).bind fun u1 =>
  (q_X3_isSign K h n l0 l1).bind fun v3 =>
  if v3 = 0 then
    (ckq h n l0 3).bind fun u5 =>
    (q_X3_fail K h n l0).bind fun v7 =>
    some v7
  else
  (ckq h n l0 3).bind fun u9 =>
  (q_X3_step K h n l0).bind fun v11 =>
  some v11
set_option maxRecDepth 100000 in
set_option maxHeartbeats 4000000 in
theorem c_X3_sign {K : Nat} {G : mm_G} {l : Launch} {h : mm_H} {n : Nat} (l0 : Nat) (l1 : Int32) {r_ : mm_H} (hn : 32 ≤ n) (hr : q_X3_sign K h n l0 l1 = some r_) : Sp G l yX3_sign cX3_sign 2 none 2 0 0 [.ref l0, .int l1] h n (fun v h' n' => v = none ∧ h' = r_ ∧ n' = n) := by
  refine Sp_of (by decide +kernel) (Nat.le_of_ble_eq_true rfl) hn ?_
  intro W0 hwl C
  subst hwl
  unfold q_X3_sign at hr
  show WW W0 G 2 0 0 _ 0 [some (.ref l0), some (.int l1)] [] h n 0 0
  refine rr_aload_n (i := 0) C dX3_sign_0 rfl rfl ?_
  refine rr_iload_n (i := 1) C dX3_sign_1 rfl rfl ?_
  replace hr := Option.bind_eq_some_iff.mp hr
  obtain ⟨u1, e2, hr⟩ := hr
  replace hr := Option.bind_eq_some_iff.mp hr
  obtain ⟨v3, e4, hr⟩ := hr
  refine rr_callVq (as := [.int l1]) (st := []) (mc' := 0) (ms' := 0) C dX3_sign_2 iv_X3_193 (by decide) e2 rfl (Nat.le_of_ble_eq_true rfl) (c_X3_isSign l0 l1 (by omega) e4) (fun v_ h_ n_ q_ => ?_)
  obtain ⟨q1_, q2_, q3_⟩ := q_
  subst v_; subst h_; subst n_
  show WW W0 G 2 _ _ _ 5 [some (.ref l0), some (.int l1)] [.int v3] h n _ _
  refine rr_if_eq (tgt := 15) C dX3_sign_5 (by decide) (fun c5_ => ?_) (fun c5_ => ?_)
  · replace hr := (if_pos c5_).symm.trans hr
    refine rr_aload_n (i := 0) C dX3_sign_15 rfl rfl ?_
    replace hr := Option.bind_eq_some_iff.mp hr
    obtain ⟨u5, e6, hr⟩ := hr
    replace hr := Option.bind_eq_some_iff.mp hr
    obtain ⟨v7, e8, hr⟩ := hr
    refine rr_callVq (as := []) (st := []) (mc' := 0) (ms' := 0) C dX3_sign_16 iv_X3_85 (by decide) e6 rfl (Nat.le_of_ble_eq_true rfl) (c_X3_fail l0 (by omega) e8) (fun v_ h_ n_ q_ => ?_)
    obtain ⟨q1_, q2_, q3_⟩ := q_
    subst v_; subst h_; subst n_
    show WW W0 G 2 _ _ _ 19 [some (.ref l0), some (.int l1)] [] v7 n _ _
    obtain rfl := Option.some.inj hr
    exact rr_vret C dX3_sign_19 rfl ⟨rfl, rfl, rfl⟩
  · replace hr := (if_neg c5_).symm.trans hr
    refine rr_aload_n (i := 0) C dX3_sign_8 rfl rfl ?_
    replace hr := Option.bind_eq_some_iff.mp hr
    obtain ⟨u9, e10, hr⟩ := hr
    replace hr := Option.bind_eq_some_iff.mp hr
    obtain ⟨v11, e12, hr⟩ := hr
    refine rr_callVq (as := []) (st := []) (mc' := 0) (ms' := 0) C dX3_sign_9 iv_X3_61 (by decide) e10 rfl (Nat.le_of_ble_eq_true rfl) (c_X3_step l0 (by omega) e12) (fun v_ h_ n_ q_ => ?_)
    obtain ⟨q1_, q2_, q3_⟩ := q_
    subst v_; subst h_; subst n_
    show WW W0 G 2 _ _ _ 12 [some (.ref l0), some (.int l1)] [] v11 n _ _
    refine rr_goto (tgt := 19) C dX3_sign_12 (by decide) ?_
    obtain rfl := Option.some.inj hr
    exact rr_vret C dX3_sign_19 rfl ⟨rfl, rfl, rfl⟩
def q_X3_strike (K : Nat) (h : mm_H) (n : Nat) (l0 : Nat) (l1 : Option Nat) : Option (mm_H) :=
  (ckq h n l0 3).bind fun u1 =>
  (q_X3_step K h n l0).bind fun v3 =>
  (rdI v3 n l0 3 2).bind fun v5 =>
  if v5 = 2 then
    (ckq v3 n l0 3).bind fun u7 =>
    (q_X3_value K v3 n l0).bind fun v9 =>
    match l1 with
    | none =>
      (ckq v3 n l0 3).bind fun u12 =>
      (q_X3_fail K v3 n l0).bind fun v14 =>
      some v14
    | some a11 =>
      if v9 < 0 then
        (ckq v3 n l0 3).bind fun u16 =>
        (q_X3_fail K v3 n l0).bind fun v18 =>
        some v18
      else
      (rdI v3 n a11 6 1).bind fun v20 =>
      if v20 ≤ v9 then
        (ckq v3 n l0 3).bind fun u22 =>
        (q_X3_fail K v3 n l0).bind fun v24 =>
        some v24
      else
      (rdR v3 n l0 3 6).bind fun v26 =>
      v26.bind fun a28 =>
      (lenA v3 n a28 0).bind fun v30 =>
      if v30 ≤ v9 then
        (ckq v3 n l0 3).bind fun u32 =>
        (q_X3_fail K v3 n l0).bind fun v34 =>
        some v34
      else
      (rdR v3 n l0 3 6).bind fun v36 =>
      v36.bind fun a38 =>
      (ldI v3 n a38 v9).bind fun v40 =>
      if v40 = 0 then
        (ckq v3 n l0 3).bind fun u42 =>
        (q_X3_step K v3 n l0).bind fun v44 =>
        (ckq v44 n l0 3).bind fun u46 =>
        (q_X3_sign K v44 n l0 59).bind fun v48 =>
        (rdR v48 n l0 3 6).bind fun v50 =>
        v50.bind fun a52 =>
        (stI v48 n a52 v9 1).bind fun h54 =>
        (rdI h54 n l0 3 7).bind fun v56 =>
        (wrF h54 n l0 3 7 (.int (v56 + 1))).bind fun h58 =>
        some h58
      else
      (ckq v3 n l0 3).bind fun u60 =>
      (q_X3_fail K v3 n l0).bind fun v62 =>
      some v62
  else
  match l1 with
  | none =>
    (ckq v3 n l0 3).bind fun u65 =>
    (q_X3_fail K v3 n l0).bind fun v67 =>
    some v67
  | some a64 =>
    (ckq v3 n l0 3).bind fun u69 =>
    (q_X3_fail K v3 n l0).bind fun v71 =>
    some v71
set_option maxRecDepth 100000 in
set_option maxHeartbeats 4000000 in
theorem c_X3_strike {K : Nat} {G : mm_G} {l : Launch} {h : mm_H} {n : Nat} (l0 : Nat) (l1 : Option Nat) {r_ : mm_H} (hn : 32 ≤ n) (hr : q_X3_strike K h n l0 l1 = some r_) : Sp G l yX3_strike cX3_strike 3 none 3 0 0 [.ref l0, va_rf l1] h n (fun v h' n' => v = none ∧ h' = r_ ∧ n' = n) := by
  refine Sp_of (by decide +kernel) (by rcases l1 with _ | _ <;> exact Nat.le_of_ble_eq_true rfl) hn ?_
  intro W0 hwl C
  subst hwl
  unfold q_X3_strike at hr
  rw [show mm_en 3 [.ref l0, va_rf l1] = [some (.ref l0), some (va_rf l1), none] from by rcases l1 with _ | _ <;> rfl]
  show WW W0 G 3 0 0 _ 0 [some (.ref l0), some (va_rf l1), none] [] h n 0 0
  refine rr_aload_n (i := 0) C dX3_strike_0 rfl rfl ?_
  replace hr := Option.bind_eq_some_iff.mp hr
  obtain ⟨u1, e2, hr⟩ := hr
  replace hr := Option.bind_eq_some_iff.mp hr
  obtain ⟨v3, e4, hr⟩ := hr
  refine rr_callVq (as := []) (st := []) (mc' := 0) (ms' := 0) C dX3_strike_1 iv_X3_61 (by decide) e2 rfl (Nat.le_of_ble_eq_true rfl) (c_X3_step l0 (by omega) e4) (fun v_ h_ n_ q_ => ?_)
  obtain ⟨q1_, q2_, q3_⟩ := q_
  subst v_; subst h_; subst n_
  show WW W0 G 3 _ _ _ 4 [some (.ref l0), some (va_rf l1), none] [] v3 n _ _
  refine rr_aload_n (i := 0) C dX3_strike_4 rfl rfl ?_
  replace hr := Option.bind_eq_some_iff.mp hr
  obtain ⟨v5, e6, hr⟩ := hr
  refine rr_rdI C dX3_strike_5 fl_X3_74 e6 ?_
  refine rr_iconst (v := 2) C dX3_strike_8 (by decide) ?_
  refine rr_icmp_ne (tgt := 19) C dX3_strike_9 (by decide) (fun c9_ => ?_) (fun c9_ => ?_)
  · replace hr := (if_neg c9_).symm.trans hr
    refine rr_iconst (v := (-1)) C dX3_strike_19 (by decide) ?_
    refine rr_istore_n (i := 2) C dX3_strike_20 rfl (by decide) ?_
    rw [mm_set1_rf (i := 1) (r := l1) rfl]
    show WW W0 G 3 _ _ _ 21 [some (.ref l0), some (va_rf l1), some (.int (-1))] [] v3 n _ _
    refine rr_aload_nO (i := 1) C dX3_strike_21 rfl rfl ?_
    rcases l1 with _ | a64
    · dsimp only at hr
      refine rr_ifnullN (tgt := 55) C dX3_strike_22 (by decide) ?_
      refine rr_aload_n (i := 0) C dX3_strike_55 rfl rfl ?_
      replace hr := Option.bind_eq_some_iff.mp hr
      obtain ⟨u65, e66, hr⟩ := hr
      replace hr := Option.bind_eq_some_iff.mp hr
      obtain ⟨v67, e68, hr⟩ := hr
      refine rr_callVq (as := []) (st := []) (mc' := 0) (ms' := 0) C dX3_strike_56 iv_X3_85 (by decide) e66 rfl (Nat.le_of_ble_eq_true rfl) (c_X3_fail l0 (by omega) e68) (fun v_ h_ n_ q_ => ?_)
      obtain ⟨q1_, q2_, q3_⟩ := q_
      subst v_; subst h_; subst n_
      show WW W0 G 3 _ _ _ 59 [some (.ref l0), some (.null), some (.int (-1))] [] v67 n _ _
      obtain rfl := Option.some.inj hr
      exact rr_vret C dX3_strike_59 rfl ⟨rfl, rfl, rfl⟩
    · dsimp only at hr
      refine rr_ifnull C dX3_strike_22 ?_
      refine rr_iload_n (i := 2) C dX3_strike_25 rfl rfl ?_
      refine rr_if_lt (tgt := 55) C dX3_strike_26 (by decide) (fun _ => ?_) (fun q_ => absurd (by decide) q_)
      refine rr_aload_n (i := 0) C dX3_strike_55 rfl rfl ?_
      replace hr := Option.bind_eq_some_iff.mp hr
      obtain ⟨u69, e70, hr⟩ := hr
      replace hr := Option.bind_eq_some_iff.mp hr
      obtain ⟨v71, e72, hr⟩ := hr
      refine rr_callVq (as := []) (st := []) (mc' := 0) (ms' := 0) C dX3_strike_56 iv_X3_85 (by decide) e70 rfl (Nat.le_of_ble_eq_true rfl) (c_X3_fail l0 (by omega) e72) (fun v_ h_ n_ q_ => ?_)
      obtain ⟨q1_, q2_, q3_⟩ := q_
      subst v_; subst h_; subst n_
      show WW W0 G 3 _ _ _ 59 [some (.ref l0), some (.ref a64), some (.int (-1))] [] v71 n _ _
      obtain rfl := Option.some.inj hr
      exact rr_vret C dX3_strike_59 rfl ⟨rfl, rfl, rfl⟩
  · replace hr := (if_pos c9_).symm.trans hr
    refine rr_aload_n (i := 0) C dX3_strike_12 rfl rfl ?_
    replace hr := Option.bind_eq_some_iff.mp hr
    obtain ⟨u7, e8, hr⟩ := hr
    replace hr := Option.bind_eq_some_iff.mp hr
    obtain ⟨v9, e10, hr⟩ := hr
    refine rr_callVq (as := []) (st := []) (mc' := 0) (ms' := 0) C dX3_strike_13 iv_X3_108 (by decide) e8 rfl (Nat.le_of_ble_eq_true rfl) (c_X3_value l0 (by omega) e10) (fun v_ h_ n_ q_ => ?_)
    obtain ⟨q1_, q2_, q3_⟩ := q_
    subst v_; subst h_; subst n_
    show WW W0 G 3 _ _ _ 16 [some (.ref l0), some (va_rf l1), none] [.int v9] v3 n _ _
    refine rr_goto (tgt := 20) C dX3_strike_16 (by decide) ?_
    refine rr_istore_n (i := 2) C dX3_strike_20 rfl (by decide) ?_
    rw [mm_set1_rf (i := 1) (r := l1) rfl]
    show WW W0 G 3 _ _ _ 21 [some (.ref l0), some (va_rf l1), some (.int v9)] [] v3 n _ _
    refine rr_aload_nO (i := 1) C dX3_strike_21 rfl rfl ?_
    rcases l1 with _ | a11
    · dsimp only at hr
      refine rr_ifnullN (tgt := 55) C dX3_strike_22 (by decide) ?_
      refine rr_aload_n (i := 0) C dX3_strike_55 rfl rfl ?_
      replace hr := Option.bind_eq_some_iff.mp hr
      obtain ⟨u12, e13, hr⟩ := hr
      replace hr := Option.bind_eq_some_iff.mp hr
      obtain ⟨v14, e15, hr⟩ := hr
      refine rr_callVq (as := []) (st := []) (mc' := 0) (ms' := 0) C dX3_strike_56 iv_X3_85 (by decide) e13 rfl (Nat.le_of_ble_eq_true rfl) (c_X3_fail l0 (by omega) e15) (fun v_ h_ n_ q_ => ?_)
      obtain ⟨q1_, q2_, q3_⟩ := q_
      subst v_; subst h_; subst n_
      show WW W0 G 3 _ _ _ 59 [some (.ref l0), some (.null), some (.int v9)] [] v14 n _ _
      obtain rfl := Option.some.inj hr
      exact rr_vret C dX3_strike_59 rfl ⟨rfl, rfl, rfl⟩
    · dsimp only at hr
      refine rr_ifnull C dX3_strike_22 ?_
      refine rr_iload_n (i := 2) C dX3_strike_25 rfl rfl ?_
      refine rr_if_lt (tgt := 55) C dX3_strike_26 (by decide) (fun c26_ => ?_) (fun c26_ => ?_)
      · replace hr := (if_pos c26_).symm.trans hr
        refine rr_aload_n (i := 0) C dX3_strike_55 rfl rfl ?_
        replace hr := Option.bind_eq_some_iff.mp hr
        obtain ⟨u16, e17, hr⟩ := hr
        replace hr := Option.bind_eq_some_iff.mp hr
        obtain ⟨v18, e19, hr⟩ := hr
        refine rr_callVq (as := []) (st := []) (mc' := 0) (ms' := 0) C dX3_strike_56 iv_X3_85 (by decide) e17 rfl (Nat.le_of_ble_eq_true rfl) (c_X3_fail l0 (by omega) e19) (fun v_ h_ n_ q_ => ?_)
        obtain ⟨q1_, q2_, q3_⟩ := q_
        subst v_; subst h_; subst n_
        show WW W0 G 3 _ _ _ 59 [some (.ref l0), some (.ref a11), some (.int v9)] [] v18 n _ _
        obtain rfl := Option.some.inj hr
        exact rr_vret C dX3_strike_59 rfl ⟨rfl, rfl, rfl⟩
      · replace hr := (if_neg c26_).symm.trans hr
        refine rr_iload_n (i := 2) C dX3_strike_29 rfl rfl ?_
        refine rr_aload_n (i := 1) C dX3_strike_30 rfl rfl ?_
        replace hr := Option.bind_eq_some_iff.mp hr
        obtain ⟨v20, e21, hr⟩ := hr
        refine rr_rdI C dX3_strike_31 fl_X3_92 e21 ?_
        refine rr_icmp_ge (tgt := 55) C dX3_strike_34 (by decide) (fun c34_ => ?_) (fun c34_ => ?_)
        · replace hr := (if_pos c34_).symm.trans hr
          refine rr_aload_n (i := 0) C dX3_strike_55 rfl rfl ?_
          replace hr := Option.bind_eq_some_iff.mp hr
          obtain ⟨u22, e23, hr⟩ := hr
          replace hr := Option.bind_eq_some_iff.mp hr
          obtain ⟨v24, e25, hr⟩ := hr
          refine rr_callVq (as := []) (st := []) (mc' := 0) (ms' := 0) C dX3_strike_56 iv_X3_85 (by decide) e23 rfl (Nat.le_of_ble_eq_true rfl) (c_X3_fail l0 (by omega) e25) (fun v_ h_ n_ q_ => ?_)
          obtain ⟨q1_, q2_, q3_⟩ := q_
          subst v_; subst h_; subst n_
          show WW W0 G 3 _ _ _ 59 [some (.ref l0), some (.ref a11), some (.int v9)] [] v24 n _ _
          obtain rfl := Option.some.inj hr
          exact rr_vret C dX3_strike_59 rfl ⟨rfl, rfl, rfl⟩
        · replace hr := (if_neg c34_).symm.trans hr
          refine rr_iload_n (i := 2) C dX3_strike_37 rfl rfl ?_
          refine rr_aload_n (i := 0) C dX3_strike_38 rfl rfl ?_
          replace hr := Option.bind_eq_some_iff.mp hr
          obtain ⟨v26, e27, hr⟩ := hr
          refine rr_rdR C dX3_strike_39 fl_X3_22 e27 ?_
          replace hr := Option.bind_eq_some_iff.mp hr
          obtain ⟨a28, e29, hr⟩ := hr
          subst e29
          replace hr := Option.bind_eq_some_iff.mp hr
          obtain ⟨v30, e31, hr⟩ := hr
          refine rr_lenA C dX3_strike_42 e31 ?_
          refine rr_icmp_ge (tgt := 55) C dX3_strike_43 (by decide) (fun c43_ => ?_) (fun c43_ => ?_)
          · replace hr := (if_pos c43_).symm.trans hr
            refine rr_aload_n (i := 0) C dX3_strike_55 rfl rfl ?_
            replace hr := Option.bind_eq_some_iff.mp hr
            obtain ⟨u32, e33, hr⟩ := hr
            replace hr := Option.bind_eq_some_iff.mp hr
            obtain ⟨v34, e35, hr⟩ := hr
            refine rr_callVq (as := []) (st := []) (mc' := 0) (ms' := 0) C dX3_strike_56 iv_X3_85 (by decide) e33 rfl (Nat.le_of_ble_eq_true rfl) (c_X3_fail l0 (by omega) e35) (fun v_ h_ n_ q_ => ?_)
            obtain ⟨q1_, q2_, q3_⟩ := q_
            subst v_; subst h_; subst n_
            show WW W0 G 3 _ _ _ 59 [some (.ref l0), some (.ref a11), some (.int v9)] [] v34 n _ _
            obtain rfl := Option.some.inj hr
            exact rr_vret C dX3_strike_59 rfl ⟨rfl, rfl, rfl⟩
          · replace hr := (if_neg c43_).symm.trans hr
            refine rr_aload_n (i := 0) C dX3_strike_46 rfl rfl ?_
            replace hr := Option.bind_eq_some_iff.mp hr
            obtain ⟨v36, e37, hr⟩ := hr
            refine rr_rdR C dX3_strike_47 fl_X3_22 e37 ?_
            refine rr_iload_n (i := 2) C dX3_strike_50 rfl rfl ?_
            replace hr := Option.bind_eq_some_iff.mp hr
            obtain ⟨a38, e39, hr⟩ := hr
            subst e39
            replace hr := Option.bind_eq_some_iff.mp hr
            obtain ⟨v40, e41, hr⟩ := hr
            refine rr_ldI C dX3_strike_51 e41 ?_
            refine rr_if_eq (tgt := 60) C dX3_strike_52 (by decide) (fun c52_ => ?_) (fun c52_ => ?_)
            · replace hr := (if_pos c52_).symm.trans hr
              refine rr_aload_n (i := 0) C dX3_strike_60 rfl rfl ?_
              replace hr := Option.bind_eq_some_iff.mp hr
              obtain ⟨u42, e43, hr⟩ := hr
              replace hr := Option.bind_eq_some_iff.mp hr
              obtain ⟨v44, e45, hr⟩ := hr
              refine rr_callVq (as := []) (st := []) (mc' := 0) (ms' := 0) C dX3_strike_61 iv_X3_61 (by decide) e43 rfl (Nat.le_of_ble_eq_true rfl) (c_X3_step l0 (by omega) e45) (fun v_ h_ n_ q_ => ?_)
              obtain ⟨q1_, q2_, q3_⟩ := q_
              subst v_; subst h_; subst n_
              show WW W0 G 3 _ _ _ 64 [some (.ref l0), some (.ref a11), some (.int v9)] [] v44 n _ _
              refine rr_aload_n (i := 0) C dX3_strike_64 rfl rfl ?_
              refine rr_bipush (v := 59) C dX3_strike_65 (by decide) ?_
              replace hr := Option.bind_eq_some_iff.mp hr
              obtain ⟨u46, e47, hr⟩ := hr
              replace hr := Option.bind_eq_some_iff.mp hr
              obtain ⟨v48, e49, hr⟩ := hr
              refine rr_callVq (as := [.int 59]) (st := []) (mc' := 0) (ms' := 0) C dX3_strike_67 iv_X3_70 (by decide) e47 rfl (Nat.le_of_ble_eq_true rfl) (c_X3_sign l0 59 (by omega) e49) (fun v_ h_ n_ q_ => ?_)
              obtain ⟨q1_, q2_, q3_⟩ := q_
              subst v_; subst h_; subst n_
              show WW W0 G 3 _ _ _ 70 [some (.ref l0), some (.ref a11), some (.int v9)] [] v48 n _ _
              refine rr_aload_n (i := 0) C dX3_strike_70 rfl rfl ?_
              replace hr := Option.bind_eq_some_iff.mp hr
              obtain ⟨v50, e51, hr⟩ := hr
              refine rr_rdR C dX3_strike_71 fl_X3_22 e51 ?_
              refine rr_iload_n (i := 2) C dX3_strike_74 rfl rfl ?_
              refine rr_iconst (v := 1) C dX3_strike_75 (by decide) ?_
              replace hr := Option.bind_eq_some_iff.mp hr
              obtain ⟨a52, e53, hr⟩ := hr
              subst e53
              replace hr := Option.bind_eq_some_iff.mp hr
              obtain ⟨h54, e55, hr⟩ := hr
              refine rr_stI C dX3_strike_76 e55 ?_
              refine rr_aload_n (i := 0) C dX3_strike_77 rfl rfl ?_
              refine rr_dup C dX3_strike_78 rfl ?_
              replace hr := Option.bind_eq_some_iff.mp hr
              obtain ⟨v56, e57, hr⟩ := hr
              refine rr_rdI C dX3_strike_79 fl_X3_49 e57 ?_
              refine rr_iconst (v := 1) C dX3_strike_82 (by decide) ?_
              refine rr_iadd C dX3_strike_83 ?_
              replace hr := Option.bind_eq_some_iff.mp hr
              obtain ⟨h58, e59, hr⟩ := hr
              refine rr_wrF C dX3_strike_84 fp_X3_49 rfl rfl e59 ?_
              obtain rfl := Option.some.inj hr
              exact rr_vret C dX3_strike_87 rfl ⟨rfl, rfl, rfl⟩
            · replace hr := (if_neg c52_).symm.trans hr
              refine rr_aload_n (i := 0) C dX3_strike_55 rfl rfl ?_
              replace hr := Option.bind_eq_some_iff.mp hr
              obtain ⟨u60, e61, hr⟩ := hr
              replace hr := Option.bind_eq_some_iff.mp hr
              obtain ⟨v62, e63, hr⟩ := hr
              refine rr_callVq (as := []) (st := []) (mc' := 0) (ms' := 0) C dX3_strike_56 iv_X3_85 (by decide) e61 rfl (Nat.le_of_ble_eq_true rfl) (c_X3_fail l0 (by omega) e63) (fun v_ h_ n_ q_ => ?_)
              obtain ⟨q1_, q2_, q3_⟩ := q_
              subst v_; subst h_; subst n_
              show WW W0 G 3 _ _ _ 59 [some (.ref l0), some (.ref a11), some (.int v9)] [] v62 n _ _
              obtain rfl := Option.some.inj hr
              exact rr_vret C dX3_strike_59 rfl ⟨rfl, rfl, rfl⟩
def q_X3_number (K : Nat) (h : mm_H) (n : Nat) (l0 : Nat) (l1 : Int32) (l2 : Int32) : Option (Int32 × mm_H) :=
  (rdI h n l0 3 2).bind fun v1 =>
  if v1 = 2 then
    (ckq h n l0 3).bind fun u3 =>
    (q_X3_value K h n l0).bind fun v5 =>
    if v5 = (-1) then
      (ckq h n l0 3).bind fun u7 =>
      (q_X3_fail K h n l0).bind fun v9 =>
      some ((-1), v9)
    else
    if v5 < l1 then
      (ckq h n l0 3).bind fun u11 =>
      (q_X3_fail K h n l0).bind fun v13 =>
      some ((-1), v13)
    else
    if v5 ≤ l2 then
      (ckq h n l0 3).bind fun u15 =>
      (q_X3_step K h n l0).bind fun v17 =>
      some (v5, v17)
    else
    (ckq h n l0 3).bind fun u19 =>
    (q_X3_fail K h n l0).bind fun v21 =>
    some ((-1), v21)
  else
  (ckq h n l0 3).bind fun u23 =>
  (q_X3_fail K h n l0).bind fun v25 =>
  some ((-1), v25)
set_option maxRecDepth 100000 in
set_option maxHeartbeats 4000000 in
theorem c_X3_number {K : Nat} {G : mm_G} {l : Launch} {h : mm_H} {n : Nat} (l0 : Nat) (l1 : Int32) (l2 : Int32) {r_ : Int32 × mm_H} (hn : 32 ≤ n) (hr : q_X3_number K h n l0 l1 l2 = some r_) : Sp G l yX3_number cX3_number 4 (some .int) 2 0 0 [.ref l0, .int l1, .int l2] h n (fun v h' n' => v = some (.int r_.1) ∧ h' = r_.2 ∧ n' = n) := by
  refine Sp_of (by decide +kernel) (Nat.le_of_ble_eq_true rfl) hn ?_
  intro W0 hwl C
  subst hwl
  unfold q_X3_number at hr
  show WW W0 G 4 0 0 _ 0 [some (.ref l0), some (.int l1), some (.int l2), none] [] h n 0 0
  refine rr_aload_n (i := 0) C dX3_number_0 rfl rfl ?_
  replace hr := Option.bind_eq_some_iff.mp hr
  obtain ⟨v1, e2, hr⟩ := hr
  refine rr_rdI C dX3_number_1 fl_X3_74 e2 ?_
  refine rr_iconst (v := 2) C dX3_number_4 (by decide) ?_
  refine rr_icmp_ne (tgt := 15) C dX3_number_5 (by decide) (fun c5_ => ?_) (fun c5_ => ?_)
  · replace hr := (if_neg c5_).symm.trans hr
    refine rr_iconst (v := (-1)) C dX3_number_15 (by decide) ?_
    refine rr_istore_n (i := 3) C dX3_number_16 rfl (by decide) ?_
    show WW W0 G 4 _ _ _ 17 [some (.ref l0), some (.int l1), some (.int l2), some (.int (-1))] [] h n _ _
    refine rr_iload_n (i := 3) C dX3_number_17 rfl rfl ?_
    refine rr_iconst (v := (-1)) C dX3_number_18 (by decide) ?_
    refine rr_icmp_eq (tgt := 32) C dX3_number_19 (by decide) (fun _ => ?_) (fun q_ => absurd (by decide) q_)
    refine rr_aload_n (i := 0) C dX3_number_32 rfl rfl ?_
    replace hr := Option.bind_eq_some_iff.mp hr
    obtain ⟨u23, e24, hr⟩ := hr
    replace hr := Option.bind_eq_some_iff.mp hr
    obtain ⟨v25, e26, hr⟩ := hr
    refine rr_callVq (as := []) (st := []) (mc' := 0) (ms' := 0) C dX3_number_33 iv_X3_85 (by decide) e24 rfl (Nat.le_of_ble_eq_true rfl) (c_X3_fail l0 (by omega) e26) (fun v_ h_ n_ q_ => ?_)
    obtain ⟨q1_, q2_, q3_⟩ := q_
    subst v_; subst h_; subst n_
    show WW W0 G 4 _ _ _ 36 [some (.ref l0), some (.int l1), some (.int l2), some (.int (-1))] [] v25 n _ _
    refine rr_iconst (v := (-1)) C dX3_number_36 (by decide) ?_
    obtain rfl := Option.some.inj hr
    exact rr_iret (ty := .int) C dX3_number_37 rfl rfl ⟨rfl, rfl, rfl⟩
  · replace hr := (if_pos c5_).symm.trans hr
    refine rr_aload_n (i := 0) C dX3_number_8 rfl rfl ?_
    replace hr := Option.bind_eq_some_iff.mp hr
    obtain ⟨u3, e4, hr⟩ := hr
    replace hr := Option.bind_eq_some_iff.mp hr
    obtain ⟨v5, e6, hr⟩ := hr
    refine rr_callVq (as := []) (st := []) (mc' := 0) (ms' := 0) C dX3_number_9 iv_X3_108 (by decide) e4 rfl (Nat.le_of_ble_eq_true rfl) (c_X3_value l0 (by omega) e6) (fun v_ h_ n_ q_ => ?_)
    obtain ⟨q1_, q2_, q3_⟩ := q_
    subst v_; subst h_; subst n_
    show WW W0 G 4 _ _ _ 12 [some (.ref l0), some (.int l1), some (.int l2), none] [.int v5] h n _ _
    refine rr_goto (tgt := 16) C dX3_number_12 (by decide) ?_
    refine rr_istore_n (i := 3) C dX3_number_16 rfl (by decide) ?_
    show WW W0 G 4 _ _ _ 17 [some (.ref l0), some (.int l1), some (.int l2), some (.int v5)] [] h n _ _
    refine rr_iload_n (i := 3) C dX3_number_17 rfl rfl ?_
    refine rr_iconst (v := (-1)) C dX3_number_18 (by decide) ?_
    refine rr_icmp_eq (tgt := 32) C dX3_number_19 (by decide) (fun c19_ => ?_) (fun c19_ => ?_)
    · replace hr := (if_pos c19_).symm.trans hr
      refine rr_aload_n (i := 0) C dX3_number_32 rfl rfl ?_
      replace hr := Option.bind_eq_some_iff.mp hr
      obtain ⟨u7, e8, hr⟩ := hr
      replace hr := Option.bind_eq_some_iff.mp hr
      obtain ⟨v9, e10, hr⟩ := hr
      refine rr_callVq (as := []) (st := []) (mc' := 0) (ms' := 0) C dX3_number_33 iv_X3_85 (by decide) e8 rfl (Nat.le_of_ble_eq_true rfl) (c_X3_fail l0 (by omega) e10) (fun v_ h_ n_ q_ => ?_)
      obtain ⟨q1_, q2_, q3_⟩ := q_
      subst v_; subst h_; subst n_
      show WW W0 G 4 _ _ _ 36 [some (.ref l0), some (.int l1), some (.int l2), some (.int v5)] [] v9 n _ _
      refine rr_iconst (v := (-1)) C dX3_number_36 (by decide) ?_
      obtain rfl := Option.some.inj hr
      exact rr_iret (ty := .int) C dX3_number_37 rfl rfl ⟨rfl, rfl, rfl⟩
    · replace hr := (if_neg c19_).symm.trans hr
      refine rr_iload_n (i := 3) C dX3_number_22 rfl rfl ?_
      refine rr_iload_n (i := 1) C dX3_number_23 rfl rfl ?_
      refine rr_icmp_lt (tgt := 32) C dX3_number_24 (by decide) (fun c24_ => ?_) (fun c24_ => ?_)
      · replace hr := (if_pos c24_).symm.trans hr
        refine rr_aload_n (i := 0) C dX3_number_32 rfl rfl ?_
        replace hr := Option.bind_eq_some_iff.mp hr
        obtain ⟨u11, e12, hr⟩ := hr
        replace hr := Option.bind_eq_some_iff.mp hr
        obtain ⟨v13, e14, hr⟩ := hr
        refine rr_callVq (as := []) (st := []) (mc' := 0) (ms' := 0) C dX3_number_33 iv_X3_85 (by decide) e12 rfl (Nat.le_of_ble_eq_true rfl) (c_X3_fail l0 (by omega) e14) (fun v_ h_ n_ q_ => ?_)
        obtain ⟨q1_, q2_, q3_⟩ := q_
        subst v_; subst h_; subst n_
        show WW W0 G 4 _ _ _ 36 [some (.ref l0), some (.int l1), some (.int l2), some (.int v5)] [] v13 n _ _
        refine rr_iconst (v := (-1)) C dX3_number_36 (by decide) ?_
        obtain rfl := Option.some.inj hr
        exact rr_iret (ty := .int) C dX3_number_37 rfl rfl ⟨rfl, rfl, rfl⟩
      · replace hr := (if_neg c24_).symm.trans hr
        refine rr_iload_n (i := 3) C dX3_number_27 rfl rfl ?_
        refine rr_iload_n (i := 2) C dX3_number_28 rfl rfl ?_
        refine rr_icmp_le (tgt := 38) C dX3_number_29 (by decide) (fun c29_ => ?_) (fun c29_ => ?_)
        · replace hr := (if_pos c29_).symm.trans hr
          refine rr_aload_n (i := 0) C dX3_number_38 rfl rfl ?_
          replace hr := Option.bind_eq_some_iff.mp hr
          obtain ⟨u15, e16, hr⟩ := hr
          replace hr := Option.bind_eq_some_iff.mp hr
          obtain ⟨v17, e18, hr⟩ := hr
          refine rr_callVq (as := []) (st := []) (mc' := 0) (ms' := 0) C dX3_number_39 iv_X3_61 (by decide) e16 rfl (Nat.le_of_ble_eq_true rfl) (c_X3_step l0 (by omega) e18) (fun v_ h_ n_ q_ => ?_)
          obtain ⟨q1_, q2_, q3_⟩ := q_
          subst v_; subst h_; subst n_
          show WW W0 G 4 _ _ _ 42 [some (.ref l0), some (.int l1), some (.int l2), some (.int v5)] [] v17 n _ _
          refine rr_iload_n (i := 3) C dX3_number_42 rfl rfl ?_
          obtain rfl := Option.some.inj hr
          exact rr_iret (ty := .int) C dX3_number_43 rfl rfl ⟨rfl, rfl, rfl⟩
        · replace hr := (if_neg c29_).symm.trans hr
          refine rr_aload_n (i := 0) C dX3_number_32 rfl rfl ?_
          replace hr := Option.bind_eq_some_iff.mp hr
          obtain ⟨u19, e20, hr⟩ := hr
          replace hr := Option.bind_eq_some_iff.mp hr
          obtain ⟨v21, e22, hr⟩ := hr
          refine rr_callVq (as := []) (st := []) (mc' := 0) (ms' := 0) C dX3_number_33 iv_X3_85 (by decide) e20 rfl (Nat.le_of_ble_eq_true rfl) (c_X3_fail l0 (by omega) e22) (fun v_ h_ n_ q_ => ?_)
          obtain ⟨q1_, q2_, q3_⟩ := q_
          subst v_; subst h_; subst n_
          show WW W0 G 4 _ _ _ 36 [some (.ref l0), some (.int l1), some (.int l2), some (.int v5)] [] v21 n _ _
          refine rr_iconst (v := (-1)) C dX3_number_36 (by decide) ?_
          obtain rfl := Option.some.inj hr
          exact rr_iret (ty := .int) C dX3_number_37 rfl rfl ⟨rfl, rfl, rfl⟩
def q_X3_write (K : Nat) (h : mm_H) (n : Nat) (l0 : Nat) (l1 : Int32) : Option (mm_H) :=
  (rdI h n l0 3 11).bind fun v1 =>
  (rdR h n l0 3 10).bind fun v3 =>
  v3.bind fun a5 =>
  (lenA h n a5 0).bind fun v7 =>
  if v7 ≤ v1 then
    some h
  else
  (rdR h n l0 3 10).bind fun v9 =>
  (rdI h n l0 3 11).bind fun v11 =>
  v9.bind fun a13 =>
  (stI h n a13 v11 l1).bind fun h15 =>
  (rdI h15 n l0 3 11).bind fun v17 =>
  (wrF h15 n l0 3 11 (.int (v17 + 1))).bind fun h19 =>
  some h19
set_option maxRecDepth 100000 in
set_option maxHeartbeats 4000000 in
theorem c_X3_write {K : Nat} {G : mm_G} {l : Launch} {h : mm_H} {n : Nat} (l0 : Nat) (l1 : Int32) {r_ : mm_H} (hn : 32 ≤ n) (hr : q_X3_write K h n l0 l1 = some r_) : Sp G l yX3_write cX3_write 2 none 0 0 0 [.ref l0, .int l1] h n (fun v h' n' => v = none ∧ h' = r_ ∧ n' = n) := by
  refine Sp_of (by decide +kernel) (Nat.le_of_ble_eq_true rfl) hn ?_
  intro W0 hwl C
  subst hwl
  unfold q_X3_write at hr
  show WW W0 G 2 0 0 _ 0 [some (.ref l0), some (.int l1)] [] h n 0 0
  refine rr_aload_n (i := 0) C dX3_write_0 rfl rfl ?_
  replace hr := Option.bind_eq_some_iff.mp hr
  obtain ⟨v1, e2, hr⟩ := hr
  refine rr_rdI C dX3_write_1 fl_X3_119 e2 ?_
  refine rr_aload_n (i := 0) C dX3_write_4 rfl rfl ?_
  replace hr := Option.bind_eq_some_iff.mp hr
  obtain ⟨v3, e4, hr⟩ := hr
  refine rr_rdR C dX3_write_5 fl_X3_31 e4 ?_
  replace hr := Option.bind_eq_some_iff.mp hr
  obtain ⟨a5, e6, hr⟩ := hr
  subst e6
  replace hr := Option.bind_eq_some_iff.mp hr
  obtain ⟨v7, e8, hr⟩ := hr
  refine rr_lenA C dX3_write_8 e8 ?_
  refine rr_icmp_ge (tgt := 32) C dX3_write_9 (by decide) (fun c9_ => ?_) (fun c9_ => ?_)
  · replace hr := (if_pos c9_).symm.trans hr
    obtain rfl := Option.some.inj hr
    exact rr_vret C dX3_write_32 rfl ⟨rfl, rfl, rfl⟩
  · replace hr := (if_neg c9_).symm.trans hr
    refine rr_aload_n (i := 0) C dX3_write_12 rfl rfl ?_
    replace hr := Option.bind_eq_some_iff.mp hr
    obtain ⟨v9, e10, hr⟩ := hr
    refine rr_rdR C dX3_write_13 fl_X3_31 e10 ?_
    refine rr_aload_n (i := 0) C dX3_write_16 rfl rfl ?_
    replace hr := Option.bind_eq_some_iff.mp hr
    obtain ⟨v11, e12, hr⟩ := hr
    refine rr_rdI C dX3_write_17 fl_X3_119 e12 ?_
    refine rr_iload_n (i := 1) C dX3_write_20 rfl rfl ?_
    replace hr := Option.bind_eq_some_iff.mp hr
    obtain ⟨a13, e14, hr⟩ := hr
    subst e14
    replace hr := Option.bind_eq_some_iff.mp hr
    obtain ⟨h15, e16, hr⟩ := hr
    refine rr_stI C dX3_write_21 e16 ?_
    refine rr_aload_n (i := 0) C dX3_write_22 rfl rfl ?_
    refine rr_dup C dX3_write_23 rfl ?_
    replace hr := Option.bind_eq_some_iff.mp hr
    obtain ⟨v17, e18, hr⟩ := hr
    refine rr_rdI C dX3_write_24 fl_X3_119 e18 ?_
    refine rr_iconst (v := 1) C dX3_write_27 (by decide) ?_
    refine rr_iadd C dX3_write_28 ?_
    replace hr := Option.bind_eq_some_iff.mp hr
    obtain ⟨h19, e20, hr⟩ := hr
    refine rr_wrF C dX3_write_29 fp_X3_119 rfl rfl e20 ?_
    obtain rfl := Option.some.inj hr
    exact rr_vret C dX3_write_32 rfl ⟨rfl, rfl, rfl⟩
def q_X4_takeFirm (K : Nat) (h : mm_H) (n : Nat) (l0 : Nat) (l1 : Int32) : Option (Int32 × mm_H) :=
  (rdI h n l0 4 5).bind fun v1 =>
  if v1 < 11 then
    (rdR h n l0 4 0).bind fun v3 =>
    (rdI h n l0 4 5).bind fun v5 =>
    v3.bind fun a7 =>
    (stI h n a7 v5 l1).bind fun h9 =>
    (rdI h9 n l0 4 5).bind fun v11 =>
    (wrF h9 n l0 4 5 (.int (v11 + 1))).bind fun h13 =>
    (rdI h13 n l0 4 5).bind fun v15 =>
    some (v15 - 1, h13)
  else
  some ((-1), h)
set_option maxRecDepth 100000 in
set_option maxHeartbeats 4000000 in
theorem c_X4_takeFirm {K : Nat} {G : mm_G} {l : Launch} {h : mm_H} {n : Nat} (l0 : Nat) (l1 : Int32) {r_ : Int32 × mm_H} (hn : 32 ≤ n) (hr : q_X4_takeFirm K h n l0 l1 = some r_) : Sp G l yX4_takeFirm cX4_takeFirm 2 (some .int) 0 0 0 [.ref l0, .int l1] h n (fun v h' n' => v = some (.int r_.1) ∧ h' = r_.2 ∧ n' = n) := by
  refine Sp_of (by decide +kernel) (Nat.le_of_ble_eq_true rfl) hn ?_
  intro W0 hwl C
  subst hwl
  unfold q_X4_takeFirm at hr
  show WW W0 G 2 0 0 _ 0 [some (.ref l0), some (.int l1)] [] h n 0 0
  refine rr_aload_n (i := 0) C dX4_takeFirm_0 rfl rfl ?_
  replace hr := Option.bind_eq_some_iff.mp hr
  obtain ⟨v1, e2, hr⟩ := hr
  refine rr_rdI C dX4_takeFirm_1 fl_X4_39 e2 ?_
  refine rr_bipush (v := 11) C dX4_takeFirm_4 (by decide) ?_
  refine rr_icmp_lt (tgt := 11) C dX4_takeFirm_6 (by decide) (fun c6_ => ?_) (fun c6_ => ?_)
  · replace hr := (if_pos c6_).symm.trans hr
    refine rr_aload_n (i := 0) C dX4_takeFirm_11 rfl rfl ?_
    replace hr := Option.bind_eq_some_iff.mp hr
    obtain ⟨v3, e4, hr⟩ := hr
    refine rr_rdR C dX4_takeFirm_12 fl_X4_9 e4 ?_
    refine rr_aload_n (i := 0) C dX4_takeFirm_15 rfl rfl ?_
    replace hr := Option.bind_eq_some_iff.mp hr
    obtain ⟨v5, e6, hr⟩ := hr
    refine rr_rdI C dX4_takeFirm_16 fl_X4_39 e6 ?_
    refine rr_iload_n (i := 1) C dX4_takeFirm_19 rfl rfl ?_
    replace hr := Option.bind_eq_some_iff.mp hr
    obtain ⟨a7, e8, hr⟩ := hr
    subst e8
    replace hr := Option.bind_eq_some_iff.mp hr
    obtain ⟨h9, e10, hr⟩ := hr
    refine rr_stI C dX4_takeFirm_20 e10 ?_
    refine rr_aload_n (i := 0) C dX4_takeFirm_21 rfl rfl ?_
    refine rr_dup C dX4_takeFirm_22 rfl ?_
    replace hr := Option.bind_eq_some_iff.mp hr
    obtain ⟨v11, e12, hr⟩ := hr
    refine rr_rdI C dX4_takeFirm_23 fl_X4_39 e12 ?_
    refine rr_iconst (v := 1) C dX4_takeFirm_26 (by decide) ?_
    refine rr_iadd C dX4_takeFirm_27 ?_
    replace hr := Option.bind_eq_some_iff.mp hr
    obtain ⟨h13, e14, hr⟩ := hr
    refine rr_wrF C dX4_takeFirm_28 fp_X4_39 rfl rfl e14 ?_
    refine rr_aload_n (i := 0) C dX4_takeFirm_31 rfl rfl ?_
    replace hr := Option.bind_eq_some_iff.mp hr
    obtain ⟨v15, e16, hr⟩ := hr
    refine rr_rdI C dX4_takeFirm_32 fl_X4_39 e16 ?_
    refine rr_iconst (v := 1) C dX4_takeFirm_35 (by decide) ?_
    refine rr_isub C dX4_takeFirm_36 ?_
    obtain rfl := Option.some.inj hr
    exact rr_iret (ty := .int) C dX4_takeFirm_37 rfl rfl ⟨rfl, rfl, rfl⟩
  · replace hr := (if_neg c6_).symm.trans hr
    refine rr_iconst (v := (-1)) C dX4_takeFirm_9 (by decide) ?_
    obtain rfl := Option.some.inj hr
    exact rr_iret (ty := .int) C dX4_takeFirm_10 rfl rfl ⟨rfl, rfl, rfl⟩
def q_X4_firstWorthOf (K : Nat) (h : mm_H) (n : Nat) (l0 : Nat) (l1 : Int32) : Option (Int32) :=
  if l1 < 0 then
    some 0
  else
  if 11 ≤ l1 then
    some 0
  else
  (rdR h n l0 4 0).bind fun v1 =>
  v1.bind fun a3 =>
  (ldI h n a3 l1).bind fun v5 =>
  some v5
set_option maxRecDepth 100000 in
set_option maxHeartbeats 4000000 in
theorem c_X4_firstWorthOf {K : Nat} {G : mm_G} {l : Launch} {h : mm_H} {n : Nat} (l0 : Nat) (l1 : Int32) {r_ : Int32} (hn : 32 ≤ n) (hr : q_X4_firstWorthOf K h n l0 l1 = some r_) : Sp G l yX4_firstWorthOf cX4_firstWorthOf 2 (some .int) 0 0 0 [.ref l0, .int l1] h n (fun v h' n' => v = some (.int r_) ∧ h' = h ∧ n' = n) := by
  refine Sp_of (by decide +kernel) (Nat.le_of_ble_eq_true rfl) hn ?_
  intro W0 hwl C
  subst hwl
  unfold q_X4_firstWorthOf at hr
  show WW W0 G 2 0 0 _ 0 [some (.ref l0), some (.int l1)] [] h n 0 0
  refine rr_iload_n (i := 1) C dX4_firstWorthOf_0 rfl rfl ?_
  refine rr_if_lt (tgt := 19) C dX4_firstWorthOf_1 (by decide) (fun c1_ => ?_) (fun c1_ => ?_)
  · replace hr := (if_pos c1_).symm.trans hr
    refine rr_iconst (v := 0) C dX4_firstWorthOf_19 (by decide) ?_
    obtain rfl := Option.some.inj hr
    exact rr_iret (ty := .int) C dX4_firstWorthOf_20 rfl rfl ⟨rfl, rfl, rfl⟩
  · replace hr := (if_neg c1_).symm.trans hr
    refine rr_iload_n (i := 1) C dX4_firstWorthOf_4 rfl rfl ?_
    refine rr_bipush (v := 11) C dX4_firstWorthOf_5 (by decide) ?_
    refine rr_icmp_ge (tgt := 19) C dX4_firstWorthOf_7 (by decide) (fun c7_ => ?_) (fun c7_ => ?_)
    · replace hr := (if_pos c7_).symm.trans hr
      refine rr_iconst (v := 0) C dX4_firstWorthOf_19 (by decide) ?_
      obtain rfl := Option.some.inj hr
      exact rr_iret (ty := .int) C dX4_firstWorthOf_20 rfl rfl ⟨rfl, rfl, rfl⟩
    · replace hr := (if_neg c7_).symm.trans hr
      refine rr_aload_n (i := 0) C dX4_firstWorthOf_10 rfl rfl ?_
      replace hr := Option.bind_eq_some_iff.mp hr
      obtain ⟨v1, e2, hr⟩ := hr
      refine rr_rdR C dX4_firstWorthOf_11 fl_X4_9 e2 ?_
      refine rr_iload_n (i := 1) C dX4_firstWorthOf_14 rfl rfl ?_
      replace hr := Option.bind_eq_some_iff.mp hr
      obtain ⟨a3, e4, hr⟩ := hr
      subst e4
      replace hr := Option.bind_eq_some_iff.mp hr
      obtain ⟨v5, e6, hr⟩ := hr
      refine rr_ldI C dX4_firstWorthOf_15 e6 ?_
      refine rr_goto (tgt := 20) C dX4_firstWorthOf_16 (by decide) ?_
      obtain rfl := Option.some.inj hr
      exact rr_iret (ty := .int) C dX4_firstWorthOf_20 rfl rfl ⟨rfl, rfl, rfl⟩
def q_X4_homesOf (K : Nat) (h : mm_H) (n : Nat) (l0 : Nat) (l1 : Int32) (l2 : Int32) (l3 : Int32) (l4 : Int32) : Option (Int32) :=
  (rdR h n l0 4 1).bind fun v1 =>
  v1.bind fun a3 =>
  (ckq h n a3 0).bind fun u5 =>
  (q_X0_knownBy K h n a3 l2 l3 (11 + l1) l4).bind fun v7 =>
  some (i_max 0 v7)
set_option maxRecDepth 100000 in
set_option maxHeartbeats 4000000 in
theorem c_X4_homesOf {K : Nat} {G : mm_G} {l : Launch} {h : mm_H} {n : Nat} (l0 : Nat) (l1 : Int32) (l2 : Int32) (l3 : Int32) (l4 : Int32) {r_ : Int32} (hn : 32 ≤ n) (hr : q_X4_homesOf K h n l0 l1 l2 l3 l4 = some r_) : Sp G l yX4_homesOf cX4_homesOf 5 (some .int) 2 0 0 [.ref l0, .int l1, .int l2, .int l3, .int l4] h n (fun v h' n' => v = some (.int r_) ∧ h' = h ∧ n' = n) := by
  refine Sp_of (by decide +kernel) (Nat.le_of_ble_eq_true rfl) hn ?_
  intro W0 hwl C
  subst hwl
  unfold q_X4_homesOf at hr
  show WW W0 G 5 0 0 _ 0 [some (.ref l0), some (.int l1), some (.int l2), some (.int l3), some (.int l4)] [] h n 0 0
  refine rr_iconst (v := 0) C dX4_homesOf_0 (by decide) ?_
  refine rr_aload_n (i := 0) C dX4_homesOf_1 rfl rfl ?_
  replace hr := Option.bind_eq_some_iff.mp hr
  obtain ⟨v1, e2, hr⟩ := hr
  refine rr_rdR C dX4_homesOf_2 fl_X4_18 e2 ?_
  refine rr_iload_n (i := 2) C dX4_homesOf_5 rfl rfl ?_
  refine rr_iload_n (i := 3) C dX4_homesOf_6 rfl rfl ?_
  refine rr_bipush (v := 11) C dX4_homesOf_7 (by decide) ?_
  refine rr_iload_n (i := 1) C dX4_homesOf_9 rfl rfl ?_
  refine rr_iadd C dX4_homesOf_10 ?_
  refine rr_iload C dX4_homesOf_11 rfl ?_
  replace hr := Option.bind_eq_some_iff.mp hr
  obtain ⟨a3, e4, hr⟩ := hr
  subst e4
  replace hr := Option.bind_eq_some_iff.mp hr
  obtain ⟨u5, e6, hr⟩ := hr
  replace hr := Option.bind_eq_some_iff.mp hr
  obtain ⟨v7, e8, hr⟩ := hr
  refine rr_callVq (as := [.int l2, .int l3, .int (11 + l1), .int l4]) (st := [.int 0]) (mc' := 0) (ms' := 0) C dX4_homesOf_13 iv_X4_43 (by decide) e6 rfl (Nat.le_of_ble_eq_true rfl) (c_X0_knownBy a3 l2 l3 (11 + l1) l4 (by omega) e8) (fun v_ h_ n_ q_ => ?_)
  obtain ⟨q1_, q2_, q3_⟩ := q_
  subst v_; subst h_; subst n_
  show WW W0 G 5 _ _ _ 16 [some (.ref l0), some (.int l1), some (.int l2), some (.int l3), some (.int l4)] [.int v7, .int 0] h n _ _
  refine rr_mmax C dX4_homesOf_16 ma_X4_47 (by decide) (Nat.le_of_ble_eq_true rfl) ?_
  obtain rfl := Option.some.inj hr
  exact rr_iret (ty := .int) C dX4_homesOf_19 rfl rfl ⟨rfl, rfl, rfl⟩
def q_X4_partsOf (K : Nat) (h : mm_H) (n : Nat) (l0 : Nat) (l1 : Int32) : Option (Int64) :=
  if l1 < 0 then
    some 0
  else
  (lenA h n 1 0).bind fun v1 =>
  if v1 ≤ l1 then
    some 0
  else
  (ldI h n 1 l1).bind fun v3 =>
  some (Int32.toInt64 v3)
set_option maxRecDepth 100000 in
set_option maxHeartbeats 4000000 in
theorem c_X4_partsOf {K : Nat} {G : mm_G} {l : Launch} {h : mm_H} {n : Nat} (l0 : Nat) (l1 : Int32) {r_ : Int64} (hn : 32 ≤ n) (hr : q_X4_partsOf K h n l0 l1 = some r_) : Sp G l yX4_partsOf cX4_partsOf 2 (some .long) 0 0 0 [.ref l0, .int l1] h n (fun v h' n' => v = some (.long r_) ∧ h' = h ∧ n' = n) := by
  refine Sp_of (by decide +kernel) (Nat.le_of_ble_eq_true rfl) hn ?_
  intro W0 hwl C
  subst hwl
  unfold q_X4_partsOf at hr
  show WW W0 G 2 0 0 _ 0 [some (.ref l0), some (.int l1)] [] h n 0 0
  refine rr_iload_n (i := 1) C dX4_partsOf_0 rfl rfl ?_
  refine rr_if_lt (tgt := 21) C dX4_partsOf_1 (by decide) (fun c1_ => ?_) (fun c1_ => ?_)
  · replace hr := (if_pos c1_).symm.trans hr
    refine rr_lconst (v := 0) C dX4_partsOf_21 (by decide) ?_
    obtain rfl := Option.some.inj hr
    exact rr_lret C dX4_partsOf_22 rfl ⟨rfl, rfl, rfl⟩
  · replace hr := (if_neg c1_).symm.trans hr
    refine rr_iload_n (i := 1) C dX4_partsOf_4 rfl rfl ?_
    refine rr_getsP C dX4_partsOf_5 ns_X4_66 ?_
    replace hr := Option.bind_eq_some_iff.mp hr
    obtain ⟨v1, e2, hr⟩ := hr
    refine rr_lenA C dX4_partsOf_8 e2 ?_
    refine rr_icmp_ge (tgt := 21) C dX4_partsOf_9 (by decide) (fun c9_ => ?_) (fun c9_ => ?_)
    · replace hr := (if_pos c9_).symm.trans hr
      refine rr_lconst (v := 0) C dX4_partsOf_21 (by decide) ?_
      obtain rfl := Option.some.inj hr
      exact rr_lret C dX4_partsOf_22 rfl ⟨rfl, rfl, rfl⟩
    · replace hr := (if_neg c9_).symm.trans hr
      refine rr_getsP C dX4_partsOf_12 ns_X4_66 ?_
      refine rr_iload_n (i := 1) C dX4_partsOf_15 rfl rfl ?_
      replace hr := Option.bind_eq_some_iff.mp hr
      obtain ⟨v3, e4, hr⟩ := hr
      refine rr_ldI C dX4_partsOf_16 e4 ?_
      refine rr_i2l C dX4_partsOf_17 ?_
      refine rr_goto (tgt := 22) C dX4_partsOf_18 (by decide) ?_
      obtain rfl := Option.some.inj hr
      exact rr_lret C dX4_partsOf_22 rfl ⟨rfl, rfl, rfl⟩
def q_X8_cut (K : Nat) (h : mm_H) (n : Nat) (l0 : Int64) (l2 : Int64) : Option (Int64) :=
  if (lg_cmp l2 0) = 0 then
    some 0
  else
  if l2 = 0 then none else
  some (l0 / l2)
set_option maxRecDepth 100000 in
set_option maxHeartbeats 4000000 in
theorem c_X8_cut {K : Nat} {G : mm_G} {l : Launch} {h : mm_H} {n : Nat} (l0 : Int64) (l2 : Int64) {r_ : Int64} (hn : 32 ≤ n) (hr : q_X8_cut K h n l0 l2 = some r_) : Sp G l yX8_cut cX8_cut 4 (some .long) 0 0 0 [.long l0, .long l2] h n (fun v h' n' => v = some (.long r_) ∧ h' = h ∧ n' = n) := by
  refine Sp_of (by decide +kernel) (Nat.le_of_ble_eq_true rfl) hn ?_
  intro W0 hwl C
  subst hwl
  unfold q_X8_cut at hr
  show WW W0 G 4 0 0 _ 0 [some (.long l0), none, some (.long l2), none] [] h n 0 0
  refine rr_lload_n (i := 2) C dX8_cut_0 rfl rfl ?_
  refine rr_lconst (v := 0) C dX8_cut_1 (by decide) ?_
  refine rr_lcmp C dX8_cut_2 ?_
  refine rr_if_ne (tgt := 10) C dX8_cut_3 (by decide) (fun c3_ => ?_) (fun c3_ => ?_)
  · replace hr := (if_neg c3_).symm.trans hr
    refine rr_lload_n (i := 0) C dX8_cut_10 rfl rfl ?_
    refine rr_lload_n (i := 2) C dX8_cut_11 rfl rfl ?_
    by_cases z1 : l2 = 0
    · replace hr := (if_pos z1).symm.trans hr
      cases hr
    replace hr := (if_neg z1).symm.trans hr
    refine rr_ldiv C dX8_cut_12 z1 ?_
    obtain rfl := Option.some.inj hr
    exact rr_lret C dX8_cut_13 rfl ⟨rfl, rfl, rfl⟩
  · replace hr := (if_pos c3_).symm.trans hr
    refine rr_lconst (v := 0) C dX8_cut_6 (by decide) ?_
    refine rr_goto (tgt := 13) C dX8_cut_7 (by decide) ?_
    obtain rfl := Option.some.inj hr
    exact rr_lret C dX8_cut_13 rfl ⟨rfl, rfl, rfl⟩
def lp_X4_partOf_6 (K : Nat) (h : mm_H) (n : Nat) (l0 : Nat) (l1 : Int64) (l3 : Int32) (l4 : Int32) (l5 : Int32) (l6 : Int32) : Nat → Int64 → Int32 → Option (Int64)
  | 0, _, _ => none
  | k_ + 1, l7, l9 =>
    if 3 ≤ l9 then
      some (l7)
    else
    (ckq h n l0 4).bind fun u1 =>
    (q_X4_partsOf K h n l0 l9).bind fun v3 =>
    (ckq h n l0 4).bind fun u5 =>
    (q_X4_homesOf K h n l0 l9 l4 l5 l6).bind fun v7 =>
    lp_X4_partOf_6 K h n l0 l1 l3 l4 l5 l6 k_ (l7 + (v3 * (Int32.toInt64 v7))) (l9 + 1)
def q_X4_partOf (K : Nat) (h : mm_H) (n : Nat) (l0 : Nat) (l1 : Int64) (l3 : Int32) (l4 : Int32) (l5 : Int32) (l6 : Int32) : Option (Int64) :=
  (lp_X4_partOf_6 K h n l0 l1 l3 l4 l5 l6 K 0 0).bind fun v10 =>
  (ckq h n l0 4).bind fun u12 =>
  (q_X4_partsOf K h n l0 l3).bind fun v14 =>
  (q_X8_cut K h n (l1 * v14) v10).bind fun v16 =>
  some v16
set_option maxRecDepth 100000 in
set_option maxHeartbeats 4000000 in
theorem w_X4_partOf_6 {K : Nat} {W0 : mm_X} {G : mm_G} {mc ms kc ks : Nat} {Q_ : State → Prop} {h : mm_H} {n : Nat} (C : mm_C W0 G cX4_partOf yX4_partOf.cls 10 mc ms (some .long) 3 yX4_partOf.name) (hn : 32 ≤ n) (l0 : Nat) (l1 : Int64) (l3 : Int32) (l4 : Int32) (l5 : Int32) (l6 : Int32) : ∀ (k_ : Nat) (l7 : Int64) (l9 : Int32) {r_ : Int64} (hr : lp_X4_partOf_6 K h n l0 l1 l3 l4 l5 l6 k_ l7 l9 = some r_) (hx0 : WW W0 G 10 mc ms Q_ 43 [some (.ref l0), some (.long l1), none, some (.int l3), none, none, none, some (.long r_), none, none] [] h n kc ks), WW W0 G 10 mc ms Q_ 6 [some (.ref l0), some (.long l1), none, some (.int l3), some (.int l4), some (.int l5), some (.int l6), some (.long l7), none, some (.int l9)] [] h n kc ks := by
  intro k_
  induction k_ with
  | zero =>
    intro l7 l9 r_ hr
    cases hr
  | succ k_ ih_ =>
    intro l7 l9 r_ hr hx0
    unfold lp_X4_partOf_6 at hr
    refine rr_iload C dX4_partOf_6 rfl ?_
    refine rr_iconst (v := 3) C dX4_partOf_8 (by decide) ?_
    refine rr_icmp_ge (tgt := 43) C dX4_partOf_9 (by decide) (fun c9_ => ?_) (fun c9_ => ?_)
    · replace hr := (if_pos c9_).symm.trans hr
      obtain rfl := Option.some.inj hr
      exact rr_keep [true, true, false, true, false, false, false, true, false, false] (hx0)
    · replace hr := (if_neg c9_).symm.trans hr
      refine rr_lload C dX4_partOf_12 rfl ?_
      refine rr_aload_n (i := 0) C dX4_partOf_14 rfl rfl ?_
      refine rr_iload C dX4_partOf_15 rfl ?_
      replace hr := Option.bind_eq_some_iff.mp hr
      obtain ⟨u1, e2, hr⟩ := hr
      replace hr := Option.bind_eq_some_iff.mp hr
      obtain ⟨v3, e4, hr⟩ := hr
      refine rr_callVq (as := [.int l9]) (st := [.long l7]) (mc' := 0) (ms' := 0) C dX4_partOf_17 iv_X4_53 (by decide) e2 rfl (Nat.le_of_ble_eq_true rfl) (c_X4_partsOf l0 l9 (by omega) e4) (fun v_ h_ n_ q_ => ?_)
      obtain ⟨q1_, q2_, q3_⟩ := q_
      subst v_; subst h_; subst n_
      show WW W0 G 10 _ _ _ 20 [some (.ref l0), some (.long l1), none, some (.int l3), some (.int l4), some (.int l5), some (.int l6), some (.long l7), none, some (.int l9)] [.long v3, .long l7] h n _ _
      refine rr_aload_n (i := 0) C dX4_partOf_20 rfl rfl ?_
      refine rr_iload C dX4_partOf_21 rfl ?_
      refine rr_iload C dX4_partOf_23 rfl ?_
      refine rr_iload C dX4_partOf_25 rfl ?_
      refine rr_iload C dX4_partOf_27 rfl ?_
      replace hr := Option.bind_eq_some_iff.mp hr
      obtain ⟨u5, e6, hr⟩ := hr
      replace hr := Option.bind_eq_some_iff.mp hr
      obtain ⟨v7, e8, hr⟩ := hr
      refine rr_callVq (as := [.int l9, .int l4, .int l5, .int l6]) (st := [.long v3, .long l7]) (mc' := 0) (ms' := 0) C dX4_partOf_29 iv_X4_57 (by decide) e6 rfl (Nat.le_of_ble_eq_true rfl) (c_X4_homesOf l0 l9 l4 l5 l6 (by omega) e8) (fun v_ h_ n_ q_ => ?_)
      obtain ⟨q1_, q2_, q3_⟩ := q_
      subst v_; subst h_; subst n_
      show WW W0 G 10 _ _ _ 32 [some (.ref l0), some (.long l1), none, some (.int l3), some (.int l4), some (.int l5), some (.int l6), some (.long l7), none, some (.int l9)] [.int v7, .long v3, .long l7] h n _ _
      refine rr_i2l C dX4_partOf_32 ?_
      refine rr_lmul C dX4_partOf_33 ?_
      refine rr_ladd C dX4_partOf_34 ?_
      refine rr_lstore C dX4_partOf_35 (by decide) ?_
      show WW W0 G 10 _ _ _ 37 [some (.ref l0), some (.long l1), none, some (.int l3), some (.int l4), some (.int l5), some (.int l6), some (.long (l7 + (v3 * (Int32.toInt64 v7)))), none, some (.int l9)] [] h n _ _
      refine rr_iinc (v := l9 + 1) C dX4_partOf_37 rfl rfl ?_
      show WW W0 G 10 _ _ _ 40 [some (.ref l0), some (.long l1), none, some (.int l3), some (.int l4), some (.int l5), some (.int l6), some (.long (l7 + (v3 * (Int32.toInt64 v7)))), none, some (.int (l9 + 1))] [] h n _ _
      refine rr_goto (tgt := 6) C dX4_partOf_40 (by decide) ?_
      exact rr_keep [true, true, false, true, true, true, true, true, false, true] (ih_ _ _ hr hx0)
set_option maxRecDepth 100000 in
set_option maxHeartbeats 4000000 in
theorem c_X4_partOf {K : Nat} {G : mm_G} {l : Launch} {h : mm_H} {n : Nat} (l0 : Nat) (l1 : Int64) (l3 : Int32) (l4 : Int32) (l5 : Int32) (l6 : Int32) {r_ : Int64} (hn : 32 ≤ n) (hr : q_X4_partOf K h n l0 l1 l3 l4 l5 l6 = some r_) : Sp G l yX4_partOf cX4_partOf 10 (some .long) 3 0 0 [.ref l0, .long l1, .int l3, .int l4, .int l5, .int l6] h n (fun v h' n' => v = some (.long r_) ∧ h' = h ∧ n' = n) := by
  refine Sp_of (by decide +kernel) (Nat.le_of_ble_eq_true rfl) hn ?_
  intro W0 hwl C
  subst hwl
  unfold q_X4_partOf at hr
  show WW W0 G 10 0 0 _ 0 [some (.ref l0), some (.long l1), none, some (.int l3), some (.int l4), some (.int l5), some (.int l6), none, none, none] [] h n 0 0
  refine rr_lconst (v := 0) C dX4_partOf_0 (by decide) ?_
  refine rr_lstore C dX4_partOf_1 (by decide) ?_
  show WW W0 G 10 _ _ _ 3 [some (.ref l0), some (.long l1), none, some (.int l3), some (.int l4), some (.int l5), some (.int l6), some (.long 0), none, none] [] h n _ _
  refine rr_iconst (v := 0) C dX4_partOf_3 (by decide) ?_
  refine rr_istore C dX4_partOf_4 (by decide) ?_
  show WW W0 G 10 _ _ _ 6 [some (.ref l0), some (.long l1), none, some (.int l3), some (.int l4), some (.int l5), some (.int l6), some (.long 0), none, some (.int 0)] [] h n _ _
  replace hr := Option.bind_eq_some_iff.mp hr
  obtain ⟨v10, e11, hr⟩ := hr
  refine rr_keep [true, true, false, true, true, true, true, true, false, true] (w_X4_partOf_6 C (by omega) l0 l1 l3 l4 l5 l6 K 0 0 e11 ?_)
  show WW W0 G 10 _ _ _ 43 [some (.ref l0), some (.long l1), none, some (.int l3), none, none, none, some (.long v10), none, none] [] h n _ _
  refine rr_lload_n (i := 1) C dX4_partOf_43 rfl rfl ?_
  refine rr_aload_n (i := 0) C dX4_partOf_44 rfl rfl ?_
  refine rr_iload_n (i := 3) C dX4_partOf_45 rfl rfl ?_
  replace hr := Option.bind_eq_some_iff.mp hr
  obtain ⟨u12, e13, hr⟩ := hr
  replace hr := Option.bind_eq_some_iff.mp hr
  obtain ⟨v14, e15, hr⟩ := hr
  refine rr_callVq (as := [.int l3]) (st := [.long l1]) (mc' := 0) (ms' := 0) C dX4_partOf_46 iv_X4_53 (by decide) e13 rfl (Nat.le_of_ble_eq_true rfl) (c_X4_partsOf l0 l3 (by omega) e15) (fun v_ h_ n_ q_ => ?_)
  obtain ⟨q1_, q2_, q3_⟩ := q_
  subst v_; subst h_; subst n_
  show WW W0 G 10 _ _ _ 49 [some (.ref l0), some (.long l1), none, some (.int l3), none, none, none, some (.long v10), none, none] [.long v14, .long l1] h n _ _
  refine rr_lmul C dX4_partOf_49 ?_
  refine rr_lload C dX4_partOf_50 rfl ?_
  replace hr := Option.bind_eq_some_iff.mp hr
  obtain ⟨v16, e17, hr⟩ := hr
  refine rr_callS (as := [.long (l1 * v14), .long v10]) (st := []) (mc' := 0) (ms' := 0) C dX4_partOf_52 it_X4_60 (by decide) (Nat.le_of_ble_eq_true rfl) (c_X8_cut (l1 * v14) v10 (by omega) e17) (fun v_ h_ n_ q_ => ?_)
  obtain ⟨q1_, q2_, q3_⟩ := q_
  subst v_; subst h_; subst n_
  show WW W0 G 10 _ _ _ 55 [some (.ref l0), some (.long l1), none, some (.int l3), none, none, none, some (.long v10), none, none] [.long v16] h n _ _
  obtain rfl := Option.some.inj hr
  exact rr_lret C dX4_partOf_55 rfl ⟨rfl, rfl, rfl⟩
def q_X5_slotOf (K : Nat) (h : mm_H) (n : Nat) (l0 : Int32) (l1 : Int32) : Option (Int32) :=
  if l0 = 0 then
    some l1
  else
  if l0 = 1 then
    some (4 + l1)
  else
  if l0 = 2 then
    some (8 + l1)
  else
  some ((11 + l0) - 3)
set_option maxRecDepth 100000 in
set_option maxHeartbeats 4000000 in
theorem c_X5_slotOf {K : Nat} {G : mm_G} {l : Launch} {h : mm_H} {n : Nat} (l0 : Int32) (l1 : Int32) {r_ : Int32} (hn : 32 ≤ n) (hr : q_X5_slotOf K h n l0 l1 = some r_) : Sp G l yX5_slotOf cX5_slotOf 2 (some .int) 0 0 0 [.int l0, .int l1] h n (fun v h' n' => v = some (.int r_) ∧ h' = h ∧ n' = n) := by
  refine Sp_of (by decide +kernel) (Nat.le_of_ble_eq_true rfl) hn ?_
  intro W0 hwl C
  subst hwl
  unfold q_X5_slotOf at hr
  show WW W0 G 2 0 0 _ 0 [some (.int l0), some (.int l1)] [] h n 0 0
  refine rr_iload_n (i := 0) C dX5_slotOf_0 rfl rfl ?_
  by_cases s1_0 : l0 = 0
  · replace hr := (if_pos s1_0).symm.trans hr
    refine rr_tabIn (off := 27) (tgt := 28) C dX5_slotOf_1 (by rw [s1_0]; decide) (by rw [s1_0]; decide) (by rw [s1_0]; rfl) (by decide) ?_
    refine rr_iload_n (i := 1) C dX5_slotOf_28 rfl rfl ?_
    obtain rfl := Option.some.inj hr
    exact rr_iret (ty := .int) C dX5_slotOf_29 rfl rfl ⟨rfl, rfl, rfl⟩
  replace hr := (if_neg s1_0).symm.trans hr
  by_cases s1_1 : l0 = 1
  · replace hr := (if_pos s1_1).symm.trans hr
    refine rr_tabIn (off := 29) (tgt := 30) C dX5_slotOf_1 (by rw [s1_1]; decide) (by rw [s1_1]; decide) (by rw [s1_1]; rfl) (by decide) ?_
    refine rr_iconst (v := 4) C dX5_slotOf_30 (by decide) ?_
    refine rr_iload_n (i := 1) C dX5_slotOf_31 rfl rfl ?_
    refine rr_iadd C dX5_slotOf_32 ?_
    obtain rfl := Option.some.inj hr
    exact rr_iret (ty := .int) C dX5_slotOf_33 rfl rfl ⟨rfl, rfl, rfl⟩
  replace hr := (if_neg s1_1).symm.trans hr
  by_cases s1_2 : l0 = 2
  · replace hr := (if_pos s1_2).symm.trans hr
    refine rr_tabIn (off := 33) (tgt := 34) C dX5_slotOf_1 (by rw [s1_2]; decide) (by rw [s1_2]; decide) (by rw [s1_2]; rfl) (by decide) ?_
    refine rr_bipush (v := 8) C dX5_slotOf_34 (by decide) ?_
    refine rr_iload_n (i := 1) C dX5_slotOf_36 rfl rfl ?_
    refine rr_iadd C dX5_slotOf_37 ?_
    obtain rfl := Option.some.inj hr
    exact rr_iret (ty := .int) C dX5_slotOf_38 rfl rfl ⟨rfl, rfl, rfl⟩
  replace hr := (if_neg s1_2).symm.trans hr
  refine rr_tabOut (tgt := 39) C dX5_slotOf_1 (by have t0 : ¬ Int32.toInt l0 = 0 := (fun q => s1_0 (Int32.toInt_inj.mp (show Int32.toInt l0 = (0 : Int32).toInt from q))); have t1 : ¬ Int32.toInt l0 = 1 := (fun q => s1_1 (Int32.toInt_inj.mp (show Int32.toInt l0 = (1 : Int32).toInt from q))); have t2 : ¬ Int32.toInt l0 = 2 := (fun q => s1_2 (Int32.toInt_inj.mp (show Int32.toInt l0 = (2 : Int32).toInt from q))); omega) (by decide) ?_
  refine rr_bipush (v := 11) C dX5_slotOf_39 (by decide) ?_
  refine rr_iload_n (i := 0) C dX5_slotOf_41 rfl rfl ?_
  refine rr_iadd C dX5_slotOf_42 ?_
  refine rr_iconst (v := 3) C dX5_slotOf_43 (by decide) ?_
  refine rr_isub C dX5_slotOf_44 ?_
  obtain rfl := Option.some.inj hr
  exact rr_iret (ty := .int) C dX5_slotOf_45 rfl rfl ⟨rfl, rfl, rfl⟩
def q_X5_slot (K : Nat) (h : mm_H) (n : Nat) (l0 : Nat) : Option (Int32) :=
  (rdI h n l0 5 0).bind fun v1 =>
  (rdI h n l0 5 1).bind fun v3 =>
  (q_X5_slotOf K h n v1 v3).bind fun v5 =>
  some v5
set_option maxRecDepth 100000 in
set_option maxHeartbeats 4000000 in
theorem c_X5_slot {K : Nat} {G : mm_G} {l : Launch} {h : mm_H} {n : Nat} (l0 : Nat) {r_ : Int32} (hn : 32 ≤ n) (hr : q_X5_slot K h n l0 = some r_) : Sp G l yX5_slot cX5_slot 1 (some .int) 1 0 0 [.ref l0] h n (fun v h' n' => v = some (.int r_) ∧ h' = h ∧ n' = n) := by
  refine Sp_of (by decide +kernel) (Nat.le_of_ble_eq_true rfl) hn ?_
  intro W0 hwl C
  subst hwl
  unfold q_X5_slot at hr
  show WW W0 G 1 0 0 _ 0 [some (.ref l0)] [] h n 0 0
  refine rr_aload_n (i := 0) C dX5_slot_0 rfl rfl ?_
  replace hr := Option.bind_eq_some_iff.mp hr
  obtain ⟨v1, e2, hr⟩ := hr
  refine rr_rdI C dX5_slot_1 fl_X5_18 e2 ?_
  refine rr_aload_n (i := 0) C dX5_slot_4 rfl rfl ?_
  replace hr := Option.bind_eq_some_iff.mp hr
  obtain ⟨v3, e4, hr⟩ := hr
  refine rr_rdI C dX5_slot_5 fl_X5_22 e4 ?_
  replace hr := Option.bind_eq_some_iff.mp hr
  obtain ⟨v5, e6, hr⟩ := hr
  refine rr_callS (as := [.int v1, .int v3]) (st := []) (mc' := 0) (ms' := 0) C dX5_slot_8 it_X5_25 (by decide) (Nat.le_of_ble_eq_true rfl) (c_X5_slotOf v1 v3 (by omega) e6) (fun v_ h_ n_ q_ => ?_)
  obtain ⟨q1_, q2_, q3_⟩ := q_
  subst v_; subst h_; subst n_
  show WW W0 G 1 _ _ _ 11 [some (.ref l0)] [.int v5] h n _ _
  obtain rfl := Option.some.inj hr
  exact rr_iret (ty := .int) C dX5_slot_11 rfl rfl ⟨rfl, rfl, rfl⟩
def q_X5_hasUnless (K : Nat) (h : mm_H) (n : Nat) (l0 : Nat) : Option (Int32) :=
  (rdR h n l0 5 10).bind fun v1 =>
  v1.bind fun a3 =>
  (lenA h n a3 0).bind fun v5 =>
  if v5 ≤ 0 then
    some 0
  else
  some 1
set_option maxRecDepth 100000 in
set_option maxHeartbeats 4000000 in
theorem c_X5_hasUnless {K : Nat} {G : mm_G} {l : Launch} {h : mm_H} {n : Nat} (l0 : Nat) {r_ : Int32} (hn : 32 ≤ n) (hr : q_X5_hasUnless K h n l0 = some r_) : Sp G l yX5_hasUnless cX5_hasUnless 1 (some .boolean) 0 0 0 [.ref l0] h n (fun v h' n' => v = some (.int r_) ∧ h' = h ∧ n' = n) := by
  refine Sp_of (by decide +kernel) (Nat.le_of_ble_eq_true rfl) hn ?_
  intro W0 hwl C
  subst hwl
  unfold q_X5_hasUnless at hr
  show WW W0 G 1 0 0 _ 0 [some (.ref l0)] [] h n 0 0
  refine rr_aload_n (i := 0) C dX5_hasUnless_0 rfl rfl ?_
  replace hr := Option.bind_eq_some_iff.mp hr
  obtain ⟨v1, e2, hr⟩ := hr
  refine rr_rdR C dX5_hasUnless_1 fl_X5_13 e2 ?_
  replace hr := Option.bind_eq_some_iff.mp hr
  obtain ⟨a3, e4, hr⟩ := hr
  subst e4
  replace hr := Option.bind_eq_some_iff.mp hr
  obtain ⟨v5, e6, hr⟩ := hr
  refine rr_lenA C dX5_hasUnless_4 e6 ?_
  refine rr_if_le (tgt := 12) C dX5_hasUnless_5 (by decide) (fun c5_ => ?_) (fun c5_ => ?_)
  · replace hr := (if_pos c5_).symm.trans hr
    refine rr_iconst (v := 0) C dX5_hasUnless_12 (by decide) ?_
    obtain rfl := Option.some.inj hr
    exact rr_iret (ty := .boolean) C dX5_hasUnless_13 rfl rfl ⟨rfl, rfl, rfl⟩
  · replace hr := (if_neg c5_).symm.trans hr
    refine rr_iconst (v := 1) C dX5_hasUnless_8 (by decide) ?_
    refine rr_goto (tgt := 13) C dX5_hasUnless_9 (by decide) ?_
    obtain rfl := Option.some.inj hr
    exact rr_iret (ty := .boolean) C dX5_hasUnless_13 rfl rfl ⟨rfl, rfl, rfl⟩
def q_X5_compares (K : Nat) (h : mm_H) (n : Nat) (l0 : Nat) (l1 : Int32) (l2 : Option Nat) : Option (Int32) :=
  if ((l1 / 3) - (l1 / 3) / 5 * 5) < 0 then
    some 0
  else
  l2.bind fun a2 =>
  (lenA h n a2 1).bind fun v4 =>
  if ((l1 / 3) - (l1 / 3) / 5 * 5) < v4 then
    if (l1 - l1 / 3 * 3) = 0 then
      (ldJ h n a2 ((l1 / 3) - (l1 / 3) / 5 * 5)).bind fun v7 =>
      if 0 ≤ (lg_cmp v7 (Int32.toInt64 ((l1 / 3) / 5))) then
        some 0
      else
      some 1
    else
    if (l1 - l1 / 3 * 3) = 1 then
      (ldJ h n a2 ((l1 / 3) - (l1 / 3) / 5 * 5)).bind fun v9 =>
      if (lg_cmp v9 (Int32.toInt64 ((l1 / 3) / 5))) ≤ 0 then
        some 0
      else
      some 1
    else
    (ldJ h n a2 ((l1 / 3) - (l1 / 3) / 5 * 5)).bind fun v11 =>
    if (lg_cmp v11 (Int32.toInt64 ((l1 / 3) / 5))) = 0 then
      some 1
    else
    some 0
  else
  some 0
set_option maxRecDepth 100000 in
set_option maxHeartbeats 4000000 in
theorem c_X5_compares {K : Nat} {G : mm_G} {l : Launch} {h : mm_H} {n : Nat} (l0 : Nat) (l1 : Int32) (l2 : Option Nat) {r_ : Int32} (hn : 32 ≤ n) (hr : q_X5_compares K h n l0 l1 l2 = some r_) : Sp G l yX5_compares cX5_compares 6 (some .boolean) 0 0 0 [.ref l0, .int l1, va_rf l2] h n (fun v h' n' => v = some (.int r_) ∧ h' = h ∧ n' = n) := by
  refine Sp_of (by decide +kernel) (by rcases l2 with _ | _ <;> exact Nat.le_of_ble_eq_true rfl) hn ?_
  intro W0 hwl C
  subst hwl
  unfold q_X5_compares at hr
  rw [show mm_en 6 [.ref l0, .int l1, va_rf l2] = [some (.ref l0), some (.int l1), some (va_rf l2), none, none, none] from by rcases l2 with _ | _ <;> rfl]
  show WW W0 G 6 0 0 _ 0 [some (.ref l0), some (.int l1), some (va_rf l2), none, none, none] [] h n 0 0
  refine rr_iload_n (i := 1) C dX5_compares_0 rfl rfl ?_
  refine rr_iconst (v := 3) C dX5_compares_1 (by decide) ?_
  refine rr_idiv C dX5_compares_2 (by decide) ?_
  refine rr_iconst (v := 5) C dX5_compares_3 (by decide) ?_
  refine rr_irem C dX5_compares_4 (by decide) ?_
  refine rr_istore_n (i := 3) C dX5_compares_5 rfl (by decide) ?_
  rw [mm_set1_rf (i := 2) (r := l2) rfl]
  show WW W0 G 6 _ _ _ 6 [some (.ref l0), some (.int l1), some (va_rf l2), some (.int ((l1 / 3) - (l1 / 3) / 5 * 5)), none, none] [] h n _ _
  refine rr_iload_n (i := 3) C dX5_compares_6 rfl rfl ?_
  refine rr_if_lt (tgt := 16) C dX5_compares_7 (by decide) (fun c7_ => ?_) (fun c7_ => ?_)
  · replace hr := (if_pos c7_).symm.trans hr
    refine rr_iconst (v := 0) C dX5_compares_16 (by decide) ?_
    obtain rfl := Option.some.inj hr
    exact rr_iret (ty := .boolean) C dX5_compares_17 rfl rfl ⟨rfl, rfl, rfl⟩
  · replace hr := (if_neg c7_).symm.trans hr
    refine rr_iload_n (i := 3) C dX5_compares_10 rfl rfl ?_
    refine rr_aload_nO (i := 2) C dX5_compares_11 rfl rfl ?_
    replace hr := Option.bind_eq_some_iff.mp hr
    obtain ⟨a2, e3, hr⟩ := hr
    subst e3
    replace hr := Option.bind_eq_some_iff.mp hr
    obtain ⟨v4, e5, hr⟩ := hr
    refine rr_lenA C dX5_compares_12 e5 ?_
    refine rr_icmp_lt (tgt := 18) C dX5_compares_13 (by decide) (fun c13_ => ?_) (fun c13_ => ?_)
    · replace hr := (if_pos c13_).symm.trans hr
      refine rr_iload_n (i := 1) C dX5_compares_18 rfl rfl ?_
      refine rr_iconst (v := 3) C dX5_compares_19 (by decide) ?_
      refine rr_idiv C dX5_compares_20 (by decide) ?_
      refine rr_iconst (v := 5) C dX5_compares_21 (by decide) ?_
      refine rr_idiv C dX5_compares_22 (by decide) ?_
      refine rr_i2l C dX5_compares_23 ?_
      refine rr_lstore C dX5_compares_24 (by decide) ?_
      show WW W0 G 6 _ _ _ 26 [some (.ref l0), some (.int l1), some (.ref a2), some (.int ((l1 / 3) - (l1 / 3) / 5 * 5)), some (.long (Int32.toInt64 ((l1 / 3) / 5))), none] [] h n _ _
      refine rr_iload_n (i := 1) C dX5_compares_26 rfl rfl ?_
      refine rr_iconst (v := 3) C dX5_compares_27 (by decide) ?_
      refine rr_irem C dX5_compares_28 (by decide) ?_
      by_cases s29_0 : (l1 - l1 / 3 * 3) = 0
      · replace hr := (if_pos s29_0).symm.trans hr
        refine rr_lookup (off := 27) (tgt := 56) C dX5_compares_29 (by decide) (by rw [s29_0]; rfl) (by decide) ?_
        refine rr_aload_n (i := 2) C dX5_compares_56 rfl rfl ?_
        refine rr_iload_n (i := 3) C dX5_compares_57 rfl rfl ?_
        replace hr := Option.bind_eq_some_iff.mp hr
        obtain ⟨v7, e8, hr⟩ := hr
        refine rr_ldJ C dX5_compares_58 e8 ?_
        refine rr_lload C dX5_compares_59 rfl ?_
        refine rr_lcmp C dX5_compares_61 ?_
        refine rr_if_ge (tgt := 69) C dX5_compares_62 (by decide) (fun c62_ => ?_) (fun c62_ => ?_)
        · replace hr := (if_pos c62_).symm.trans hr
          refine rr_iconst (v := 0) C dX5_compares_69 (by decide) ?_
          obtain rfl := Option.some.inj hr
          exact rr_iret (ty := .boolean) C dX5_compares_70 rfl rfl ⟨rfl, rfl, rfl⟩
        · replace hr := (if_neg c62_).symm.trans hr
          refine rr_iconst (v := 1) C dX5_compares_65 (by decide) ?_
          refine rr_goto (tgt := 70) C dX5_compares_66 (by decide) ?_
          obtain rfl := Option.some.inj hr
          exact rr_iret (ty := .boolean) C dX5_compares_70 rfl rfl ⟨rfl, rfl, rfl⟩
      replace hr := (if_neg s29_0).symm.trans hr
      by_cases s29_1 : (l1 - l1 / 3 * 3) = 1
      · replace hr := (if_pos s29_1).symm.trans hr
        refine rr_lookup (off := 42) (tgt := 71) C dX5_compares_29 (by decide) (by rw [s29_1]; rfl) (by decide) ?_
        refine rr_aload_n (i := 2) C dX5_compares_71 rfl rfl ?_
        refine rr_iload_n (i := 3) C dX5_compares_72 rfl rfl ?_
        replace hr := Option.bind_eq_some_iff.mp hr
        obtain ⟨v9, e10, hr⟩ := hr
        refine rr_ldJ C dX5_compares_73 e10 ?_
        refine rr_lload C dX5_compares_74 rfl ?_
        refine rr_lcmp C dX5_compares_76 ?_
        refine rr_if_le (tgt := 84) C dX5_compares_77 (by decide) (fun c77_ => ?_) (fun c77_ => ?_)
        · replace hr := (if_pos c77_).symm.trans hr
          refine rr_iconst (v := 0) C dX5_compares_84 (by decide) ?_
          obtain rfl := Option.some.inj hr
          exact rr_iret (ty := .boolean) C dX5_compares_85 rfl rfl ⟨rfl, rfl, rfl⟩
        · replace hr := (if_neg c77_).symm.trans hr
          refine rr_iconst (v := 1) C dX5_compares_80 (by decide) ?_
          refine rr_goto (tgt := 85) C dX5_compares_81 (by decide) ?_
          obtain rfl := Option.some.inj hr
          exact rr_iret (ty := .boolean) C dX5_compares_85 rfl rfl ⟨rfl, rfl, rfl⟩
      replace hr := (if_neg s29_1).symm.trans hr
      refine rr_lookup (off := 57) (tgt := 86) C dX5_compares_29 (by decide) ((lv_osw s29_0 rfl).trans ((lv_osw s29_1 rfl).trans rfl)) (by decide) ?_
      refine rr_aload_n (i := 2) C dX5_compares_86 rfl rfl ?_
      refine rr_iload_n (i := 3) C dX5_compares_87 rfl rfl ?_
      replace hr := Option.bind_eq_some_iff.mp hr
      obtain ⟨v11, e12, hr⟩ := hr
      refine rr_ldJ C dX5_compares_88 e12 ?_
      refine rr_lload C dX5_compares_89 rfl ?_
      refine rr_lcmp C dX5_compares_91 ?_
      refine rr_if_ne (tgt := 99) C dX5_compares_92 (by decide) (fun c92_ => ?_) (fun c92_ => ?_)
      · replace hr := (if_neg c92_).symm.trans hr
        refine rr_iconst (v := 0) C dX5_compares_99 (by decide) ?_
        obtain rfl := Option.some.inj hr
        exact rr_iret (ty := .boolean) C dX5_compares_100 rfl rfl ⟨rfl, rfl, rfl⟩
      · replace hr := (if_pos c92_).symm.trans hr
        refine rr_iconst (v := 1) C dX5_compares_95 (by decide) ?_
        refine rr_goto (tgt := 100) C dX5_compares_96 (by decide) ?_
        obtain rfl := Option.some.inj hr
        exact rr_iret (ty := .boolean) C dX5_compares_100 rfl rfl ⟨rfl, rfl, rfl⟩
    · replace hr := (if_neg c13_).symm.trans hr
      refine rr_iconst (v := 0) C dX5_compares_16 (by decide) ?_
      obtain rfl := Option.some.inj hr
      exact rr_iret (ty := .boolean) C dX5_compares_17 rfl rfl ⟨rfl, rfl, rfl⟩
def lp_X5_stands_25 (K : Nat) (h : mm_H) (n : Nat) (l0 : Nat) (l1 : Option Nat) (l4 : Nat) (l5 : Int32) : Nat → Int64 → Int32 → Option (Int64)
  | 0, _, _ => none
  | k_ + 1, l2, l6 =>
    if l5 ≤ l6 then
      some (l2)
    else
    (ldI h n l4 l6).bind fun v11 =>
    if v11 = (-1) then
      lp_X5_stands_25 K h n l0 l1 l4 l5 k_ (l2 ^^^ 1) (l6 + 1)
    else
    if v11 = (-2) then
      lp_X5_stands_25 K h n l0 l1 l4 l5 k_ ((l2 >>> ((Int32.toInt64 1) &&& 63)) &&& (l2 ||| (-2))) (l6 + 1)
    else
    if v11 = (-3) then
      lp_X5_stands_25 K h n l0 l1 l4 l5 k_ ((l2 >>> ((Int32.toInt64 1) &&& 63)) ||| (l2 &&& 1)) (l6 + 1)
    else
    (ckq h n l0 5).bind fun u16 =>
    (q_X5_compares K h n l0 v11 l1).bind fun v18 =>
    if v18 = 0 then
      lp_X5_stands_25 K h n l0 l1 l4 l5 k_ ((l2 <<< ((Int32.toInt64 1) &&& 63)) ||| (Int32.toInt64 0)) (l6 + 1)
    else
    lp_X5_stands_25 K h n l0 l1 l4 l5 k_ ((l2 <<< ((Int32.toInt64 1) &&& 63)) ||| (Int32.toInt64 1)) (l6 + 1)
def q_X5_stands (K : Nat) (h : mm_H) (n : Nat) (l0 : Nat) (l1 : Option Nat) : Option (Int32) :=
  (ckq h n l0 5).bind fun u1 =>
  (q_X5_hasUnless K h n l0).bind fun v3 =>
  if v3 = 0 then
    some 1
  else
  (rdR h n l0 5 10).bind fun v5 =>
  v5.bind fun a7 =>
  (lenA h n a7 0).bind fun v9 =>
  (lp_X5_stands_25 K h n l0 l1 a7 v9 K 0 0).bind fun v22 =>
  if (lg_cmp (v22 &&& 1) 0) = 0 then
    some 1
  else
  some 0
set_option maxRecDepth 100000 in
set_option maxHeartbeats 4000000 in
theorem w_X5_stands_25 {K : Nat} {W0 : mm_X} {G : mm_G} {mc ms kc ks : Nat} {Q_ : State → Prop} {h : mm_H} {n : Nat} (C : mm_C W0 G cX5_stands yX5_stands.cls 8 mc ms (some .boolean) 1 yX5_stands.name) (hn : 32 ≤ n) (l0 : Nat) (l1 : Option Nat) (l4 : Nat) (l5 : Int32) : ∀ (k_ : Nat) (l2 : Int64) (l6 : Int32) {r_ : Int64} (hr : lp_X5_stands_25 K h n l0 l1 l4 l5 k_ l2 l6 = some r_) (hx0 : WW W0 G 8 mc ms Q_ 117 [none, none, some (.long r_), none, none, none, none, none] [] h n kc ks), WW W0 G 8 mc ms Q_ 25 [some (.ref l0), some (va_rf l1), some (.long l2), none, some (.ref l4), some (.int l5), some (.int l6), none] [] h n kc ks := by
  intro k_
  induction k_ with
  | zero =>
    intro l2 l6 r_ hr
    cases hr
  | succ k_ ih_ =>
    intro l2 l6 r_ hr hx0
    unfold lp_X5_stands_25 at hr
    refine rr_iload C dX5_stands_25 rfl ?_
    refine rr_iload C dX5_stands_27 rfl ?_
    refine rr_icmp_ge (tgt := 117) C dX5_stands_29 (by decide) (fun c29_ => ?_) (fun c29_ => ?_)
    · replace hr := (if_pos c29_).symm.trans hr
      obtain rfl := Option.some.inj hr
      exact rr_keep [false, false, true, false, false, false, false, false] (hx0)
    · replace hr := (if_neg c29_).symm.trans hr
      refine rr_aload C dX5_stands_32 rfl ?_
      refine rr_iload C dX5_stands_34 rfl ?_
      replace hr := Option.bind_eq_some_iff.mp hr
      obtain ⟨v11, e12, hr⟩ := hr
      refine rr_ldI C dX5_stands_36 e12 ?_
      refine rr_istore C dX5_stands_37 (by decide) ?_
      show WW W0 G 8 _ _ _ 39 [some (.ref l0), some (va_rf l1), some (.long l2), none, some (.ref l4), some (.int l5), some (.int l6), some (.int v11)] [] h n _ _
      refine rr_iload C dX5_stands_39 rfl ?_
      refine rr_iconst (v := (-1)) C dX5_stands_41 (by decide) ?_
      refine rr_icmp_ne (tgt := 52) C dX5_stands_42 (by decide) (fun c42_ => ?_) (fun c42_ => ?_)
      · replace hr := (if_neg c42_).symm.trans hr
        refine rr_iload C dX5_stands_52 rfl ?_
        refine rr_bipush (v := (-2)) C dX5_stands_54 (by decide) ?_
        refine rr_icmp_ne (tgt := 72) C dX5_stands_56 (by decide) (fun c56_ => ?_) (fun c56_ => ?_)
        · replace hr := (if_neg c56_).symm.trans hr
          refine rr_iload C dX5_stands_72 rfl ?_
          refine rr_bipush (v := (-3)) C dX5_stands_74 (by decide) ?_
          refine rr_icmp_ne (tgt := 90) C dX5_stands_76 (by decide) (fun c76_ => ?_) (fun c76_ => ?_)
          · replace hr := (if_neg c76_).symm.trans hr
            refine rr_lload_n (i := 2) C dX5_stands_90 rfl rfl ?_
            refine rr_iconst (v := 1) C dX5_stands_91 (by decide) ?_
            refine rr_lshl C dX5_stands_92 ?_
            refine rr_aload_n (i := 0) C dX5_stands_93 rfl rfl ?_
            refine rr_iload C dX5_stands_94 rfl ?_
            refine rr_aload_nO (i := 1) C dX5_stands_96 rfl rfl ?_
            replace hr := Option.bind_eq_some_iff.mp hr
            obtain ⟨u16, e17, hr⟩ := hr
            replace hr := Option.bind_eq_some_iff.mp hr
            obtain ⟨v18, e19, hr⟩ := hr
            refine rr_callVq (as := [.int v11, va_rf l1]) (st := [.long (l2 <<< ((Int32.toInt64 1) &&& 63))]) (mc' := 0) (ms' := 0) C dX5_stands_97 iv_X5_35 (by decide) e17 rfl (Nat.le_of_ble_eq_true rfl) (c_X5_compares l0 v11 l1 (by omega) e19) (fun v_ h_ n_ q_ => ?_)
            obtain ⟨q1_, q2_, q3_⟩ := q_
            subst v_; subst h_; subst n_
            show WW W0 G 8 _ _ _ 100 [some (.ref l0), some (va_rf l1), some (.long l2), none, some (.ref l4), some (.int l5), some (.int l6), some (.int v11)] [.int v18, .long (l2 <<< ((Int32.toInt64 1) &&& 63))] h n _ _
            refine rr_if_eq (tgt := 107) C dX5_stands_100 (by decide) (fun c100_ => ?_) (fun c100_ => ?_)
            · replace hr := (if_pos c100_).symm.trans hr
              refine rr_iconst (v := 0) C dX5_stands_107 (by decide) ?_
              refine rr_i2l C dX5_stands_108 ?_
              refine rr_lor C dX5_stands_109 ?_
              refine rr_lstore_n (i := 2) C dX5_stands_110 rfl (by decide) ?_
              rw [mm_set2_rf (i := 1) (r := l1) rfl]
              show WW W0 G 8 _ _ _ 111 [some (.ref l0), some (va_rf l1), some (.long ((l2 <<< ((Int32.toInt64 1) &&& 63)) ||| (Int32.toInt64 0))), none, some (.ref l4), some (.int l5), some (.int l6), some (.int v11)] [] h n _ _
              refine rr_iinc (v := l6 + 1) C dX5_stands_111 rfl rfl ?_
              show WW W0 G 8 _ _ _ 114 [some (.ref l0), some (va_rf l1), some (.long ((l2 <<< ((Int32.toInt64 1) &&& 63)) ||| (Int32.toInt64 0))), none, some (.ref l4), some (.int l5), some (.int (l6 + 1)), some (.int v11)] [] h n _ _
              refine rr_goto (tgt := 25) C dX5_stands_114 (by decide) ?_
              exact rr_keep [true, true, true, false, true, true, true, false] (ih_ _ _ hr hx0)
            · replace hr := (if_neg c100_).symm.trans hr
              refine rr_iconst (v := 1) C dX5_stands_103 (by decide) ?_
              refine rr_goto (tgt := 108) C dX5_stands_104 (by decide) ?_
              refine rr_i2l C dX5_stands_108 ?_
              refine rr_lor C dX5_stands_109 ?_
              refine rr_lstore_n (i := 2) C dX5_stands_110 rfl (by decide) ?_
              rw [mm_set2_rf (i := 1) (r := l1) rfl]
              show WW W0 G 8 _ _ _ 111 [some (.ref l0), some (va_rf l1), some (.long ((l2 <<< ((Int32.toInt64 1) &&& 63)) ||| (Int32.toInt64 1))), none, some (.ref l4), some (.int l5), some (.int l6), some (.int v11)] [] h n _ _
              refine rr_iinc (v := l6 + 1) C dX5_stands_111 rfl rfl ?_
              show WW W0 G 8 _ _ _ 114 [some (.ref l0), some (va_rf l1), some (.long ((l2 <<< ((Int32.toInt64 1) &&& 63)) ||| (Int32.toInt64 1))), none, some (.ref l4), some (.int l5), some (.int (l6 + 1)), some (.int v11)] [] h n _ _
              refine rr_goto (tgt := 25) C dX5_stands_114 (by decide) ?_
              exact rr_keep [true, true, true, false, true, true, true, false] (ih_ _ _ hr hx0)
          · replace hr := (if_pos c76_).symm.trans hr
            refine rr_lload_n (i := 2) C dX5_stands_79 rfl rfl ?_
            refine rr_iconst (v := 1) C dX5_stands_80 (by decide) ?_
            refine rr_lshr C dX5_stands_81 ?_
            refine rr_lload_n (i := 2) C dX5_stands_82 rfl rfl ?_
            refine rr_lconst (v := 1) C dX5_stands_83 (by decide) ?_
            refine rr_land C dX5_stands_84 ?_
            refine rr_lor C dX5_stands_85 ?_
            refine rr_lstore_n (i := 2) C dX5_stands_86 rfl (by decide) ?_
            rw [mm_set2_rf (i := 1) (r := l1) rfl]
            show WW W0 G 8 _ _ _ 87 [some (.ref l0), some (va_rf l1), some (.long ((l2 >>> ((Int32.toInt64 1) &&& 63)) ||| (l2 &&& 1))), none, some (.ref l4), some (.int l5), some (.int l6), some (.int v11)] [] h n _ _
            refine rr_goto (tgt := 111) C dX5_stands_87 (by decide) ?_
            refine rr_iinc (v := l6 + 1) C dX5_stands_111 rfl rfl ?_
            show WW W0 G 8 _ _ _ 114 [some (.ref l0), some (va_rf l1), some (.long ((l2 >>> ((Int32.toInt64 1) &&& 63)) ||| (l2 &&& 1))), none, some (.ref l4), some (.int l5), some (.int (l6 + 1)), some (.int v11)] [] h n _ _
            refine rr_goto (tgt := 25) C dX5_stands_114 (by decide) ?_
            exact rr_keep [true, true, true, false, true, true, true, false] (ih_ _ _ hr hx0)
        · replace hr := (if_pos c56_).symm.trans hr
          refine rr_lload_n (i := 2) C dX5_stands_59 rfl rfl ?_
          refine rr_iconst (v := 1) C dX5_stands_60 (by decide) ?_
          refine rr_lshr C dX5_stands_61 ?_
          refine rr_lload_n (i := 2) C dX5_stands_62 rfl rfl ?_
          refine rr_ldc2 C dX5_stands_63 ct_X5_33 ?_
          refine rr_lor C dX5_stands_66 ?_
          refine rr_land C dX5_stands_67 ?_
          refine rr_lstore_n (i := 2) C dX5_stands_68 rfl (by decide) ?_
          rw [mm_set2_rf (i := 1) (r := l1) rfl]
          show WW W0 G 8 _ _ _ 69 [some (.ref l0), some (va_rf l1), some (.long ((l2 >>> ((Int32.toInt64 1) &&& 63)) &&& (l2 ||| (-2)))), none, some (.ref l4), some (.int l5), some (.int l6), some (.int v11)] [] h n _ _
          refine rr_goto (tgt := 111) C dX5_stands_69 (by decide) ?_
          refine rr_iinc (v := l6 + 1) C dX5_stands_111 rfl rfl ?_
          show WW W0 G 8 _ _ _ 114 [some (.ref l0), some (va_rf l1), some (.long ((l2 >>> ((Int32.toInt64 1) &&& 63)) &&& (l2 ||| (-2)))), none, some (.ref l4), some (.int l5), some (.int (l6 + 1)), some (.int v11)] [] h n _ _
          refine rr_goto (tgt := 25) C dX5_stands_114 (by decide) ?_
          exact rr_keep [true, true, true, false, true, true, true, false] (ih_ _ _ hr hx0)
      · replace hr := (if_pos c42_).symm.trans hr
        refine rr_lload_n (i := 2) C dX5_stands_45 rfl rfl ?_
        refine rr_lconst (v := 1) C dX5_stands_46 (by decide) ?_
        refine rr_lxor C dX5_stands_47 ?_
        refine rr_lstore_n (i := 2) C dX5_stands_48 rfl (by decide) ?_
        rw [mm_set2_rf (i := 1) (r := l1) rfl]
        show WW W0 G 8 _ _ _ 49 [some (.ref l0), some (va_rf l1), some (.long (l2 ^^^ 1)), none, some (.ref l4), some (.int l5), some (.int l6), some (.int v11)] [] h n _ _
        refine rr_goto (tgt := 111) C dX5_stands_49 (by decide) ?_
        refine rr_iinc (v := l6 + 1) C dX5_stands_111 rfl rfl ?_
        show WW W0 G 8 _ _ _ 114 [some (.ref l0), some (va_rf l1), some (.long (l2 ^^^ 1)), none, some (.ref l4), some (.int l5), some (.int (l6 + 1)), some (.int v11)] [] h n _ _
        refine rr_goto (tgt := 25) C dX5_stands_114 (by decide) ?_
        exact rr_keep [true, true, true, false, true, true, true, false] (ih_ _ _ hr hx0)
set_option maxRecDepth 100000 in
set_option maxHeartbeats 4000000 in
theorem c_X5_stands {K : Nat} {G : mm_G} {l : Launch} {h : mm_H} {n : Nat} (l0 : Nat) (l1 : Option Nat) {r_ : Int32} (hn : 32 ≤ n) (hr : q_X5_stands K h n l0 l1 = some r_) : Sp G l yX5_stands cX5_stands 8 (some .boolean) 1 0 0 [.ref l0, va_rf l1] h n (fun v h' n' => v = some (.int r_) ∧ h' = h ∧ n' = n) := by
  refine Sp_of (by decide +kernel) (by rcases l1 with _ | _ <;> exact Nat.le_of_ble_eq_true rfl) hn ?_
  intro W0 hwl C
  subst hwl
  unfold q_X5_stands at hr
  rw [show mm_en 8 [.ref l0, va_rf l1] = [some (.ref l0), some (va_rf l1), none, none, none, none, none, none] from by rcases l1 with _ | _ <;> rfl]
  show WW W0 G 8 0 0 _ 0 [some (.ref l0), some (va_rf l1), none, none, none, none, none, none] [] h n 0 0
  refine rr_aload_n (i := 0) C dX5_stands_0 rfl rfl ?_
  replace hr := Option.bind_eq_some_iff.mp hr
  obtain ⟨u1, e2, hr⟩ := hr
  replace hr := Option.bind_eq_some_iff.mp hr
  obtain ⟨v3, e4, hr⟩ := hr
  refine rr_callVq (as := []) (st := []) (mc' := 0) (ms' := 0) C dX5_stands_1 iv_X5_29 (by decide) e2 rfl (Nat.le_of_ble_eq_true rfl) (c_X5_hasUnless l0 (by omega) e4) (fun v_ h_ n_ q_ => ?_)
  obtain ⟨q1_, q2_, q3_⟩ := q_
  subst v_; subst h_; subst n_
  show WW W0 G 8 _ _ _ 4 [some (.ref l0), some (va_rf l1), none, none, none, none, none, none] [.int v3] h n _ _
  refine rr_if_ne (tgt := 9) C dX5_stands_4 (by decide) (fun c4_ => ?_) (fun c4_ => ?_)
  · replace hr := (if_neg c4_).symm.trans hr
    refine rr_lconst (v := 0) C dX5_stands_9 (by decide) ?_
    refine rr_lstore_n (i := 2) C dX5_stands_10 rfl (by decide) ?_
    rw [mm_set2_rf (i := 1) (r := l1) rfl]
    show WW W0 G 8 _ _ _ 11 [some (.ref l0), some (va_rf l1), some (.long 0), none, none, none, none, none] [] h n _ _
    refine rr_aload_n (i := 0) C dX5_stands_11 rfl rfl ?_
    replace hr := Option.bind_eq_some_iff.mp hr
    obtain ⟨v5, e6, hr⟩ := hr
    refine rr_rdR C dX5_stands_12 fl_X5_13 e6 ?_
    refine rr_astoreO C dX5_stands_15 (by decide) ?_
    show WW W0 G 8 _ _ _ 17 [some (.ref l0), some (va_rf l1), some (.long 0), none, some (va_rf v5), none, none, none] [] h n _ _
    refine rr_aloadO C dX5_stands_17 rfl ?_
    replace hr := Option.bind_eq_some_iff.mp hr
    obtain ⟨a7, e8, hr⟩ := hr
    subst e8
    replace hr := Option.bind_eq_some_iff.mp hr
    obtain ⟨v9, e10, hr⟩ := hr
    refine rr_lenA C dX5_stands_19 e10 ?_
    refine rr_istore C dX5_stands_20 (by decide) ?_
    show WW W0 G 8 _ _ _ 22 [some (.ref l0), some (va_rf l1), some (.long 0), none, some (.ref a7), some (.int v9), none, none] [] h n _ _
    refine rr_iconst (v := 0) C dX5_stands_22 (by decide) ?_
    refine rr_istore C dX5_stands_23 (by decide) ?_
    show WW W0 G 8 _ _ _ 25 [some (.ref l0), some (va_rf l1), some (.long 0), none, some (.ref a7), some (.int v9), some (.int 0), none] [] h n _ _
    replace hr := Option.bind_eq_some_iff.mp hr
    obtain ⟨v22, e23, hr⟩ := hr
    refine rr_keep [true, true, true, false, true, true, true, false] (w_X5_stands_25 C (by omega) l0 l1 a7 v9 K 0 0 e23 ?_)
    show WW W0 G 8 _ _ _ 117 [none, none, some (.long v22), none, none, none, none, none] [] h n _ _
    refine rr_lload_n (i := 2) C dX5_stands_117 rfl rfl ?_
    refine rr_lconst (v := 1) C dX5_stands_118 (by decide) ?_
    refine rr_land C dX5_stands_119 ?_
    refine rr_lconst (v := 0) C dX5_stands_120 (by decide) ?_
    refine rr_lcmp C dX5_stands_121 ?_
    refine rr_if_ne (tgt := 129) C dX5_stands_122 (by decide) (fun c122_ => ?_) (fun c122_ => ?_)
    · replace hr := (if_neg c122_).symm.trans hr
      refine rr_iconst (v := 0) C dX5_stands_129 (by decide) ?_
      obtain rfl := Option.some.inj hr
      exact rr_iret (ty := .boolean) C dX5_stands_130 rfl rfl ⟨rfl, rfl, rfl⟩
    · replace hr := (if_pos c122_).symm.trans hr
      refine rr_iconst (v := 1) C dX5_stands_125 (by decide) ?_
      refine rr_goto (tgt := 130) C dX5_stands_126 (by decide) ?_
      obtain rfl := Option.some.inj hr
      exact rr_iret (ty := .boolean) C dX5_stands_130 rfl rfl ⟨rfl, rfl, rfl⟩
  · replace hr := (if_pos c4_).symm.trans hr
    refine rr_iconst (v := 1) C dX5_stands_7 (by decide) ?_
    obtain rfl := Option.some.inj hr
    exact rr_iret (ty := .boolean) C dX5_stands_8 rfl rfl ⟨rfl, rfl, rfl⟩
def q_X5_comparison (K : Nat) (h : mm_H) (n : Nat) (l0 : Int32) (l1 : Int32) (l2 : Int32) : Option (Int32) :=
  some ((((l2 * 5) + l0) * 3) + l1)
set_option maxRecDepth 100000 in
set_option maxHeartbeats 4000000 in
theorem c_X5_comparison {K : Nat} {G : mm_G} {l : Launch} {h : mm_H} {n : Nat} (l0 : Int32) (l1 : Int32) (l2 : Int32) {r_ : Int32} (hn : 32 ≤ n) (hr : q_X5_comparison K h n l0 l1 l2 = some r_) : Sp G l yX5_comparison cX5_comparison 3 (some .int) 0 0 0 [.int l0, .int l1, .int l2] h n (fun v h' n' => v = some (.int r_) ∧ h' = h ∧ n' = n) := by
  refine Sp_of (by decide +kernel) (Nat.le_of_ble_eq_true rfl) hn ?_
  intro W0 hwl C
  subst hwl
  unfold q_X5_comparison at hr
  show WW W0 G 3 0 0 _ 0 [some (.int l0), some (.int l1), some (.int l2)] [] h n 0 0
  refine rr_iload_n (i := 2) C dX5_comparison_0 rfl rfl ?_
  refine rr_iconst (v := 5) C dX5_comparison_1 (by decide) ?_
  refine rr_imul C dX5_comparison_2 ?_
  refine rr_iload_n (i := 0) C dX5_comparison_3 rfl rfl ?_
  refine rr_iadd C dX5_comparison_4 ?_
  refine rr_iconst (v := 3) C dX5_comparison_5 (by decide) ?_
  refine rr_imul C dX5_comparison_6 ?_
  refine rr_iload_n (i := 1) C dX5_comparison_7 rfl rfl ?_
  refine rr_iadd C dX5_comparison_8 ?_
  obtain rfl := Option.some.inj hr
  exact rr_iret (ty := .int) C dX5_comparison_9 rfl rfl ⟨rfl, rfl, rfl⟩
def q_X5_earns (K : Nat) (h : mm_H) (n : Nat) (l0 : Nat) (l1 : Int64) : Option (Int64) :=
  (rdI h n l0 5 2).bind fun v1 =>
  if v1 = 0 then
    (rdI h n l0 5 4).bind fun v3 =>
    (q_X8_size K h n (l1 - (Int32.toInt64 v3))).bind fun v6 =>
    (rdI h n l0 5 8).bind fun v8 =>
    (rdI h n l0 5 9).bind fun v11 =>
    (rdI h n l0 5 6).bind fun v13 =>
    (q_X8_cut K h n (j_max 0 (v6 - (Int32.toInt64 v8))) (Int32.toInt64 v13)).bind fun v15 =>
    (rdI h n l0 5 7).bind fun v17 =>
    if 0 ≤ (lg_cmp (l1 - (Int32.toInt64 v3)) 0) then
      some (j_min (Int32.toInt64 v11) (v15 * (Int32.toInt64 v17)))
    else
    some (-(j_min (Int32.toInt64 v11) (v15 * (Int32.toInt64 v17))))
  else
  (rdI h n l0 5 4).bind fun v20 =>
  (q_X8_size K h n ((Int32.toInt64 v20) - l1)).bind fun v23 =>
  (rdI h n l0 5 8).bind fun v25 =>
  (rdI h n l0 5 9).bind fun v28 =>
  (rdI h n l0 5 6).bind fun v30 =>
  (q_X8_cut K h n (j_max 0 (v23 - (Int32.toInt64 v25))) (Int32.toInt64 v30)).bind fun v32 =>
  (rdI h n l0 5 7).bind fun v34 =>
  if 0 ≤ (lg_cmp ((Int32.toInt64 v20) - l1) 0) then
    some (j_min (Int32.toInt64 v28) (v32 * (Int32.toInt64 v34)))
  else
  some (-(j_min (Int32.toInt64 v28) (v32 * (Int32.toInt64 v34))))
set_option maxRecDepth 100000 in
set_option maxHeartbeats 4000000 in
theorem c_X5_earns {K : Nat} {G : mm_G} {l : Launch} {h : mm_H} {n : Nat} (l0 : Nat) (l1 : Int64) {r_ : Int64} (hn : 32 ≤ n) (hr : q_X5_earns K h n l0 l1 = some r_) : Sp G l yX5_earns cX5_earns 9 (some .long) 1 0 0 [.ref l0, .long l1] h n (fun v h' n' => v = some (.long r_) ∧ h' = h ∧ n' = n) := by
  refine Sp_of (by decide +kernel) (Nat.le_of_ble_eq_true rfl) hn ?_
  intro W0 hwl C
  subst hwl
  unfold q_X5_earns at hr
  show WW W0 G 9 0 0 _ 0 [some (.ref l0), some (.long l1), none, none, none, none, none, none, none] [] h n 0 0
  refine rr_aload_n (i := 0) C dX5_earns_0 rfl rfl ?_
  replace hr := Option.bind_eq_some_iff.mp hr
  obtain ⟨v1, e2, hr⟩ := hr
  refine rr_rdI C dX5_earns_1 fl_X5_39 e2 ?_
  refine rr_if_ne (tgt := 17) C dX5_earns_4 (by decide) (fun c4_ => ?_) (fun c4_ => ?_)
  · replace hr := (if_neg c4_).symm.trans hr
    refine rr_aload_n (i := 0) C dX5_earns_17 rfl rfl ?_
    replace hr := Option.bind_eq_some_iff.mp hr
    obtain ⟨v20, e21, hr⟩ := hr
    refine rr_rdI C dX5_earns_18 fl_X5_42 e21 ?_
    refine rr_i2l C dX5_earns_21 ?_
    refine rr_lload_n (i := 1) C dX5_earns_22 rfl rfl ?_
    refine rr_lsub C dX5_earns_23 ?_
    refine rr_lstore_n (i := 3) C dX5_earns_24 rfl (by decide) ?_
    show WW W0 G 9 _ _ _ 25 [some (.ref l0), some (.long l1), none, some (.long ((Int32.toInt64 v20) - l1)), none, none, none, none, none] [] h n _ _
    refine rr_lconst (v := 0) C dX5_earns_25 (by decide) ?_
    refine rr_lload_n (i := 3) C dX5_earns_26 rfl rfl ?_
    replace hr := Option.bind_eq_some_iff.mp hr
    obtain ⟨v23, e24, hr⟩ := hr
    refine rr_callS (as := [.long ((Int32.toInt64 v20) - l1)]) (st := [.long 0]) (mc' := 0) (ms' := 0) C dX5_earns_27 it_X5_45 (by decide) (Nat.le_of_ble_eq_true rfl) (c_X8_size ((Int32.toInt64 v20) - l1) (by omega) e24) (fun v_ h_ n_ q_ => ?_)
    obtain ⟨q1_, q2_, q3_⟩ := q_
    subst v_; subst h_; subst n_
    show WW W0 G 9 _ _ _ 30 [some (.ref l0), some (.long l1), none, some (.long ((Int32.toInt64 v20) - l1)), none, none, none, none, none] [.long v23, .long 0] h n _ _
    refine rr_aload_n (i := 0) C dX5_earns_30 rfl rfl ?_
    replace hr := Option.bind_eq_some_iff.mp hr
    obtain ⟨v25, e26, hr⟩ := hr
    refine rr_rdI C dX5_earns_31 fl_X5_51 e26 ?_
    refine rr_i2l C dX5_earns_34 ?_
    refine rr_lsub C dX5_earns_35 ?_
    refine rr_mmax_long C dX5_earns_36 ma_X5_54 (by decide) (Nat.le_of_ble_eq_true rfl) ?_
    refine rr_lstore C dX5_earns_39 (by decide) ?_
    show WW W0 G 9 _ _ _ 41 [some (.ref l0), some (.long l1), none, some (.long ((Int32.toInt64 v20) - l1)), none, some (.long (j_max 0 (v23 - (Int32.toInt64 v25)))), none, none, none] [] h n _ _
    refine rr_aload_n (i := 0) C dX5_earns_41 rfl rfl ?_
    replace hr := Option.bind_eq_some_iff.mp hr
    obtain ⟨v28, e29, hr⟩ := hr
    refine rr_rdI C dX5_earns_42 fl_X5_60 e29 ?_
    refine rr_i2l C dX5_earns_45 ?_
    refine rr_lload C dX5_earns_46 rfl ?_
    refine rr_aload_n (i := 0) C dX5_earns_48 rfl rfl ?_
    replace hr := Option.bind_eq_some_iff.mp hr
    obtain ⟨v30, e31, hr⟩ := hr
    refine rr_rdI C dX5_earns_49 fl_X5_63 e31 ?_
    refine rr_i2l C dX5_earns_52 ?_
    replace hr := Option.bind_eq_some_iff.mp hr
    obtain ⟨v32, e33, hr⟩ := hr
    refine rr_callS (as := [.long (j_max 0 (v23 - (Int32.toInt64 v25))), .long (Int32.toInt64 v30)]) (st := [.long (Int32.toInt64 v28)]) (mc' := 0) (ms' := 0) C dX5_earns_53 it_X5_66 (by decide) (Nat.le_of_ble_eq_true rfl) (c_X8_cut (j_max 0 (v23 - (Int32.toInt64 v25))) (Int32.toInt64 v30) (by omega) e33) (fun v_ h_ n_ q_ => ?_)
    obtain ⟨q1_, q2_, q3_⟩ := q_
    subst v_; subst h_; subst n_
    show WW W0 G 9 _ _ _ 56 [some (.ref l0), some (.long l1), none, some (.long ((Int32.toInt64 v20) - l1)), none, some (.long (j_max 0 (v23 - (Int32.toInt64 v25)))), none, none, none] [.long v32, .long (Int32.toInt64 v28)] h n _ _
    refine rr_aload_n (i := 0) C dX5_earns_56 rfl rfl ?_
    replace hr := Option.bind_eq_some_iff.mp hr
    obtain ⟨v34, e35, hr⟩ := hr
    refine rr_rdI C dX5_earns_57 fl_X5_69 e35 ?_
    refine rr_i2l C dX5_earns_60 ?_
    refine rr_lmul C dX5_earns_61 ?_
    refine rr_mmin_long C dX5_earns_62 ma_X5_72 (by decide) (Nat.le_of_ble_eq_true rfl) ?_
    refine rr_lstore C dX5_earns_65 (by decide) ?_
    show WW W0 G 9 _ _ _ 67 [some (.ref l0), some (.long l1), none, some (.long ((Int32.toInt64 v20) - l1)), none, some (.long (j_max 0 (v23 - (Int32.toInt64 v25)))), none, some (.long (j_min (Int32.toInt64 v28) (v32 * (Int32.toInt64 v34)))), none] [] h n _ _
    refine rr_lload_n (i := 3) C dX5_earns_67 rfl rfl ?_
    refine rr_lconst (v := 0) C dX5_earns_68 (by decide) ?_
    refine rr_lcmp C dX5_earns_69 ?_
    refine rr_if_ge (tgt := 79) C dX5_earns_70 (by decide) (fun c70_ => ?_) (fun c70_ => ?_)
    · replace hr := (if_pos c70_).symm.trans hr
      refine rr_lload C dX5_earns_79 rfl ?_
      obtain rfl := Option.some.inj hr
      exact rr_lret C dX5_earns_81 rfl ⟨rfl, rfl, rfl⟩
    · replace hr := (if_neg c70_).symm.trans hr
      refine rr_lload C dX5_earns_73 rfl ?_
      refine rr_lneg C dX5_earns_75 ?_
      refine rr_goto (tgt := 81) C dX5_earns_76 (by decide) ?_
      obtain rfl := Option.some.inj hr
      exact rr_lret C dX5_earns_81 rfl ⟨rfl, rfl, rfl⟩
  · replace hr := (if_pos c4_).symm.trans hr
    refine rr_lload_n (i := 1) C dX5_earns_7 rfl rfl ?_
    refine rr_aload_n (i := 0) C dX5_earns_8 rfl rfl ?_
    replace hr := Option.bind_eq_some_iff.mp hr
    obtain ⟨v3, e4, hr⟩ := hr
    refine rr_rdI C dX5_earns_9 fl_X5_42 e4 ?_
    refine rr_i2l C dX5_earns_12 ?_
    refine rr_lsub C dX5_earns_13 ?_
    refine rr_goto (tgt := 24) C dX5_earns_14 (by decide) ?_
    refine rr_lstore_n (i := 3) C dX5_earns_24 rfl (by decide) ?_
    show WW W0 G 9 _ _ _ 25 [some (.ref l0), some (.long l1), none, some (.long (l1 - (Int32.toInt64 v3))), none, none, none, none, none] [] h n _ _
    refine rr_lconst (v := 0) C dX5_earns_25 (by decide) ?_
    refine rr_lload_n (i := 3) C dX5_earns_26 rfl rfl ?_
    replace hr := Option.bind_eq_some_iff.mp hr
    obtain ⟨v6, e7, hr⟩ := hr
    refine rr_callS (as := [.long (l1 - (Int32.toInt64 v3))]) (st := [.long 0]) (mc' := 0) (ms' := 0) C dX5_earns_27 it_X5_45 (by decide) (Nat.le_of_ble_eq_true rfl) (c_X8_size (l1 - (Int32.toInt64 v3)) (by omega) e7) (fun v_ h_ n_ q_ => ?_)
    obtain ⟨q1_, q2_, q3_⟩ := q_
    subst v_; subst h_; subst n_
    show WW W0 G 9 _ _ _ 30 [some (.ref l0), some (.long l1), none, some (.long (l1 - (Int32.toInt64 v3))), none, none, none, none, none] [.long v6, .long 0] h n _ _
    refine rr_aload_n (i := 0) C dX5_earns_30 rfl rfl ?_
    replace hr := Option.bind_eq_some_iff.mp hr
    obtain ⟨v8, e9, hr⟩ := hr
    refine rr_rdI C dX5_earns_31 fl_X5_51 e9 ?_
    refine rr_i2l C dX5_earns_34 ?_
    refine rr_lsub C dX5_earns_35 ?_
    refine rr_mmax_long C dX5_earns_36 ma_X5_54 (by decide) (Nat.le_of_ble_eq_true rfl) ?_
    refine rr_lstore C dX5_earns_39 (by decide) ?_
    show WW W0 G 9 _ _ _ 41 [some (.ref l0), some (.long l1), none, some (.long (l1 - (Int32.toInt64 v3))), none, some (.long (j_max 0 (v6 - (Int32.toInt64 v8)))), none, none, none] [] h n _ _
    refine rr_aload_n (i := 0) C dX5_earns_41 rfl rfl ?_
    replace hr := Option.bind_eq_some_iff.mp hr
    obtain ⟨v11, e12, hr⟩ := hr
    refine rr_rdI C dX5_earns_42 fl_X5_60 e12 ?_
    refine rr_i2l C dX5_earns_45 ?_
    refine rr_lload C dX5_earns_46 rfl ?_
    refine rr_aload_n (i := 0) C dX5_earns_48 rfl rfl ?_
    replace hr := Option.bind_eq_some_iff.mp hr
    obtain ⟨v13, e14, hr⟩ := hr
    refine rr_rdI C dX5_earns_49 fl_X5_63 e14 ?_
    refine rr_i2l C dX5_earns_52 ?_
    replace hr := Option.bind_eq_some_iff.mp hr
    obtain ⟨v15, e16, hr⟩ := hr
    refine rr_callS (as := [.long (j_max 0 (v6 - (Int32.toInt64 v8))), .long (Int32.toInt64 v13)]) (st := [.long (Int32.toInt64 v11)]) (mc' := 0) (ms' := 0) C dX5_earns_53 it_X5_66 (by decide) (Nat.le_of_ble_eq_true rfl) (c_X8_cut (j_max 0 (v6 - (Int32.toInt64 v8))) (Int32.toInt64 v13) (by omega) e16) (fun v_ h_ n_ q_ => ?_)
    obtain ⟨q1_, q2_, q3_⟩ := q_
    subst v_; subst h_; subst n_
    show WW W0 G 9 _ _ _ 56 [some (.ref l0), some (.long l1), none, some (.long (l1 - (Int32.toInt64 v3))), none, some (.long (j_max 0 (v6 - (Int32.toInt64 v8)))), none, none, none] [.long v15, .long (Int32.toInt64 v11)] h n _ _
    refine rr_aload_n (i := 0) C dX5_earns_56 rfl rfl ?_
    replace hr := Option.bind_eq_some_iff.mp hr
    obtain ⟨v17, e18, hr⟩ := hr
    refine rr_rdI C dX5_earns_57 fl_X5_69 e18 ?_
    refine rr_i2l C dX5_earns_60 ?_
    refine rr_lmul C dX5_earns_61 ?_
    refine rr_mmin_long C dX5_earns_62 ma_X5_72 (by decide) (Nat.le_of_ble_eq_true rfl) ?_
    refine rr_lstore C dX5_earns_65 (by decide) ?_
    show WW W0 G 9 _ _ _ 67 [some (.ref l0), some (.long l1), none, some (.long (l1 - (Int32.toInt64 v3))), none, some (.long (j_max 0 (v6 - (Int32.toInt64 v8)))), none, some (.long (j_min (Int32.toInt64 v11) (v15 * (Int32.toInt64 v17)))), none] [] h n _ _
    refine rr_lload_n (i := 3) C dX5_earns_67 rfl rfl ?_
    refine rr_lconst (v := 0) C dX5_earns_68 (by decide) ?_
    refine rr_lcmp C dX5_earns_69 ?_
    refine rr_if_ge (tgt := 79) C dX5_earns_70 (by decide) (fun c70_ => ?_) (fun c70_ => ?_)
    · replace hr := (if_pos c70_).symm.trans hr
      refine rr_lload C dX5_earns_79 rfl ?_
      obtain rfl := Option.some.inj hr
      exact rr_lret C dX5_earns_81 rfl ⟨rfl, rfl, rfl⟩
    · replace hr := (if_neg c70_).symm.trans hr
      refine rr_lload C dX5_earns_73 rfl ?_
      refine rr_lneg C dX5_earns_75 ?_
      refine rr_goto (tgt := 81) C dX5_earns_76 (by decide) ?_
      obtain rfl := Option.some.inj hr
      exact rr_lret C dX5_earns_81 rfl ⟨rfl, rfl, rfl⟩
def q_X6_add (K : Nat) (h : mm_H) (n : Nat) (l0 : Nat) (l1 : Option Nat) : Option (mm_H) :=
  (rdI h n l0 6 1).bind fun v1 =>
  (rdR h n l0 6 0).bind fun v3 =>
  v3.bind fun a5 =>
  (lenA h n a5 4).bind fun v7 =>
  if v7 ≤ v1 then
    some h
  else
  (rdR h n l0 6 0).bind fun v9 =>
  (rdI h n l0 6 1).bind fun v11 =>
  l1.bind fun a13 =>
  v9.bind fun a15 =>
  (stR h n a15 4 5 v11 a13).bind fun h17 =>
  (rdI h17 n l0 6 1).bind fun v19 =>
  (wrF h17 n l0 6 1 (.int (v19 + 1))).bind fun h21 =>
  some h21
set_option maxRecDepth 100000 in
set_option maxHeartbeats 4000000 in
theorem c_X6_add {K : Nat} {G : mm_G} {l : Launch} {h : mm_H} {n : Nat} (l0 : Nat) (l1 : Option Nat) {r_ : mm_H} (hn : 32 ≤ n) (hr : q_X6_add K h n l0 l1 = some r_) : Sp G l yX6_add cX6_add 2 none 0 0 0 [.ref l0, va_rf l1] h n (fun v h' n' => v = none ∧ h' = r_ ∧ n' = n) := by
  refine Sp_of (by decide +kernel) (by rcases l1 with _ | _ <;> exact Nat.le_of_ble_eq_true rfl) hn ?_
  intro W0 hwl C
  subst hwl
  unfold q_X6_add at hr
  rw [show mm_en 2 [.ref l0, va_rf l1] = [some (.ref l0), some (va_rf l1)] from by rcases l1 with _ | _ <;> rfl]
  show WW W0 G 2 0 0 _ 0 [some (.ref l0), some (va_rf l1)] [] h n 0 0
  refine rr_aload_n (i := 0) C dX6_add_0 rfl rfl ?_
  replace hr := Option.bind_eq_some_iff.mp hr
  obtain ⟨v1, e2, hr⟩ := hr
  refine rr_rdI C dX6_add_1 fl_X6_23 e2 ?_
  refine rr_aload_n (i := 0) C dX6_add_4 rfl rfl ?_
  replace hr := Option.bind_eq_some_iff.mp hr
  obtain ⟨v3, e4, hr⟩ := hr
  refine rr_rdR C dX6_add_5 fl_X6_17 e4 ?_
  replace hr := Option.bind_eq_some_iff.mp hr
  obtain ⟨a5, e6, hr⟩ := hr
  subst e6
  replace hr := Option.bind_eq_some_iff.mp hr
  obtain ⟨v7, e8, hr⟩ := hr
  refine rr_lenA C dX6_add_8 e8 ?_
  refine rr_icmp_ge (tgt := 32) C dX6_add_9 (by decide) (fun c9_ => ?_) (fun c9_ => ?_)
  · replace hr := (if_pos c9_).symm.trans hr
    obtain rfl := Option.some.inj hr
    exact rr_vret C dX6_add_32 rfl ⟨rfl, rfl, rfl⟩
  · replace hr := (if_neg c9_).symm.trans hr
    refine rr_aload_n (i := 0) C dX6_add_12 rfl rfl ?_
    replace hr := Option.bind_eq_some_iff.mp hr
    obtain ⟨v9, e10, hr⟩ := hr
    refine rr_rdR C dX6_add_13 fl_X6_17 e10 ?_
    refine rr_aload_n (i := 0) C dX6_add_16 rfl rfl ?_
    replace hr := Option.bind_eq_some_iff.mp hr
    obtain ⟨v11, e12, hr⟩ := hr
    refine rr_rdI C dX6_add_17 fl_X6_23 e12 ?_
    refine rr_aload_nO (i := 1) C dX6_add_20 rfl rfl ?_
    replace hr := Option.bind_eq_some_iff.mp hr
    obtain ⟨a13, e14, hr⟩ := hr
    subst e14
    replace hr := Option.bind_eq_some_iff.mp hr
    obtain ⟨a15, e16, hr⟩ := hr
    subst e16
    replace hr := Option.bind_eq_some_iff.mp hr
    obtain ⟨h17, e18, hr⟩ := hr
    refine rr_stR C dX6_add_21 (t0 := 4) (ci := 5) rfl rfl e18 ?_
    refine rr_aload_n (i := 0) C dX6_add_22 rfl rfl ?_
    refine rr_dup C dX6_add_23 rfl ?_
    replace hr := Option.bind_eq_some_iff.mp hr
    obtain ⟨v19, e20, hr⟩ := hr
    refine rr_rdI C dX6_add_24 fl_X6_23 e20 ?_
    refine rr_iconst (v := 1) C dX6_add_27 (by decide) ?_
    refine rr_iadd C dX6_add_28 ?_
    replace hr := Option.bind_eq_some_iff.mp hr
    obtain ⟨h21, e22, hr⟩ := hr
    refine rr_wrF C dX6_add_29 fp_X6_23 rfl rfl e22 ?_
    obtain rfl := Option.some.inj hr
    exact rr_vret C dX6_add_32 rfl ⟨rfl, rfl, rfl⟩
def q_X6_at (K : Nat) (h : mm_H) (n : Nat) (l0 : Nat) (l1 : Int32) : Option (Option Nat) :=
  if l1 < 0 then
    some none
  else
  (rdI h n l0 6 1).bind fun v1 =>
  if v1 ≤ l1 then
    some none
  else
  (rdR h n l0 6 0).bind fun v3 =>
  v3.bind fun a5 =>
  (ldR h n a5 4 l1).bind fun v7 =>
  some v7
set_option maxRecDepth 100000 in
set_option maxHeartbeats 4000000 in
theorem c_X6_at {K : Nat} {G : mm_G} {l : Launch} {h : mm_H} {n : Nat} (l0 : Nat) (l1 : Int32) {r_ : Option Nat} (hn : 32 ≤ n) (hr : q_X6_at K h n l0 l1 = some r_) : Sp G l yX6_at cX6_at 2 (some (.object "WaterReview$Rule")) 0 0 0 [.ref l0, .int l1] h n (fun v h' n' => v = some (va_rf r_) ∧ h' = h ∧ n' = n) := by
  refine Sp_of (by decide +kernel) (Nat.le_of_ble_eq_true rfl) hn ?_
  intro W0 hwl C
  subst hwl
  unfold q_X6_at at hr
  show WW W0 G 2 0 0 _ 0 [some (.ref l0), some (.int l1)] [] h n 0 0
  refine rr_iload_n (i := 1) C dX6_at_0 rfl rfl ?_
  refine rr_if_lt (tgt := 21) C dX6_at_1 (by decide) (fun c1_ => ?_) (fun c1_ => ?_)
  · replace hr := (if_pos c1_).symm.trans hr
    refine rr_null C dX6_at_21 ?_
    obtain rfl := Option.some.inj hr
    exact rr_aret (r := none) C dX6_at_22 rfl (Or.inl ⟨_, rfl⟩) ⟨rfl, rfl, rfl⟩
  · replace hr := (if_neg c1_).symm.trans hr
    refine rr_iload_n (i := 1) C dX6_at_4 rfl rfl ?_
    refine rr_aload_n (i := 0) C dX6_at_5 rfl rfl ?_
    replace hr := Option.bind_eq_some_iff.mp hr
    obtain ⟨v1, e2, hr⟩ := hr
    refine rr_rdI C dX6_at_6 fl_X6_23 e2 ?_
    refine rr_icmp_ge (tgt := 21) C dX6_at_9 (by decide) (fun c9_ => ?_) (fun c9_ => ?_)
    · replace hr := (if_pos c9_).symm.trans hr
      refine rr_null C dX6_at_21 ?_
      obtain rfl := Option.some.inj hr
      exact rr_aret (r := none) C dX6_at_22 rfl (Or.inl ⟨_, rfl⟩) ⟨rfl, rfl, rfl⟩
    · replace hr := (if_neg c9_).symm.trans hr
      refine rr_aload_n (i := 0) C dX6_at_12 rfl rfl ?_
      replace hr := Option.bind_eq_some_iff.mp hr
      obtain ⟨v3, e4, hr⟩ := hr
      refine rr_rdR C dX6_at_13 fl_X6_17 e4 ?_
      refine rr_iload_n (i := 1) C dX6_at_16 rfl rfl ?_
      replace hr := Option.bind_eq_some_iff.mp hr
      obtain ⟨a5, e6, hr⟩ := hr
      subst e6
      replace hr := Option.bind_eq_some_iff.mp hr
      obtain ⟨v7, e8, hr⟩ := hr
      refine rr_ldR C dX6_at_17 e8 ?_
      refine rr_goto (tgt := 22) C dX6_at_18 (by decide) ?_
      obtain rfl := Option.some.inj hr
      exact rr_aret (r := v7) C dX6_at_22 rfl (Or.inl ⟨_, rfl⟩) ⟨rfl, rfl, rfl⟩

/-! ===== firm, fact, tell ===== -/
section CALLB
variable {K n : Nat} {h : mm_H}
theorem cN_lt {x : Int32} {m N : Nat} (hx : x = ni m) (hm : m < 2147483648) (hN : N < 2147483648) : (x < ni N) ↔ m < N := by rw [hx]; exact ni_lt hm hN
theorem upd_s (f : Nat → Int32) (i : Nat) (x : Int32) : upd f i x i = x := by simp [upd]
theorem upd_n {f : Nat → Int32} {i j : Nat} {x : Int32} (q : j ≠ i) : upd f i x j = f j := by simp [upd, q]
theorem S_1 {l3 : Int32} {kc ks : Nat} {x : Nat → Int32} (c : PS h) (hn : 208 ≤ n) (j : JR h) (sc : SCR (h 0) n l3 x) : ∃ g, st_law_1 K h n l3 kc ks = some (g, n, kc, ks) ∧ PS g ∧ JR g ∧ FB h g := by
  obtain ⟨s1, -⟩ := sc h rfl
  obtain ⟨uT, uF, uA, uW, uB, uL, uP⟩ := id j
  unfold st_law_1
  simp only [s1, gq_48 c hn, Option.bind_some]
  by_cases h1 : mm_in (x 1) 0 999999 = 0
  · have k1 : q_X10_firm K h n 48 (x 1) = some (-1, h) := by
      unfold q_X10_firm
      simp only [z_X10_isWithin, Option.bind_some, if_pos h1]
    have k2 : q_X11_firm K h n 159 (x 1) = some (-1, h) := by
      unfold q_X11_firm
      simp only [z_X11_isIn, Option.bind_some, if_pos h1]
    simp only [k1, k2, s1, gq_159 c hn, Option.bind_some, if_true]
    exact ⟨h, rfl, c, j, FB.id_⟩
  · obtain ⟨⟨m, hm, hm11⟩, uF2, uF3⟩ := id uF
    by_cases h2 : m < 11
    · have e2 : fI h 49 5 < 11 := by rw [hm]; exact (ni_lt (b := 11) (by omega) (by omega)).mpr h2
      have i2 : inb (fI h 49 5) 11 = true := by rw [hm]; exact ni_inb (by omega) h2
      have k1 : q_X10_firm K h n 48 (x 1) = some (fI h 49 5 + 1 - 1, mm_sf (mm_si h 50 m (x 1)) 49 5 (.int (fI h 49 5 + 1))) := by
        unfold q_X10_firm q_X4_takeFirm
        simp (maxDischargeDepth := 40) only [z_X10_isWithin, Option.bind_some, if_neg h1, gq_48, g_48_0, g_48_1, g_48_2, g_48_3, g_48_4, g_48_5, p_48_5, ps_48_5, fs_48_5, g_48_6, g_48_7, p_48_7, ps_48_7, fs_48_7, g_48_8, p_48_8, ps_48_8, fs_48_8, g_48_9, g_48_10, p_48_10, ps_48_10, fs_48_10, g_48_11, gq_49, g_49_0, g_49_1, g_49_2, g_49_3, g_49_4, g_49_5, p_49_5, ps_49_5, fs_49_5, g_49_6, p_49_6, ps_49_6, fs_49_6, gl_50, ge_50, pe_50, ps_50, is_50, c, hn, e2, i2, if_true, fI_sf_n, fJ_sf_n, fR_sf_n, fI_sf_o, fJ_sf_o, fR_sf_o, iA_sf, jA_sf, rA_sf, fI_si, fJ_si, fR_si, iA_si_n, jA_si, rA_si, fI_sj, fJ_sj, fR_sj, iA_sj, jA_sj_n, rA_sj, fI_sr, fJ_sr, fR_sr, iA_sr, jA_sr, rA_sr_n, ne_eq, not_false_eq_true, Nat.reduceEqDiff, Nat.zero_ne_one, Nat.one_ne_zero]
        rw [hm, ni_tn (by omega)]
      generalize hg : mm_sf (mm_si h 50 m (x 1)) 49 5 (.int (fI h 49 5 + 1)) = g at k1
      have c1 : PS g := by rw [← hg]; exact ps_49_5 (ps_50 c _ _) _
      have g0 : g 0 = h 0 := by rw [← hg, mm_sf_n (by decide), mm_si_n (by decide)]
      obtain ⟨t1, -⟩ := sc g g0
      have f1 : fI g 159 1 = fI h 49 5 := by rw [← hg]; simp only [fI_sf_n, fJ_sf_n, fR_sf_n, fI_sf_o, fJ_sf_o, fR_sf_o, iA_sf, jA_sf, rA_sf, fI_si, fJ_si, fR_si, iA_si_n, jA_si, rA_si, fI_sj, fJ_sj, fR_sj, iA_sj, jA_sj_n, rA_sj, fI_sr, fJ_sr, fR_sr, iA_sr, jA_sr, rA_sr_n, ne_eq, not_false_eq_true, Nat.reduceEqDiff, Nat.zero_ne_one, Nat.one_ne_zero]; exact uF2
      have n2 : ¬ fI h 49 5 = 11 := by rw [hm]; exact fun q => by have := (ni_inj (b := 11) (by omega) (by omega)).mp q; omega
      have k2 : q_X11_firm K g n 159 (x 1) = some (fI h 49 5 + 1 - 1, mm_sf (mm_sj g 162 m (Int32.toInt64 (x 1))) 159 1 (.int (fI h 49 5 + 1))) := by
        unfold q_X11_firm
        simp (maxDischargeDepth := 40) only [z_X11_isIn, Option.bind_some, if_neg h1, gq_159, g_159_0, p_159_0, ps_159_0, fs_159_0, g_159_1, p_159_1, ps_159_1, fs_159_1, g_159_2, p_159_2, ps_159_2, fs_159_2, g_159_3, g_159_4, g_159_5, g_159_6, g_159_7, g_159_8, p_159_8, ps_159_8, fs_159_8, g_159_9, p_159_9, ps_159_9, fs_159_9, g_159_10, p_159_10, ps_159_10, fs_159_10, g_159_11, g_159_12, g_159_13, g_159_14, g_159_15, g_159_16, g_159_17, g_159_18, g_159_19, g_159_20, g_159_21, g_159_22, g_159_23, g_159_24, p_159_24, ps_159_24, fs_159_24, g_159_25, p_159_25, ps_159_25, fs_159_25, g_159_26, p_159_26, ps_159_26, fs_159_26, g_159_27, p_159_27, ps_159_27, fs_159_27, g_159_28, p_159_28, ps_159_28, fs_159_28, g_159_29, p_159_29, ps_159_29, fs_159_29, g_159_30, p_159_30, ps_159_30, fs_159_30, g_159_31, p_159_31, ps_159_31, fs_159_31, g_159_32, g_159_33, g_159_34, g_159_35, g_159_36, g_159_37, g_159_38, g_159_39, g_159_40, g_159_41, g_159_42, g_159_43, g_159_44, g_159_45, g_159_46, g_159_47, g_159_48, g_159_49, g_159_50, g_159_51, g_159_52, g_159_53, g_159_54, p_159_54, ps_159_54, fs_159_54, g_159_55, p_159_55, ps_159_55, fs_159_55, g_159_56, p_159_56, ps_159_56, fs_159_56, g_159_57, p_159_57, ps_159_57, fs_159_57, g_159_58, g_159_59, g_159_60, g_159_61, g_159_62, g_159_63, g_159_64, g_159_65, p_159_65, ps_159_65, fs_159_65, g_159_66, p_159_66, ps_159_66, fs_159_66, g_159_67, gl_162, ge_162, pe_162, ps_162, is_162, c1, hn, f1, n2, if_false, i2, if_true, fI_sf_n, fJ_sf_n, fR_sf_n, fI_sf_o, fJ_sf_o, fR_sf_o, iA_sf, jA_sf, rA_sf, fI_si, fJ_si, fR_si, iA_si_n, jA_si, rA_si, fI_sj, fJ_sj, fR_sj, iA_sj, jA_sj_n, rA_sj, fI_sr, fJ_sr, fR_sr, iA_sr, jA_sr, rA_sr_n, ne_eq, not_false_eq_true, Nat.reduceEqDiff, Nat.zero_ne_one, Nat.one_ne_zero]
        rw [hm, ni_tn (by omega)]
      simp only [k1, k2, t1, gq_159 c1 hn, Option.bind_some, if_true]
      refine ⟨_, rfl, ps_159_1 (ps_162 c1 _ _) _, ?_, ?_⟩
      · have c2 : PS (mm_sj g 162 m (Int32.toInt64 (x 1))) := ps_162 c1 _ _
        have ch : PS (mm_si h 50 m (x 1)) := ps_50 c _ _
        refine ⟨?_, ?_, ?_, ?_, ?_, ?_, ?_⟩
        · simp only [JT, fI_sf_n, fJ_sf_n, fR_sf_n, fI_sf_o, fJ_sf_o, fR_sf_o, iA_sf, jA_sf, rA_sf, fI_si, fJ_si, fR_si, iA_si_n, jA_si, rA_si, fI_sj, fJ_sj, fR_sj, iA_sj, jA_sj_n, rA_sj, fI_sr, fJ_sr, fR_sr, iA_sr, jA_sr, rA_sr_n, ne_eq, not_false_eq_true, Nat.reduceEqDiff, Nat.zero_ne_one, Nat.one_ne_zero, ← hg]; exact uT
        · have r1 : fI g 49 5 = fI h 49 5 + 1 := by rw [← hg]; exact fs_49_5 ch _
          have r2 : iA g 50 = upd (iA h 50) m (x 1) := by rw [← hg]; simp only [fI_sf_n, fJ_sf_n, fR_sf_n, fI_sf_o, fJ_sf_o, fR_sf_o, iA_sf, jA_sf, rA_sf, fI_si, fJ_si, fR_si, iA_si_n, jA_si, rA_si, fI_sj, fJ_sj, fR_sj, iA_sj, jA_sj_n, rA_sj, fI_sr, fJ_sr, fR_sr, iA_sr, jA_sr, rA_sr_n, ne_eq, not_false_eq_true, Nat.reduceEqDiff, Nat.zero_ne_one, Nat.one_ne_zero, is_50 c]
          have r3 : jA g 162 = jA h 162 := by rw [← hg]; simp only [fI_sf_n, fJ_sf_n, fR_sf_n, fI_sf_o, fJ_sf_o, fR_sf_o, iA_sf, jA_sf, rA_sf, fI_si, fJ_si, fR_si, iA_si_n, jA_si, rA_si, fI_sj, fJ_sj, fR_sj, iA_sj, jA_sj_n, rA_sj, fI_sr, fJ_sr, fR_sr, iA_sr, jA_sr, rA_sr_n, ne_eq, not_false_eq_true, Nat.reduceEqDiff, Nat.zero_ne_one, Nat.one_ne_zero]
          simp only [JF, fs_159_1 c2, is_162 c1, r1, r2, r3, fI_sf_n, fJ_sf_n, fR_sf_n, fI_sf_o, fJ_sf_o, fR_sf_o, iA_sf, jA_sf, rA_sf, fI_si, fJ_si, fR_si, iA_si_n, jA_si, rA_si, fI_sj, fJ_sj, fR_sj, iA_sj, jA_sj_n, rA_sj, fI_sr, fJ_sr, fR_sr, iA_sr, jA_sr, rA_sr_n, ne_eq, not_false_eq_true, Nat.reduceEqDiff, Nat.zero_ne_one, Nat.one_ne_zero]
          refine ⟨⟨m + 1, by rw [hm, ni_1], by omega⟩, rfl, fun i hi => ?_⟩
          by_cases q : i = m
          · subst q; simp [upd, vp_updL]
          · simp [upd, vp_updL, q]; exact uF3 i hi
        · simp only [JA, fI_sf_n, fJ_sf_n, fR_sf_n, fI_sf_o, fJ_sf_o, fR_sf_o, iA_sf, jA_sf, rA_sf, fI_si, fJ_si, fR_si, iA_si_n, jA_si, rA_si, fI_sj, fJ_sj, fR_sj, iA_sj, jA_sj_n, rA_sj, fI_sr, fJ_sr, fR_sr, iA_sr, jA_sr, rA_sr_n, ne_eq, not_false_eq_true, Nat.reduceEqDiff, Nat.zero_ne_one, Nat.one_ne_zero, ← hg]; exact uA
        · simp only [JW, fI_sf_n, fJ_sf_n, fR_sf_n, fI_sf_o, fJ_sf_o, fR_sf_o, iA_sf, jA_sf, rA_sf, fI_si, fJ_si, fR_si, iA_si_n, jA_si, rA_si, fI_sj, fJ_sj, fR_sj, iA_sj, jA_sj_n, rA_sj, fI_sr, fJ_sr, fR_sr, iA_sr, jA_sr, rA_sr_n, ne_eq, not_false_eq_true, Nat.reduceEqDiff, Nat.zero_ne_one, Nat.one_ne_zero, ← hg]; exact uW
        · simp only [JB, fI_sf_n, fJ_sf_n, fR_sf_n, fI_sf_o, fJ_sf_o, fR_sf_o, iA_sf, jA_sf, rA_sf, fI_si, fJ_si, fR_si, iA_si_n, jA_si, rA_si, fI_sj, fJ_sj, fR_sj, iA_sj, jA_sj_n, rA_sj, fI_sr, fJ_sr, fR_sr, iA_sr, jA_sr, rA_sr_n, ne_eq, not_false_eq_true, Nat.reduceEqDiff, Nat.zero_ne_one, Nat.one_ne_zero, ← hg]; exact uB
        · simp only [JL, fI_sf_n, fJ_sf_n, fR_sf_n, fI_sf_o, fJ_sf_o, fR_sf_o, iA_sf, jA_sf, rA_sf, fI_si, fJ_si, fR_si, iA_si_n, jA_si, rA_si, fI_sj, fJ_sj, fR_sj, iA_sj, jA_sj_n, rA_sj, fI_sr, fJ_sr, fR_sr, iA_sr, jA_sr, rA_sr_n, ne_eq, not_false_eq_true, Nat.reduceEqDiff, Nat.zero_ne_one, Nat.one_ne_zero, ← hg]; exact uL
        · simp only [JP, fI_sf_n, fJ_sf_n, fR_sf_n, fI_sf_o, fJ_sf_o, fR_sf_o, iA_sf, jA_sf, rA_sf, fI_si, fJ_si, fR_si, iA_si_n, jA_si, rA_si, fI_sj, fJ_sj, fR_sj, iA_sj, jA_sj_n, rA_sj, fI_sr, fJ_sr, fR_sr, iA_sr, jA_sr, rA_sr_n, ne_eq, not_false_eq_true, Nat.reduceEqDiff, Nat.zero_ne_one, Nat.one_ne_zero, ← hg]; exact uP
      · refine ⟨fun a ha => ?_, ?_⟩
        · rw [mm_sf_n (by omega), mm_sj_n (by omega), ← hg, mm_sf_n (by omega), mm_si_n (by omega)]
        · simp only [fI_sf_n, fJ_sf_n, fR_sf_n, fI_sf_o, fJ_sf_o, fR_sf_o, iA_sf, jA_sf, rA_sf, fI_si, fJ_si, fR_si, iA_si_n, jA_si, rA_si, fI_sj, fJ_sj, fR_sj, iA_sj, jA_sj_n, rA_sj, fI_sr, fJ_sr, fR_sr, iA_sr, jA_sr, rA_sr_n, ne_eq, not_false_eq_true, Nat.reduceEqDiff, Nat.zero_ne_one, Nat.one_ne_zero, ← hg, and_self]
    · have e2 : ¬ fI h 49 5 < 11 := by rw [hm]; exact fun q => h2 ((ni_lt (b := 11) (by omega) (by omega)).mp q)
      have e3 : fI h 159 1 = 11 := by rw [uF2, hm, show m = 11 by omega]; rfl
      have k1 : q_X10_firm K h n 48 (x 1) = some (-1, h) := by
        unfold q_X10_firm q_X4_takeFirm
        simp (maxDischargeDepth := 40) only [z_X10_isWithin, Option.bind_some, if_neg h1, gq_48, g_48_0, g_48_1, g_48_2, g_48_3, g_48_4, g_48_5, p_48_5, ps_48_5, fs_48_5, g_48_6, g_48_7, p_48_7, ps_48_7, fs_48_7, g_48_8, p_48_8, ps_48_8, fs_48_8, g_48_9, g_48_10, p_48_10, ps_48_10, fs_48_10, g_48_11, gq_49, g_49_0, g_49_1, g_49_2, g_49_3, g_49_4, g_49_5, p_49_5, ps_49_5, fs_49_5, g_49_6, p_49_6, ps_49_6, fs_49_6, gl_50, ge_50, pe_50, ps_50, is_50, c, hn, e2, if_false]
      have k2 : q_X11_firm K h n 159 (x 1) = some (-1, h) := by
        unfold q_X11_firm
        simp (maxDischargeDepth := 40) only [z_X11_isIn, Option.bind_some, if_neg h1, gq_159, g_159_0, p_159_0, ps_159_0, fs_159_0, g_159_1, p_159_1, ps_159_1, fs_159_1, g_159_2, p_159_2, ps_159_2, fs_159_2, g_159_3, g_159_4, g_159_5, g_159_6, g_159_7, g_159_8, p_159_8, ps_159_8, fs_159_8, g_159_9, p_159_9, ps_159_9, fs_159_9, g_159_10, p_159_10, ps_159_10, fs_159_10, g_159_11, g_159_12, g_159_13, g_159_14, g_159_15, g_159_16, g_159_17, g_159_18, g_159_19, g_159_20, g_159_21, g_159_22, g_159_23, g_159_24, p_159_24, ps_159_24, fs_159_24, g_159_25, p_159_25, ps_159_25, fs_159_25, g_159_26, p_159_26, ps_159_26, fs_159_26, g_159_27, p_159_27, ps_159_27, fs_159_27, g_159_28, p_159_28, ps_159_28, fs_159_28, g_159_29, p_159_29, ps_159_29, fs_159_29, g_159_30, p_159_30, ps_159_30, fs_159_30, g_159_31, p_159_31, ps_159_31, fs_159_31, g_159_32, g_159_33, g_159_34, g_159_35, g_159_36, g_159_37, g_159_38, g_159_39, g_159_40, g_159_41, g_159_42, g_159_43, g_159_44, g_159_45, g_159_46, g_159_47, g_159_48, g_159_49, g_159_50, g_159_51, g_159_52, g_159_53, g_159_54, p_159_54, ps_159_54, fs_159_54, g_159_55, p_159_55, ps_159_55, fs_159_55, g_159_56, p_159_56, ps_159_56, fs_159_56, g_159_57, p_159_57, ps_159_57, fs_159_57, g_159_58, g_159_59, g_159_60, g_159_61, g_159_62, g_159_63, g_159_64, g_159_65, p_159_65, ps_159_65, fs_159_65, g_159_66, p_159_66, ps_159_66, fs_159_66, g_159_67, c, hn, e3, if_true]
      simp only [k1, k2, s1, gq_159 c hn, Option.bind_some, if_true]
      exact ⟨h, rfl, c, j, FB.id_⟩
theorem S_28 {l3 : Int32} {kc ks : Nat} {x : Nat → Int32} (c : PS h) (hn : 208 ≤ n) (j : JR h) (sc : SCR (h 0) n l3 x) : ∃ g, st_law_28 K h n l3 kc ks = some (g, n, kc, ks) ∧ PS g ∧ JR g ∧ FB h g := by
  obtain ⟨s1, s2, -⟩ := sc h rfl
  obtain ⟨uT, uF, uA, uW, uB, uL, uP⟩ := id j
  unfold st_law_28
  simp only [s1, s2, gq_48 c hn, Option.bind_some]
  by_cases h1 : mm_in (x 1) 0 14 = 0
  · have k1 : q_X10_tell K h n 48 (x 1) (x 2) = some (0, h) := by
      unfold q_X10_tell
      simp only [z_X10_isWithin, Option.bind_some, if_pos h1]
    have k2 : q_X11_tell K h n 159 (x 1) (x 2) = some (0, h) := by
      unfold q_X11_tell
      simp only [z_X11_isIn, Option.bind_some, if_pos h1]
    simp only [k1, k2, s1, s2, gq_159 c hn, Option.bind_some, if_true]
    exact ⟨h, rfl, c, j, FB.id_⟩
  · obtain ⟨m, hm, hx⟩ := mm_in_nat (N := 14) (by omega) h1
    have i2 : inb (x 1) 15 = true := by rw [hx]; exact ni_inb (by omega) (by omega)
    have k1 : q_X10_tell K h n 48 (x 1) (x 2) = some (1, mm_si h 158 m (x 2)) := by
      unfold q_X10_tell
      simp (maxDischargeDepth := 40) only [z_X10_isWithin, Option.bind_some, if_neg h1, gq_48, g_48_0, g_48_1, g_48_2, g_48_3, g_48_4, g_48_5, p_48_5, ps_48_5, fs_48_5, g_48_6, g_48_7, p_48_7, ps_48_7, fs_48_7, g_48_8, p_48_8, ps_48_8, fs_48_8, g_48_9, g_48_10, p_48_10, ps_48_10, fs_48_10, g_48_11, gl_158, ge_158, pe_158, ps_158, is_158, c, hn, i2, if_true]
      rw [hx, ni_tn (by omega)]
    have c1 : PS (mm_si h 158 m (x 2)) := ps_158 c _ _
    obtain ⟨t1, t2, -⟩ := sc (mm_si h 158 m (x 2)) (mm_si_n (by decide))
    have k2 : q_X11_tell K (mm_si h 158 m (x 2)) n 159 (x 1) (x 2) = some (1, mm_si (mm_si h 158 m (x 2)) 207 m (x 2)) := by
      unfold q_X11_tell
      simp (maxDischargeDepth := 40) only [z_X11_isIn, Option.bind_some, if_neg h1, gq_159, g_159_0, p_159_0, ps_159_0, fs_159_0, g_159_1, p_159_1, ps_159_1, fs_159_1, g_159_2, p_159_2, ps_159_2, fs_159_2, g_159_3, g_159_4, g_159_5, g_159_6, g_159_7, g_159_8, p_159_8, ps_159_8, fs_159_8, g_159_9, p_159_9, ps_159_9, fs_159_9, g_159_10, p_159_10, ps_159_10, fs_159_10, g_159_11, g_159_12, g_159_13, g_159_14, g_159_15, g_159_16, g_159_17, g_159_18, g_159_19, g_159_20, g_159_21, g_159_22, g_159_23, g_159_24, p_159_24, ps_159_24, fs_159_24, g_159_25, p_159_25, ps_159_25, fs_159_25, g_159_26, p_159_26, ps_159_26, fs_159_26, g_159_27, p_159_27, ps_159_27, fs_159_27, g_159_28, p_159_28, ps_159_28, fs_159_28, g_159_29, p_159_29, ps_159_29, fs_159_29, g_159_30, p_159_30, ps_159_30, fs_159_30, g_159_31, p_159_31, ps_159_31, fs_159_31, g_159_32, g_159_33, g_159_34, g_159_35, g_159_36, g_159_37, g_159_38, g_159_39, g_159_40, g_159_41, g_159_42, g_159_43, g_159_44, g_159_45, g_159_46, g_159_47, g_159_48, g_159_49, g_159_50, g_159_51, g_159_52, g_159_53, g_159_54, p_159_54, ps_159_54, fs_159_54, g_159_55, p_159_55, ps_159_55, fs_159_55, g_159_56, p_159_56, ps_159_56, fs_159_56, g_159_57, p_159_57, ps_159_57, fs_159_57, g_159_58, g_159_59, g_159_60, g_159_61, g_159_62, g_159_63, g_159_64, g_159_65, p_159_65, ps_159_65, fs_159_65, g_159_66, p_159_66, ps_159_66, fs_159_66, g_159_67, gl_207, ge_207, pe_207, ps_207, is_207, c1, hn, i2, if_true]
      rw [hx, ni_tn (by omega)]
    simp only [k1, k2, t1, t2, gq_159 c1 hn, Option.bind_some, if_true]
    refine ⟨_, rfl, ps_207 c1 _ _, ?_, ?_⟩
    · refine ⟨?_, ?_, ?_, ?_, ?_, ?_, ?_⟩
      · simp only [JT, is_207 c1, is_158 c, fI_sf_n, fJ_sf_n, fR_sf_n, fI_sf_o, fJ_sf_o, fR_sf_o, iA_sf, jA_sf, rA_sf, fI_si, fJ_si, fR_si, iA_si_n, jA_si, rA_si, fI_sj, fJ_sj, fR_sj, iA_sj, jA_sj_n, rA_sj, fI_sr, fJ_sr, fR_sr, iA_sr, jA_sr, rA_sr_n, ne_eq, not_false_eq_true, Nat.reduceEqDiff, Nat.zero_ne_one, Nat.one_ne_zero]
        exact ⟨uT.1, uT.2.1, by rw [uT.2.2]⟩
      · simp only [JF, fI_sf_n, fJ_sf_n, fR_sf_n, fI_sf_o, fJ_sf_o, fR_sf_o, iA_sf, jA_sf, rA_sf, fI_si, fJ_si, fR_si, iA_si_n, jA_si, rA_si, fI_sj, fJ_sj, fR_sj, iA_sj, jA_sj_n, rA_sj, fI_sr, fJ_sr, fR_sr, iA_sr, jA_sr, rA_sr_n, ne_eq, not_false_eq_true, Nat.reduceEqDiff, Nat.zero_ne_one, Nat.one_ne_zero]; exact uF
      · simp only [JA, fI_sf_n, fJ_sf_n, fR_sf_n, fI_sf_o, fJ_sf_o, fR_sf_o, iA_sf, jA_sf, rA_sf, fI_si, fJ_si, fR_si, iA_si_n, jA_si, rA_si, fI_sj, fJ_sj, fR_sj, iA_sj, jA_sj_n, rA_sj, fI_sr, fJ_sr, fR_sr, iA_sr, jA_sr, rA_sr_n, ne_eq, not_false_eq_true, Nat.reduceEqDiff, Nat.zero_ne_one, Nat.one_ne_zero]; exact uA
      · simp only [JW, fI_sf_n, fJ_sf_n, fR_sf_n, fI_sf_o, fJ_sf_o, fR_sf_o, iA_sf, jA_sf, rA_sf, fI_si, fJ_si, fR_si, iA_si_n, jA_si, rA_si, fI_sj, fJ_sj, fR_sj, iA_sj, jA_sj_n, rA_sj, fI_sr, fJ_sr, fR_sr, iA_sr, jA_sr, rA_sr_n, ne_eq, not_false_eq_true, Nat.reduceEqDiff, Nat.zero_ne_one, Nat.one_ne_zero]; exact uW
      · simp only [JB, fI_sf_n, fJ_sf_n, fR_sf_n, fI_sf_o, fJ_sf_o, fR_sf_o, iA_sf, jA_sf, rA_sf, fI_si, fJ_si, fR_si, iA_si_n, jA_si, rA_si, fI_sj, fJ_sj, fR_sj, iA_sj, jA_sj_n, rA_sj, fI_sr, fJ_sr, fR_sr, iA_sr, jA_sr, rA_sr_n, ne_eq, not_false_eq_true, Nat.reduceEqDiff, Nat.zero_ne_one, Nat.one_ne_zero]; exact uB
      · simp only [JL, fI_sf_n, fJ_sf_n, fR_sf_n, fI_sf_o, fJ_sf_o, fR_sf_o, iA_sf, jA_sf, rA_sf, fI_si, fJ_si, fR_si, iA_si_n, jA_si, rA_si, fI_sj, fJ_sj, fR_sj, iA_sj, jA_sj_n, rA_sj, fI_sr, fJ_sr, fR_sr, iA_sr, jA_sr, rA_sr_n, ne_eq, not_false_eq_true, Nat.reduceEqDiff, Nat.zero_ne_one, Nat.one_ne_zero]; exact uL
      · simp only [JP, fI_sf_n, fJ_sf_n, fR_sf_n, fI_sf_o, fJ_sf_o, fR_sf_o, iA_sf, jA_sf, rA_sf, fI_si, fJ_si, fR_si, iA_si_n, jA_si, rA_si, fI_sj, fJ_sj, fR_sj, iA_sj, jA_sj_n, rA_sj, fI_sr, fJ_sr, fR_sr, iA_sr, jA_sr, rA_sr_n, ne_eq, not_false_eq_true, Nat.reduceEqDiff, Nat.zero_ne_one, Nat.one_ne_zero]; exact uP
    · refine ⟨fun a ha => ?_, ?_⟩
      · rw [mm_si_n (by omega), mm_si_n (by omega)]
      · simp only [fI_sf_n, fJ_sf_n, fR_sf_n, fI_sf_o, fJ_sf_o, fR_sf_o, iA_sf, jA_sf, rA_sf, fI_si, fJ_si, fR_si, iA_si_n, jA_si, rA_si, fI_sj, fJ_sj, fR_sj, iA_sj, jA_sj_n, rA_sj, fI_sr, fJ_sr, fR_sr, iA_sr, jA_sr, rA_sr_n, ne_eq, not_false_eq_true, Nat.reduceEqDiff, Nat.zero_ne_one, Nat.one_ne_zero, and_self]
end CALLB

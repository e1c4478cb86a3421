/-! ===== the calls work, bench, log ===== -/
section CALLH
variable {K n : Nat} {h : mm_H}
theorem nDone_up (D : Nat → Int32) (m : Nat) (x : Int32) : ∀ k, k ≤ m → nDone (upd D m x) k = nDone D k := by
  intro k
  induction k with
  | zero => intro _; rfl
  | succ k ih =>
    intro hk
    unfold nDone
    rw [ih (by omega), upd_n (by omega)]
theorem ni_div {a b : Nat} (ha : a < 2147483648) (hb : b < 2147483648) : ni a / ni b = ni (a / b) := by
  refine Int32.toInt_inj.mp ?_
  rw [ni_int (Nat.lt_of_le_of_lt (Nat.div_le_self a b) ha), Int32.toInt_div, ni_int ha, ni_int hb]
  have e1 : ((a : Int).tdiv (b : Int)) = ((a / b : Nat) : Int) := by
    rw [Int.tdiv_eq_ediv_of_nonneg (by omega)]
    rfl
  have h3 := Nat.div_le_self a b
  rw [e1]
  generalize a / b = q at h3
  exact Int.bmod_eq_of_le (by omega) (by omega)

theorem S_4 {l3 : Int32} {kc ks : Nat} {x : Nat → Int32} (c : PS h) (hn : 208 ≤ n) (j : JR h) (sc : SCR (h 0) n l3 x) : ∃ g, st_law_4 K h n l3 kc ks = some (g, n, kc, ks) ∧ PS g ∧ JR g ∧ FB h g := by
  obtain ⟨s1, s2, s3, -⟩ := sc h rfl
  obtain ⟨uT, uF, uA, uW, uB, uL, uP⟩ := id j
  obtain ⟨q0, q1, q2, q3, m, hm, hm40, hd, hD⟩ := id uW
  obtain ⟨t0, ht0, ht1⟩ := id uT.1
  have no : q_X10_work K h n 48 (x 1) (x 2) (x 3) = some (-1, h) → q_X11_work K h n 159 (x 1) (x 2) (x 3) = some (-1, h) → ∃ g, st_law_4 K h n l3 kc ks = some (g, n, kc, ks) ∧ PS g ∧ JR g ∧ FB h g := by
    intro k1 k2
    unfold st_law_4
    simp only [s1, s2, s3, gq_48 c hn, gq_159 c hn, Option.bind_some, k1, k2, if_true]
    exact ⟨h, rfl, c, j, FB.id_⟩
  have n10 : ¬ (1 : Int32) = 0 := by decide
  have E2 : ∀ g, PS g → JF g → q_X11_work K g n 159 (x 1) (x 2) (x 3) = if mm_in (x 1) 0 (fI g 49 5 - 1) = 0 then some (-1, g) else if mm_in (x 2) 1 99999 = 0 then some (-1, g) else if mm_in (x 3) 0 14 = 0 then some (-1, g) else _ := fun g cg jg => by
    unfold q_X11_work
    simp only [gq_159 cg hn, y_X11_isFirm cg hn jg, z_X11_isYear, z_X11_isIn, z_X11_isHead, Option.bind_some]
    rfl
  by_cases a1 : mm_in (x 1) 0 (fI h 49 5 - 1) = 0
  · exact no (by unfold q_X10_work; simp only [gq_48 c hn, y_X10_isFirmsYear c hn uF, z_X10_isWithin, Option.bind_some]; simp only [a1, if_true]) (by rw [E2 h c uF, if_pos a1])
  by_cases a3 : mm_in (x 3) 0 14 = 0
  · refine no (by unfold q_X10_work; simp only [gq_48 c hn, y_X10_isFirmsYear c hn uF, z_X10_isWithin, Option.bind_some]; simp only [a1, a3, if_true, if_false]) ?_
    rw [E2 h c uF, if_neg a1]
    by_cases a2 : mm_in (x 2) 1 99999 = 0
    · rw [if_pos a2]
    · rw [if_neg a2, if_pos a3]
  by_cases a2 : mm_in (x 2) 1 99999 = 0
  · exact no (by unfold q_X10_work; simp only [gq_48 c hn, y_X10_isFirmsYear c hn uF, z_X10_isWithin, Option.bind_some]; simp only [a1, a3, a2, n10, if_true, if_false]) (by rw [E2 h c uF, if_neg a1, if_pos a2])
  obtain ⟨u, hu, hu2⟩ := mm_in_nat (N := 14) (by omega) a3
  have tm : (ni m).toNatClampNeg = m := ni_tn (by omega)
  by_cases hm5 : m < 40
  · have im : inb (ni m) 40 = true := ni_inb (by omega) hm5
    have lm : ni m < 40 := (ni_lt (b := 40) (by omega) (by omega)).mpr hm5
    have nm : ¬ ni m = 40 := fun q => by have := (ni_inj (b := 40) (by omega) (by omega)).mp q; omega
    have k1 : q_X10_work K h n 48 (x 1) (x 2) (x 3) = some (ni m + 1 - 1, mm_sf (mm_si (mm_si (mm_si (mm_si h 57 m (x 1)) 58 m (x 2)) 59 m (x 3)) 60 m (-1)) 56 4 (.int (ni m + 1))) := by
      unfold q_X10_work; simp only [gq_48 c hn, y_X10_isFirmsYear c hn uF, z_X10_isWithin, Option.bind_some]
      simp only [a1, a2, a3, n10, if_true, if_false]
      unfold q_X9_take
      simp (maxDischargeDepth := 60) only [gq_48, g_48_0, g_48_1, g_48_2, g_48_3, g_48_4, g_48_5, p_48_5, ps_48_5, fs_48_5, g_48_6, g_48_7, p_48_7, ps_48_7, fs_48_7, g_48_8, p_48_8, ps_48_8, fs_48_8, g_48_9, g_48_10, p_48_10, ps_48_10, fs_48_10, g_48_11, gq_49, g_49_0, g_49_1, g_49_2, g_49_3, g_49_4, g_49_5, p_49_5, ps_49_5, fs_49_5, g_49_6, p_49_6, ps_49_6, fs_49_6, gq_56, g_56_0, g_56_1, g_56_2, g_56_3, g_56_4, p_56_4, ps_56_4, fs_56_4, g_56_5, p_56_5, ps_56_5, fs_56_5, gl_57, ge_57, pe_57, ps_57, is_57, gl_58, ge_58, pe_58, ps_58, is_58, gl_59, ge_59, pe_59, ps_59, is_59, gl_60, ge_60, pe_60, ps_60, is_60, c, hn, Option.bind_some, hm, lm, im, tm, if_true, fI_sf_n, fJ_sf_n, fR_sf_n, fI_sf_o, fJ_sf_o, fR_sf_o, iA_sf, jA_sf, rA_sf, fI_si, fJ_si, fR_si, iA_si_n, jA_si, rA_si, fI_sj, fJ_sj, fR_sj, iA_sj, jA_sj_n, rA_sj, fI_sr, fJ_sr, fR_sr, iA_sr, jA_sr, rA_sr_n, ne_eq, not_false_eq_true, Nat.reduceEqDiff, Nat.zero_ne_one, Nat.one_ne_zero]
    generalize hg : mm_sf (mm_si (mm_si (mm_si (mm_si h 57 m (x 1)) 58 m (x 2)) 59 m (x 3)) 60 m (-1)) 56 4 (.int (ni m + 1)) = g at k1
    have bb1 : PS (mm_si h 57 m (x 1)) := ps_57 c _ _
    have bb2 : PS (mm_si (mm_si h 57 m (x 1)) 58 m (x 2)) := ps_58 bb1 _ _
    have bb3 : PS (mm_si (mm_si (mm_si h 57 m (x 1)) 58 m (x 2)) 59 m (x 3)) := ps_59 bb2 _ _
    have bb4 : PS (mm_si (mm_si (mm_si (mm_si h 57 m (x 1)) 58 m (x 2)) 59 m (x 3)) 60 m (-1)) := ps_60 bb3 _ _
    have c1 : PS g := by rw [← hg]; exact ps_56_4 bb4 _
    have g0 : g 0 = h 0 := by rw [← hg, mm_sf_n (by decide), mm_si_n (by decide), mm_si_n (by decide), mm_si_n (by decide), mm_si_n (by decide)]
    obtain ⟨t1, t2, t3, -⟩ := sc g g0
    have r1 : fI g 49 5 = fI h 49 5 := by rw [← hg]; simp only [fI_sf_n, fJ_sf_n, fR_sf_n, fI_sf_o, fJ_sf_o, fR_sf_o, iA_sf, jA_sf, rA_sf, fI_si, fJ_si, fR_si, iA_si_n, jA_si, rA_si, fI_sj, fJ_sj, fR_sj, iA_sj, jA_sj_n, rA_sj, fI_sr, fJ_sr, fR_sr, iA_sr, jA_sr, rA_sr_n, ne_eq, not_false_eq_true, Nat.reduceEqDiff, Nat.zero_ne_one, Nat.one_ne_zero]
    have r2 : fI g 159 8 = ni m := by rw [← hg]; simp only [fI_sf_n, fJ_sf_n, fR_sf_n, fI_sf_o, fJ_sf_o, fR_sf_o, iA_sf, jA_sf, rA_sf, fI_si, fJ_si, fR_si, iA_si_n, jA_si, rA_si, fI_sj, fJ_sj, fR_sj, iA_sj, jA_sj_n, rA_sj, fI_sr, fJ_sr, fR_sr, iA_sr, jA_sr, rA_sr_n, ne_eq, not_false_eq_true, Nat.reduceEqDiff, Nat.zero_ne_one, Nat.one_ne_zero]; exact q0.trans hm
    have r3 : fI g 159 0 = fI h 49 6 := by rw [← hg]; simp only [fI_sf_n, fJ_sf_n, fR_sf_n, fI_sf_o, fJ_sf_o, fR_sf_o, iA_sf, jA_sf, rA_sf, fI_si, fJ_si, fR_si, iA_si_n, jA_si, rA_si, fI_sj, fJ_sj, fR_sj, iA_sj, jA_sj_n, rA_sj, fI_sr, fJ_sr, fR_sr, iA_sr, jA_sr, rA_sr_n, ne_eq, not_false_eq_true, Nat.reduceEqDiff, Nat.zero_ne_one, Nat.one_ne_zero]; exact uT.2.1
    have gF : JF g := by simp only [JF, fI_sf_n, fJ_sf_n, fR_sf_n, fI_sf_o, fJ_sf_o, fR_sf_o, iA_sf, jA_sf, rA_sf, fI_si, fJ_si, fR_si, iA_si_n, jA_si, rA_si, fI_sj, fJ_sj, fR_sj, iA_sj, jA_sj_n, rA_sj, fI_sr, fJ_sr, fR_sr, iA_sr, jA_sr, rA_sr_n, ne_eq, not_false_eq_true, Nat.reduceEqDiff, Nat.zero_ne_one, Nat.one_ne_zero, ← hg]; exact uF
    have k2 : q_X11_work K g n 159 (x 1) (x 2) (x 3) = some (ni m + 1 - 1, mm_sf (mm_si (mm_si (mm_si (mm_si g 165 m (x 1)) 166 m (x 2)) 167 m (x 3)) 168 m 5000) 159 8 (.int (ni m + 1))) := by
      rw [E2 g c1 gF, r1, if_neg a1, if_neg a2, if_neg a3]
      simp (maxDischargeDepth := 60) only [gq_159, g_159_0, p_159_0, ps_159_0, fs_159_0, g_159_1, p_159_1, ps_159_1, fs_159_1, g_159_2, p_159_2, ps_159_2, fs_159_2, g_159_3, g_159_4, g_159_5, g_159_6, g_159_7, g_159_8, p_159_8, ps_159_8, fs_159_8, g_159_9, p_159_9, ps_159_9, fs_159_9, g_159_10, p_159_10, ps_159_10, fs_159_10, g_159_11, g_159_12, g_159_13, g_159_14, g_159_15, g_159_16, g_159_17, g_159_18, g_159_19, g_159_20, g_159_21, g_159_22, g_159_23, g_159_24, p_159_24, ps_159_24, fs_159_24, g_159_25, p_159_25, ps_159_25, fs_159_25, g_159_26, p_159_26, ps_159_26, fs_159_26, g_159_27, p_159_27, ps_159_27, fs_159_27, g_159_28, p_159_28, ps_159_28, fs_159_28, g_159_29, p_159_29, ps_159_29, fs_159_29, g_159_30, p_159_30, ps_159_30, fs_159_30, g_159_31, p_159_31, ps_159_31, fs_159_31, g_159_32, g_159_33, g_159_34, g_159_35, g_159_36, g_159_37, g_159_38, g_159_39, g_159_40, g_159_41, g_159_42, g_159_43, g_159_44, g_159_45, g_159_46, g_159_47, g_159_48, g_159_49, g_159_50, g_159_51, g_159_52, g_159_53, g_159_54, p_159_54, ps_159_54, fs_159_54, g_159_55, p_159_55, ps_159_55, fs_159_55, g_159_56, p_159_56, ps_159_56, fs_159_56, g_159_57, p_159_57, ps_159_57, fs_159_57, g_159_58, g_159_59, g_159_60, g_159_61, g_159_62, g_159_63, g_159_64, g_159_65, p_159_65, ps_159_65, fs_159_65, g_159_66, p_159_66, ps_159_66, fs_159_66, g_159_67, gl_165, ge_165, pe_165, ps_165, is_165, gl_166, ge_166, pe_166, ps_166, is_166, gl_167, ge_167, pe_167, ps_167, is_167, gl_168, ge_168, pe_168, ps_168, is_168, c1, hn, Option.bind_some, r2, r3, nm, if_false, im, tm, if_true, fI_sf_n, fJ_sf_n, fR_sf_n, fI_sf_o, fJ_sf_o, fR_sf_o, iA_sf, jA_sf, rA_sf, fI_si, fJ_si, fR_si, iA_si_n, jA_si, rA_si, fI_sj, fJ_sj, fR_sj, iA_sj, jA_sj_n, rA_sj, fI_sr, fJ_sr, fR_sr, iA_sr, jA_sr, rA_sr_n, ne_eq, not_false_eq_true, Nat.reduceEqDiff, Nat.zero_ne_one, Nat.one_ne_zero]
    refine ⟨mm_sf (mm_si (mm_si (mm_si (mm_si g 165 m (x 1)) 166 m (x 2)) 167 m (x 3)) 168 m 5000) 159 8 (.int (ni m + 1)), ?_, ?_, ?_, ?_⟩
    · unfold st_law_4
      simp only [s1, s2, s3, gq_48 c hn, Option.bind_some, k1, t1, t2, t3, gq_159 c1 hn, k2, if_true]
    · exact ps_159_8 (ps_168 (ps_167 (ps_166 (ps_165 c1 _ _) _ _) _ _) _ _) _
    · have d1 : PS (mm_si g 165 m (x 1)) := ps_165 c1 _ _
      have d2 : PS (mm_si (mm_si g 165 m (x 1)) 166 m (x 2)) := ps_166 d1 _ _
      have d3 : PS (mm_si (mm_si (mm_si g 165 m (x 1)) 166 m (x 2)) 167 m (x 3)) := ps_167 d2 _ _
      have d4 : PS (mm_si (mm_si (mm_si (mm_si g 165 m (x 1)) 166 m (x 2)) 167 m (x 3)) 168 m 5000) := ps_168 d3 _ _
      refine ⟨?_, ?_, ?_, ?_, ?_, ?_, ?_⟩
      · simp only [JT, fI_sf_n, fJ_sf_n, fR_sf_n, fI_sf_o, fJ_sf_o, fR_sf_o, iA_sf, jA_sf, rA_sf, fI_si, fJ_si, fR_si, iA_si_n, jA_si, rA_si, fI_sj, fJ_sj, fR_sj, iA_sj, jA_sj_n, rA_sj, fI_sr, fJ_sr, fR_sr, iA_sr, jA_sr, rA_sr_n, ne_eq, not_false_eq_true, Nat.reduceEqDiff, Nat.zero_ne_one, Nat.one_ne_zero, ← hg]; exact uT
      · simp only [JF, fI_sf_n, fJ_sf_n, fR_sf_n, fI_sf_o, fJ_sf_o, fR_sf_o, iA_sf, jA_sf, rA_sf, fI_si, fJ_si, fR_si, iA_si_n, jA_si, rA_si, fI_sj, fJ_sj, fR_sj, iA_sj, jA_sj_n, rA_sj, fI_sr, fJ_sr, fR_sr, iA_sr, jA_sr, rA_sr_n, ne_eq, not_false_eq_true, Nat.reduceEqDiff, Nat.zero_ne_one, Nat.one_ne_zero, ← hg]; exact uF
      · simp only [JA, fI_sf_n, fJ_sf_n, fR_sf_n, fI_sf_o, fJ_sf_o, fR_sf_o, iA_sf, jA_sf, rA_sf, fI_si, fJ_si, fR_si, iA_si_n, jA_si, rA_si, fI_sj, fJ_sj, fR_sj, iA_sj, jA_sj_n, rA_sj, fI_sr, fJ_sr, fR_sr, iA_sr, jA_sr, rA_sr_n, ne_eq, not_false_eq_true, Nat.reduceEqDiff, Nat.zero_ne_one, Nat.one_ne_zero, ← hg]; exact uA
      · have v1 : iA g 57 = upd (iA h 57) m (x 1) := by rw [← hg]; simp only [fI_sf_n, fJ_sf_n, fR_sf_n, fI_sf_o, fJ_sf_o, fR_sf_o, iA_sf, jA_sf, rA_sf, fI_si, fJ_si, fR_si, iA_si_n, jA_si, rA_si, fI_sj, fJ_sj, fR_sj, iA_sj, jA_sj_n, rA_sj, fI_sr, fJ_sr, fR_sr, iA_sr, jA_sr, rA_sr_n, ne_eq, not_false_eq_true, Nat.reduceEqDiff, Nat.zero_ne_one, Nat.one_ne_zero, is_57 c]
        have v2 : iA g 58 = upd (iA h 58) m (x 2) := by rw [← hg]; simp only [fI_sf_n, fJ_sf_n, fR_sf_n, fI_sf_o, fJ_sf_o, fR_sf_o, iA_sf, jA_sf, rA_sf, fI_si, fJ_si, fR_si, iA_si_n, jA_si, rA_si, fI_sj, fJ_sj, fR_sj, iA_sj, jA_sj_n, rA_sj, fI_sr, fJ_sr, fR_sr, iA_sr, jA_sr, rA_sr_n, ne_eq, not_false_eq_true, Nat.reduceEqDiff, Nat.zero_ne_one, Nat.one_ne_zero, is_58 bb1]
        have v3 : iA g 59 = upd (iA h 59) m (x 3) := by rw [← hg]; simp only [fI_sf_n, fJ_sf_n, fR_sf_n, fI_sf_o, fJ_sf_o, fR_sf_o, iA_sf, jA_sf, rA_sf, fI_si, fJ_si, fR_si, iA_si_n, jA_si, rA_si, fI_sj, fJ_sj, fR_sj, iA_sj, jA_sj_n, rA_sj, fI_sr, fJ_sr, fR_sr, iA_sr, jA_sr, rA_sr_n, ne_eq, not_false_eq_true, Nat.reduceEqDiff, Nat.zero_ne_one, Nat.one_ne_zero, is_59 bb2]
        have v4 : iA g 60 = upd (iA h 60) m (-1) := by rw [← hg]; simp only [fI_sf_n, fJ_sf_n, fR_sf_n, fI_sf_o, fJ_sf_o, fR_sf_o, iA_sf, jA_sf, rA_sf, fI_si, fJ_si, fR_si, iA_si_n, jA_si, rA_si, fI_sj, fJ_sj, fR_sj, iA_sj, jA_sj_n, rA_sj, fI_sr, fJ_sr, fR_sr, iA_sr, jA_sr, rA_sr_n, ne_eq, not_false_eq_true, Nat.reduceEqDiff, Nat.zero_ne_one, Nat.one_ne_zero, is_60 bb3]
        have w1 : iA g 165 = iA h 57 := by rw [← hg]; simp only [fI_sf_n, fJ_sf_n, fR_sf_n, fI_sf_o, fJ_sf_o, fR_sf_o, iA_sf, jA_sf, rA_sf, fI_si, fJ_si, fR_si, iA_si_n, jA_si, rA_si, fI_sj, fJ_sj, fR_sj, iA_sj, jA_sj_n, rA_sj, fI_sr, fJ_sr, fR_sr, iA_sr, jA_sr, rA_sr_n, ne_eq, not_false_eq_true, Nat.reduceEqDiff, Nat.zero_ne_one, Nat.one_ne_zero]; exact q1
        have w2 : iA g 166 = iA h 58 := by rw [← hg]; simp only [fI_sf_n, fJ_sf_n, fR_sf_n, fI_sf_o, fJ_sf_o, fR_sf_o, iA_sf, jA_sf, rA_sf, fI_si, fJ_si, fR_si, iA_si_n, jA_si, rA_si, fI_sj, fJ_sj, fR_sj, iA_sj, jA_sj_n, rA_sj, fI_sr, fJ_sr, fR_sr, iA_sr, jA_sr, rA_sr_n, ne_eq, not_false_eq_true, Nat.reduceEqDiff, Nat.zero_ne_one, Nat.one_ne_zero]; exact q2
        have w3 : iA g 167 = iA h 59 := by rw [← hg]; simp only [fI_sf_n, fJ_sf_n, fR_sf_n, fI_sf_o, fJ_sf_o, fR_sf_o, iA_sf, jA_sf, rA_sf, fI_si, fJ_si, fR_si, iA_si_n, jA_si, rA_si, fI_sj, fJ_sj, fR_sj, iA_sj, jA_sj_n, rA_sj, fI_sr, fJ_sr, fR_sr, iA_sr, jA_sr, rA_sr_n, ne_eq, not_false_eq_true, Nat.reduceEqDiff, Nat.zero_ne_one, Nat.one_ne_zero]; exact q3
        have w4 : iA g 168 = iA h 168 := by rw [← hg]; simp only [fI_sf_n, fJ_sf_n, fR_sf_n, fI_sf_o, fJ_sf_o, fR_sf_o, iA_sf, jA_sf, rA_sf, fI_si, fJ_si, fR_si, iA_si_n, jA_si, rA_si, fI_sj, fJ_sj, fR_sj, iA_sj, jA_sj_n, rA_sj, fI_sr, fJ_sr, fR_sr, iA_sr, jA_sr, rA_sr_n, ne_eq, not_false_eq_true, Nat.reduceEqDiff, Nat.zero_ne_one, Nat.one_ne_zero]
        have v0 : fI g 56 4 = ni m + 1 := by rw [← hg]; exact fs_56_4 bb4 _
        have v9 : fI g 56 5 = fI h 56 5 := by rw [← hg]; simp only [fI_sf_n, fJ_sf_n, fR_sf_n, fI_sf_o, fJ_sf_o, fR_sf_o, iA_sf, jA_sf, rA_sf, fI_si, fJ_si, fR_si, iA_si_n, jA_si, rA_si, fI_sj, fJ_sj, fR_sj, iA_sj, jA_sj_n, rA_sj, fI_sr, fJ_sr, fR_sr, iA_sr, jA_sr, rA_sr_n, ne_eq, not_false_eq_true, Nat.reduceEqDiff, Nat.zero_ne_one, Nat.one_ne_zero]
        simp only [JW, fs_159_8 d4, is_165 c1, is_166 d1, is_167 d2, is_168 d3, fI_sf_n, fJ_sf_n, fR_sf_n, fI_sf_o, fJ_sf_o, fR_sf_o, iA_sf, jA_sf, rA_sf, fI_si, fJ_si, fR_si, iA_si_n, jA_si, rA_si, fI_sj, fJ_sj, fR_sj, iA_sj, jA_sj_n, rA_sj, fI_sr, fJ_sr, fR_sr, iA_sr, jA_sr, rA_sr_n, ne_eq, not_false_eq_true, Nat.reduceEqDiff, Nat.zero_ne_one, Nat.one_ne_zero, v0, v1, v2, v3, v4, w1, w2, w3, w4, v9]
        refine ⟨rfl, rfl, rfl, rfl, m + 1, ni_1 m, by omega, ?_, fun i hi => ?_⟩
        · rw [hd]
          show ni (nDone (iA h 60) m) = ni (nDone (upd (iA h 60) m (-1)) m + if upd (iA h 60) m (-1) m = -1 then 0 else 1)
          rw [nDone_up _ _ _ _ (Nat.le_refl m), upd_s, if_pos rfl, Nat.add_zero]
        · by_cases him : i = m
          · subst him
            rw [upd_s, upd_s, upd_s]
            exact ⟨⟨u, hu2, hu⟩, Or.inl ⟨rfl, rfl⟩⟩
          · rw [upd_n him, upd_n him, upd_n him]
            exact hD i (by omega)
      · simp only [JB, fI_sf_n, fJ_sf_n, fR_sf_n, fI_sf_o, fJ_sf_o, fR_sf_o, iA_sf, jA_sf, rA_sf, fI_si, fJ_si, fR_si, iA_si_n, jA_si, rA_si, fI_sj, fJ_sj, fR_sj, iA_sj, jA_sj_n, rA_sj, fI_sr, fJ_sr, fR_sr, iA_sr, jA_sr, rA_sr_n, ne_eq, not_false_eq_true, Nat.reduceEqDiff, Nat.zero_ne_one, Nat.one_ne_zero, ← hg]; exact uB
      · simp only [JL, fI_sf_n, fJ_sf_n, fR_sf_n, fI_sf_o, fJ_sf_o, fR_sf_o, iA_sf, jA_sf, rA_sf, fI_si, fJ_si, fR_si, iA_si_n, jA_si, rA_si, fI_sj, fJ_sj, fR_sj, iA_sj, jA_sj_n, rA_sj, fI_sr, fJ_sr, fR_sr, iA_sr, jA_sr, rA_sr_n, ne_eq, not_false_eq_true, Nat.reduceEqDiff, Nat.zero_ne_one, Nat.one_ne_zero, ← hg]; exact uL
      · simp only [JP, fI_sf_n, fJ_sf_n, fR_sf_n, fI_sf_o, fJ_sf_o, fR_sf_o, iA_sf, jA_sf, rA_sf, fI_si, fJ_si, fR_si, iA_si_n, jA_si, rA_si, fI_sj, fJ_sj, fR_sj, iA_sj, jA_sj_n, rA_sj, fI_sr, fJ_sr, fR_sr, iA_sr, jA_sr, rA_sr_n, ne_eq, not_false_eq_true, Nat.reduceEqDiff, Nat.zero_ne_one, Nat.one_ne_zero, ← hg]; exact uP
    · refine ⟨fun a ha => ?_, ?_⟩
      · rw [mm_sf_n (by omega), mm_si_n (by omega), mm_si_n (by omega), mm_si_n (by omega), mm_si_n (by omega), ← hg, mm_sf_n (by omega), mm_si_n (by omega), mm_si_n (by omega), mm_si_n (by omega), mm_si_n (by omega)]
      · simp only [fI_sf_n, fJ_sf_n, fR_sf_n, fI_sf_o, fJ_sf_o, fR_sf_o, iA_sf, jA_sf, rA_sf, fI_si, fJ_si, fR_si, iA_si_n, jA_si, rA_si, fI_sj, fJ_sj, fR_sj, iA_sj, jA_sj_n, rA_sj, fI_sr, fJ_sr, fR_sr, iA_sr, jA_sr, rA_sr_n, ne_eq, not_false_eq_true, Nat.reduceEqDiff, Nat.zero_ne_one, Nat.one_ne_zero, ← hg, and_self]
  · have lm : ¬ ni m < 40 := fun q => hm5 ((ni_lt (b := 40) (by omega) (by omega)).mp q)
    have nm : ni m = 40 := by rw [show m = 40 by omega]; rfl
    refine no ?_ ?_
    · unfold q_X10_work; simp only [gq_48 c hn, y_X10_isFirmsYear c hn uF, z_X10_isWithin, Option.bind_some]
      simp only [a1, a2, a3, n10, if_true, if_false]
      unfold q_X9_take
      simp (maxDischargeDepth := 60) only [gq_48, g_48_0, g_48_1, g_48_2, g_48_3, g_48_4, g_48_5, p_48_5, ps_48_5, fs_48_5, g_48_6, g_48_7, p_48_7, ps_48_7, fs_48_7, g_48_8, p_48_8, ps_48_8, fs_48_8, g_48_9, g_48_10, p_48_10, ps_48_10, fs_48_10, g_48_11, gq_49, g_49_0, g_49_1, g_49_2, g_49_3, g_49_4, g_49_5, p_49_5, ps_49_5, fs_49_5, g_49_6, p_49_6, ps_49_6, fs_49_6, gq_56, g_56_0, g_56_1, g_56_2, g_56_3, g_56_4, p_56_4, ps_56_4, fs_56_4, g_56_5, p_56_5, ps_56_5, fs_56_5, gl_57, ge_57, pe_57, ps_57, is_57, gl_58, ge_58, pe_58, ps_58, is_58, gl_59, ge_59, pe_59, ps_59, is_59, gl_60, ge_60, pe_60, ps_60, is_60, c, hn, Option.bind_some, if_false, hm, lm]
    · rw [E2 h c uF, if_neg a1, if_neg a2, if_neg a3]
      simp (maxDischargeDepth := 60) only [g_159_8 c hn, Option.bind_some, q0, hm, nm, if_true]

theorem S_6 {l3 : Int32} {kc ks : Nat} {x : Nat → Int32} (c : PS h) (hn : 208 ≤ n) (j : JR h) (sc : SCR (h 0) n l3 x) : ∃ g, st_law_6 K h n l3 kc ks = some (g, n, kc, ks) ∧ PS g ∧ JR g ∧ FB h g := by
  obtain ⟨s1, s2, s3, s4, -⟩ := sc h rfl
  obtain ⟨uT, uF, uA, uW, uB, uL, uP⟩ := id j
  obtain ⟨q0, q1, q2, q3, q4, q5, m, hm, hm20, hC⟩ := id uB
  obtain ⟨t0, ht0, ht1⟩ := id uT.1
  have no : q_X10_bench K h n 48 (x 1) (x 2) (x 3) (x 4) = some (-1, h) → q_X11_bench K h n 159 (x 1) (x 2) (x 3) (x 4) = some (-1, h) → ∃ g, st_law_6 K h n l3 kc ks = some (g, n, kc, ks) ∧ PS g ∧ JR g ∧ FB h g := by
    intro k1 k2
    unfold st_law_6
    simp only [s1, s2, s3, s4, gq_48 c hn, gq_159 c hn, Option.bind_some, k1, k2, if_true]
    exact ⟨h, rfl, c, j, FB.id_⟩
  have n10 : ¬ (1 : Int32) = 0 := by decide
  have E2 : ∀ g, PS g → JF g → q_X11_bench K g n 159 (x 1) (x 2) (x 3) (x 4) = if mm_in (x 1) 0 (fI g 49 5 - 1) = 0 then some (-1, g) else if mm_in (x 2) 0 3 = 0 then some (-1, g) else if mm_in (x 3) 0 14 = 0 then some (-1, g) else if mm_in (x 4) 0 99999 = 0 then some (-1, g) else _ := fun g cg jg => by
    unfold q_X11_bench
    simp only [gq_159 cg hn, y_X11_isFirm cg hn jg, z_X11_isYear, z_X11_isIn, z_X11_isHead, Option.bind_some]
    rfl
  by_cases a1 : mm_in (x 1) 0 (fI h 49 5 - 1) = 0
  · exact no (by unfold q_X10_bench; simp only [gq_48 c hn, y_X10_isFirmsYear c hn uF, z_X10_isWithin, z_X10_isHead, Option.bind_some]; simp only [a1, if_true]) (by rw [E2 h c uF, if_pos a1])
  by_cases a3 : mm_in (x 3) 0 14 = 0
  · refine no (by unfold q_X10_bench; simp only [gq_48 c hn, y_X10_isFirmsYear c hn uF, z_X10_isWithin, z_X10_isHead, Option.bind_some]; simp only [a1, a3, if_true, if_false]) ?_
    rw [E2 h c uF, if_neg a1]
    by_cases a2 : mm_in (x 2) 0 3 = 0
    · rw [if_pos a2]
    · rw [if_neg a2, if_pos a3]
  by_cases a2 : mm_in (x 2) 0 3 = 0
  · exact no (by unfold q_X10_bench; simp only [gq_48 c hn, y_X10_isFirmsYear c hn uF, z_X10_isWithin, z_X10_isHead, Option.bind_some]; simp only [a1, a3, a2, n10, if_true, if_false]) (by rw [E2 h c uF, if_neg a1, if_pos a2])
  by_cases a4 : mm_in (x 4) 0 99999 = 0
  · exact no (by unfold q_X10_bench; simp only [gq_48 c hn, y_X10_isFirmsYear c hn uF, z_X10_isWithin, z_X10_isHead, Option.bind_some]; simp only [a1, a3, a2, a4, n10, if_true, if_false]) (by rw [E2 h c uF, if_neg a1, if_neg a2, if_neg a3, if_pos a4])
  obtain ⟨u, hu, hu2⟩ := mm_in_nat (N := 99999) (by omega) a4
  have tm : (ni m).toNatClampNeg = m := ni_tn (by omega)
  by_cases hm5 : m < 20
  · have im : inb (ni m) 20 = true := ni_inb (by omega) hm5
    have lm : ni m < 20 := (ni_lt (b := 20) (by omega) (by omega)).mpr hm5
    have nm : ¬ ni m = 20 := fun q => by have := (ni_inj (b := 20) (by omega) (by omega)).mp q; omega
    have k1 : q_X10_bench K h n 48 (x 1) (x 2) (x 3) (x 4) = some (ni m + 1, mm_sf (mm_si (mm_si (mm_si (mm_si (mm_si h 62 m (x 1)) 63 m (x 2)) 64 m (x 3)) 65 m (x 4)) 66 m (fI h 49 6)) 61 5 (.int (ni m + 1))) := by
      unfold q_X10_bench; simp only [gq_48 c hn, y_X10_isFirmsYear c hn uF, z_X10_isWithin, z_X10_isHead, Option.bind_some]
      simp only [a1, a2, a3, a4, n10, if_true, if_false]
      unfold q_X1_take
      simp (maxDischargeDepth := 60) only [gq_48, g_48_0, g_48_1, g_48_2, g_48_3, g_48_4, g_48_5, p_48_5, ps_48_5, fs_48_5, g_48_6, g_48_7, p_48_7, ps_48_7, fs_48_7, g_48_8, p_48_8, ps_48_8, fs_48_8, g_48_9, g_48_10, p_48_10, ps_48_10, fs_48_10, g_48_11, gq_49, g_49_0, g_49_1, g_49_2, g_49_3, g_49_4, g_49_5, p_49_5, ps_49_5, fs_49_5, g_49_6, p_49_6, ps_49_6, fs_49_6, gq_61, g_61_0, g_61_1, g_61_2, g_61_3, g_61_4, g_61_5, p_61_5, ps_61_5, fs_61_5, gl_62, ge_62, pe_62, ps_62, is_62, gl_63, ge_63, pe_63, ps_63, is_63, gl_64, ge_64, pe_64, ps_64, is_64, gl_65, ge_65, pe_65, ps_65, is_65, gl_66, ge_66, pe_66, ps_66, is_66, c, hn, Option.bind_some, hm, lm, im, tm, if_true, fI_sf_n, fJ_sf_n, fR_sf_n, fI_sf_o, fJ_sf_o, fR_sf_o, iA_sf, jA_sf, rA_sf, fI_si, fJ_si, fR_si, iA_si_n, jA_si, rA_si, fI_sj, fJ_sj, fR_sj, iA_sj, jA_sj_n, rA_sj, fI_sr, fJ_sr, fR_sr, iA_sr, jA_sr, rA_sr_n, ne_eq, not_false_eq_true, Nat.reduceEqDiff, Nat.zero_ne_one, Nat.one_ne_zero]
    generalize hg : mm_sf (mm_si (mm_si (mm_si (mm_si (mm_si h 62 m (x 1)) 63 m (x 2)) 64 m (x 3)) 65 m (x 4)) 66 m (fI h 49 6)) 61 5 (.int (ni m + 1)) = g at k1
    have bb1 : PS (mm_si h 62 m (x 1)) := ps_62 c _ _
    have bb2 : PS (mm_si (mm_si h 62 m (x 1)) 63 m (x 2)) := ps_63 bb1 _ _
    have bb3 : PS (mm_si (mm_si (mm_si h 62 m (x 1)) 63 m (x 2)) 64 m (x 3)) := ps_64 bb2 _ _
    have bb4 : PS (mm_si (mm_si (mm_si (mm_si h 62 m (x 1)) 63 m (x 2)) 64 m (x 3)) 65 m (x 4)) := ps_65 bb3 _ _
    have bb5 : PS (mm_si (mm_si (mm_si (mm_si (mm_si h 62 m (x 1)) 63 m (x 2)) 64 m (x 3)) 65 m (x 4)) 66 m (fI h 49 6)) := ps_66 bb4 _ _
    have c1 : PS g := by rw [← hg]; exact ps_61_5 bb5 _
    have g0 : g 0 = h 0 := by rw [← hg, mm_sf_n (by decide), mm_si_n (by decide), mm_si_n (by decide), mm_si_n (by decide), mm_si_n (by decide), mm_si_n (by decide)]
    obtain ⟨t1, t2, t3, t4, -⟩ := sc g g0
    have r1 : fI g 49 5 = fI h 49 5 := by rw [← hg]; simp only [fI_sf_n, fJ_sf_n, fR_sf_n, fI_sf_o, fJ_sf_o, fR_sf_o, iA_sf, jA_sf, rA_sf, fI_si, fJ_si, fR_si, iA_si_n, jA_si, rA_si, fI_sj, fJ_sj, fR_sj, iA_sj, jA_sj_n, rA_sj, fI_sr, fJ_sr, fR_sr, iA_sr, jA_sr, rA_sr_n, ne_eq, not_false_eq_true, Nat.reduceEqDiff, Nat.zero_ne_one, Nat.one_ne_zero]
    have r2 : fI g 159 9 = ni m := by rw [← hg]; simp only [fI_sf_n, fJ_sf_n, fR_sf_n, fI_sf_o, fJ_sf_o, fR_sf_o, iA_sf, jA_sf, rA_sf, fI_si, fJ_si, fR_si, iA_si_n, jA_si, rA_si, fI_sj, fJ_sj, fR_sj, iA_sj, jA_sj_n, rA_sj, fI_sr, fJ_sr, fR_sr, iA_sr, jA_sr, rA_sr_n, ne_eq, not_false_eq_true, Nat.reduceEqDiff, Nat.zero_ne_one, Nat.one_ne_zero]; exact q0.trans hm
    have r3 : fI g 159 0 = fI h 49 6 := by rw [← hg]; simp only [fI_sf_n, fJ_sf_n, fR_sf_n, fI_sf_o, fJ_sf_o, fR_sf_o, iA_sf, jA_sf, rA_sf, fI_si, fJ_si, fR_si, iA_si_n, jA_si, rA_si, fI_sj, fJ_sj, fR_sj, iA_sj, jA_sj_n, rA_sj, fI_sr, fJ_sr, fR_sr, iA_sr, jA_sr, rA_sr_n, ne_eq, not_false_eq_true, Nat.reduceEqDiff, Nat.zero_ne_one, Nat.one_ne_zero]; exact uT.2.1
    have gF : JF g := by simp only [JF, fI_sf_n, fJ_sf_n, fR_sf_n, fI_sf_o, fJ_sf_o, fR_sf_o, iA_sf, jA_sf, rA_sf, fI_si, fJ_si, fR_si, iA_si_n, jA_si, rA_si, fI_sj, fJ_sj, fR_sj, iA_sj, jA_sj_n, rA_sj, fI_sr, fJ_sr, fR_sr, iA_sr, jA_sr, rA_sr_n, ne_eq, not_false_eq_true, Nat.reduceEqDiff, Nat.zero_ne_one, Nat.one_ne_zero, ← hg]; exact uF
    have k2 : q_X11_bench K g n 159 (x 1) (x 2) (x 3) (x 4) = some (ni m + 1, mm_sf (mm_si (mm_si (mm_si (mm_si (mm_si g 169 m (x 1)) 170 m (x 2)) 171 m (x 3)) 172 m (x 4)) 173 m (fI h 49 6)) 159 9 (.int (ni m + 1))) := by
      rw [E2 g c1 gF, r1, if_neg a1, if_neg a2, if_neg a3, if_neg a4]
      simp (maxDischargeDepth := 60) only [gq_159, g_159_0, p_159_0, ps_159_0, fs_159_0, g_159_1, p_159_1, ps_159_1, fs_159_1, g_159_2, p_159_2, ps_159_2, fs_159_2, g_159_3, g_159_4, g_159_5, g_159_6, g_159_7, g_159_8, p_159_8, ps_159_8, fs_159_8, g_159_9, p_159_9, ps_159_9, fs_159_9, g_159_10, p_159_10, ps_159_10, fs_159_10, g_159_11, g_159_12, g_159_13, g_159_14, g_159_15, g_159_16, g_159_17, g_159_18, g_159_19, g_159_20, g_159_21, g_159_22, g_159_23, g_159_24, p_159_24, ps_159_24, fs_159_24, g_159_25, p_159_25, ps_159_25, fs_159_25, g_159_26, p_159_26, ps_159_26, fs_159_26, g_159_27, p_159_27, ps_159_27, fs_159_27, g_159_28, p_159_28, ps_159_28, fs_159_28, g_159_29, p_159_29, ps_159_29, fs_159_29, g_159_30, p_159_30, ps_159_30, fs_159_30, g_159_31, p_159_31, ps_159_31, fs_159_31, g_159_32, g_159_33, g_159_34, g_159_35, g_159_36, g_159_37, g_159_38, g_159_39, g_159_40, g_159_41, g_159_42, g_159_43, g_159_44, g_159_45, g_159_46, g_159_47, g_159_48, g_159_49, g_159_50, g_159_51, g_159_52, g_159_53, g_159_54, p_159_54, ps_159_54, fs_159_54, g_159_55, p_159_55, ps_159_55, fs_159_55, g_159_56, p_159_56, ps_159_56, fs_159_56, g_159_57, p_159_57, ps_159_57, fs_159_57, g_159_58, g_159_59, g_159_60, g_159_61, g_159_62, g_159_63, g_159_64, g_159_65, p_159_65, ps_159_65, fs_159_65, g_159_66, p_159_66, ps_159_66, fs_159_66, g_159_67, gl_169, ge_169, pe_169, ps_169, is_169, gl_170, ge_170, pe_170, ps_170, is_170, gl_171, ge_171, pe_171, ps_171, is_171, gl_172, ge_172, pe_172, ps_172, is_172, gl_173, ge_173, pe_173, ps_173, is_173, c1, hn, Option.bind_some, r2, r3, nm, if_false, im, tm, if_true, fI_sf_n, fJ_sf_n, fR_sf_n, fI_sf_o, fJ_sf_o, fR_sf_o, iA_sf, jA_sf, rA_sf, fI_si, fJ_si, fR_si, iA_si_n, jA_si, rA_si, fI_sj, fJ_sj, fR_sj, iA_sj, jA_sj_n, rA_sj, fI_sr, fJ_sr, fR_sr, iA_sr, jA_sr, rA_sr_n, ne_eq, not_false_eq_true, Nat.reduceEqDiff, Nat.zero_ne_one, Nat.one_ne_zero]
    refine ⟨mm_sf (mm_si (mm_si (mm_si (mm_si (mm_si g 169 m (x 1)) 170 m (x 2)) 171 m (x 3)) 172 m (x 4)) 173 m (fI h 49 6)) 159 9 (.int (ni m + 1)), ?_, ?_, ?_, ?_⟩
    · unfold st_law_6
      simp only [s1, s2, s3, s4, gq_48 c hn, Option.bind_some, k1, t1, t2, t3, t4, gq_159 c1 hn, k2, if_true]
    · exact ps_159_9 (ps_173 (ps_172 (ps_171 (ps_170 (ps_169 c1 _ _) _ _) _ _) _ _) _ _) _
    · have d1 : PS (mm_si g 169 m (x 1)) := ps_169 c1 _ _
      have d2 : PS (mm_si (mm_si g 169 m (x 1)) 170 m (x 2)) := ps_170 d1 _ _
      have d3 : PS (mm_si (mm_si (mm_si g 169 m (x 1)) 170 m (x 2)) 171 m (x 3)) := ps_171 d2 _ _
      have d4 : PS (mm_si (mm_si (mm_si (mm_si g 169 m (x 1)) 170 m (x 2)) 171 m (x 3)) 172 m (x 4)) := ps_172 d3 _ _
      have d5 : PS (mm_si (mm_si (mm_si (mm_si (mm_si g 169 m (x 1)) 170 m (x 2)) 171 m (x 3)) 172 m (x 4)) 173 m (fI h 49 6)) := ps_173 d4 _ _
      refine ⟨?_, ?_, ?_, ?_, ?_, ?_, ?_⟩
      · simp only [JT, fI_sf_n, fJ_sf_n, fR_sf_n, fI_sf_o, fJ_sf_o, fR_sf_o, iA_sf, jA_sf, rA_sf, fI_si, fJ_si, fR_si, iA_si_n, jA_si, rA_si, fI_sj, fJ_sj, fR_sj, iA_sj, jA_sj_n, rA_sj, fI_sr, fJ_sr, fR_sr, iA_sr, jA_sr, rA_sr_n, ne_eq, not_false_eq_true, Nat.reduceEqDiff, Nat.zero_ne_one, Nat.one_ne_zero, ← hg]; exact uT
      · simp only [JF, fI_sf_n, fJ_sf_n, fR_sf_n, fI_sf_o, fJ_sf_o, fR_sf_o, iA_sf, jA_sf, rA_sf, fI_si, fJ_si, fR_si, iA_si_n, jA_si, rA_si, fI_sj, fJ_sj, fR_sj, iA_sj, jA_sj_n, rA_sj, fI_sr, fJ_sr, fR_sr, iA_sr, jA_sr, rA_sr_n, ne_eq, not_false_eq_true, Nat.reduceEqDiff, Nat.zero_ne_one, Nat.one_ne_zero, ← hg]; exact uF
      · simp only [JA, fI_sf_n, fJ_sf_n, fR_sf_n, fI_sf_o, fJ_sf_o, fR_sf_o, iA_sf, jA_sf, rA_sf, fI_si, fJ_si, fR_si, iA_si_n, jA_si, rA_si, fI_sj, fJ_sj, fR_sj, iA_sj, jA_sj_n, rA_sj, fI_sr, fJ_sr, fR_sr, iA_sr, jA_sr, rA_sr_n, ne_eq, not_false_eq_true, Nat.reduceEqDiff, Nat.zero_ne_one, Nat.one_ne_zero, ← hg]; exact uA
      · simp only [JW, fI_sf_n, fJ_sf_n, fR_sf_n, fI_sf_o, fJ_sf_o, fR_sf_o, iA_sf, jA_sf, rA_sf, fI_si, fJ_si, fR_si, iA_si_n, jA_si, rA_si, fI_sj, fJ_sj, fR_sj, iA_sj, jA_sj_n, rA_sj, fI_sr, fJ_sr, fR_sr, iA_sr, jA_sr, rA_sr_n, ne_eq, not_false_eq_true, Nat.reduceEqDiff, Nat.zero_ne_one, Nat.one_ne_zero, ← hg]; exact uW
      · have v1 : iA g 62 = upd (iA h 62) m (x 1) := by rw [← hg]; simp only [fI_sf_n, fJ_sf_n, fR_sf_n, fI_sf_o, fJ_sf_o, fR_sf_o, iA_sf, jA_sf, rA_sf, fI_si, fJ_si, fR_si, iA_si_n, jA_si, rA_si, fI_sj, fJ_sj, fR_sj, iA_sj, jA_sj_n, rA_sj, fI_sr, fJ_sr, fR_sr, iA_sr, jA_sr, rA_sr_n, ne_eq, not_false_eq_true, Nat.reduceEqDiff, Nat.zero_ne_one, Nat.one_ne_zero, is_62 c]
        have v2 : iA g 63 = upd (iA h 63) m (x 2) := by rw [← hg]; simp only [fI_sf_n, fJ_sf_n, fR_sf_n, fI_sf_o, fJ_sf_o, fR_sf_o, iA_sf, jA_sf, rA_sf, fI_si, fJ_si, fR_si, iA_si_n, jA_si, rA_si, fI_sj, fJ_sj, fR_sj, iA_sj, jA_sj_n, rA_sj, fI_sr, fJ_sr, fR_sr, iA_sr, jA_sr, rA_sr_n, ne_eq, not_false_eq_true, Nat.reduceEqDiff, Nat.zero_ne_one, Nat.one_ne_zero, is_63 bb1]
        have v3 : iA g 64 = upd (iA h 64) m (x 3) := by rw [← hg]; simp only [fI_sf_n, fJ_sf_n, fR_sf_n, fI_sf_o, fJ_sf_o, fR_sf_o, iA_sf, jA_sf, rA_sf, fI_si, fJ_si, fR_si, iA_si_n, jA_si, rA_si, fI_sj, fJ_sj, fR_sj, iA_sj, jA_sj_n, rA_sj, fI_sr, fJ_sr, fR_sr, iA_sr, jA_sr, rA_sr_n, ne_eq, not_false_eq_true, Nat.reduceEqDiff, Nat.zero_ne_one, Nat.one_ne_zero, is_64 bb2]
        have v4 : iA g 65 = upd (iA h 65) m (x 4) := by rw [← hg]; simp only [fI_sf_n, fJ_sf_n, fR_sf_n, fI_sf_o, fJ_sf_o, fR_sf_o, iA_sf, jA_sf, rA_sf, fI_si, fJ_si, fR_si, iA_si_n, jA_si, rA_si, fI_sj, fJ_sj, fR_sj, iA_sj, jA_sj_n, rA_sj, fI_sr, fJ_sr, fR_sr, iA_sr, jA_sr, rA_sr_n, ne_eq, not_false_eq_true, Nat.reduceEqDiff, Nat.zero_ne_one, Nat.one_ne_zero, is_65 bb3]
        have v5 : iA g 66 = upd (iA h 66) m (fI h 49 6) := by rw [← hg]; simp only [fI_sf_n, fJ_sf_n, fR_sf_n, fI_sf_o, fJ_sf_o, fR_sf_o, iA_sf, jA_sf, rA_sf, fI_si, fJ_si, fR_si, iA_si_n, jA_si, rA_si, fI_sj, fJ_sj, fR_sj, iA_sj, jA_sj_n, rA_sj, fI_sr, fJ_sr, fR_sr, iA_sr, jA_sr, rA_sr_n, ne_eq, not_false_eq_true, Nat.reduceEqDiff, Nat.zero_ne_one, Nat.one_ne_zero, is_66 bb4]
        have w1 : iA g 169 = iA h 62 := by rw [← hg]; simp only [fI_sf_n, fJ_sf_n, fR_sf_n, fI_sf_o, fJ_sf_o, fR_sf_o, iA_sf, jA_sf, rA_sf, fI_si, fJ_si, fR_si, iA_si_n, jA_si, rA_si, fI_sj, fJ_sj, fR_sj, iA_sj, jA_sj_n, rA_sj, fI_sr, fJ_sr, fR_sr, iA_sr, jA_sr, rA_sr_n, ne_eq, not_false_eq_true, Nat.reduceEqDiff, Nat.zero_ne_one, Nat.one_ne_zero]; exact q1
        have w2 : iA g 170 = iA h 63 := by rw [← hg]; simp only [fI_sf_n, fJ_sf_n, fR_sf_n, fI_sf_o, fJ_sf_o, fR_sf_o, iA_sf, jA_sf, rA_sf, fI_si, fJ_si, fR_si, iA_si_n, jA_si, rA_si, fI_sj, fJ_sj, fR_sj, iA_sj, jA_sj_n, rA_sj, fI_sr, fJ_sr, fR_sr, iA_sr, jA_sr, rA_sr_n, ne_eq, not_false_eq_true, Nat.reduceEqDiff, Nat.zero_ne_one, Nat.one_ne_zero]; exact q2
        have w3 : iA g 171 = iA h 64 := by rw [← hg]; simp only [fI_sf_n, fJ_sf_n, fR_sf_n, fI_sf_o, fJ_sf_o, fR_sf_o, iA_sf, jA_sf, rA_sf, fI_si, fJ_si, fR_si, iA_si_n, jA_si, rA_si, fI_sj, fJ_sj, fR_sj, iA_sj, jA_sj_n, rA_sj, fI_sr, fJ_sr, fR_sr, iA_sr, jA_sr, rA_sr_n, ne_eq, not_false_eq_true, Nat.reduceEqDiff, Nat.zero_ne_one, Nat.one_ne_zero]; exact q3
        have w4 : iA g 172 = iA h 65 := by rw [← hg]; simp only [fI_sf_n, fJ_sf_n, fR_sf_n, fI_sf_o, fJ_sf_o, fR_sf_o, iA_sf, jA_sf, rA_sf, fI_si, fJ_si, fR_si, iA_si_n, jA_si, rA_si, fI_sj, fJ_sj, fR_sj, iA_sj, jA_sj_n, rA_sj, fI_sr, fJ_sr, fR_sr, iA_sr, jA_sr, rA_sr_n, ne_eq, not_false_eq_true, Nat.reduceEqDiff, Nat.zero_ne_one, Nat.one_ne_zero]; exact q4
        have w5 : iA g 173 = iA h 66 := by rw [← hg]; simp only [fI_sf_n, fJ_sf_n, fR_sf_n, fI_sf_o, fJ_sf_o, fR_sf_o, iA_sf, jA_sf, rA_sf, fI_si, fJ_si, fR_si, iA_si_n, jA_si, rA_si, fI_sj, fJ_sj, fR_sj, iA_sj, jA_sj_n, rA_sj, fI_sr, fJ_sr, fR_sr, iA_sr, jA_sr, rA_sr_n, ne_eq, not_false_eq_true, Nat.reduceEqDiff, Nat.zero_ne_one, Nat.one_ne_zero]; exact q5
        have v0 : fI g 61 5 = ni m + 1 := by rw [← hg]; exact fs_61_5 bb5 _
        simp only [JB, fs_159_9 d5, is_169 c1, is_170 d1, is_171 d2, is_172 d3, is_173 d4, fI_sf_n, fJ_sf_n, fR_sf_n, fI_sf_o, fJ_sf_o, fR_sf_o, iA_sf, jA_sf, rA_sf, fI_si, fJ_si, fR_si, iA_si_n, jA_si, rA_si, fI_sj, fJ_sj, fR_sj, iA_sj, jA_sj_n, rA_sj, fI_sr, fJ_sr, fR_sr, iA_sr, jA_sr, rA_sr_n, ne_eq, not_false_eq_true, Nat.reduceEqDiff, Nat.zero_ne_one, Nat.one_ne_zero, v0, v1, v2, v3, v4, v5, w1, w2, w3, w4, w5]
        refine ⟨rfl, rfl, rfl, rfl, rfl, rfl, m + 1, ni_1 m, by omega, fun i hi => ?_⟩
        by_cases him : i = m
        · subst him
          rw [upd_s]
          exact ⟨u, hu2, hu⟩
        · rw [upd_n him]
          exact hC i (by omega)
      · simp only [JL, fI_sf_n, fJ_sf_n, fR_sf_n, fI_sf_o, fJ_sf_o, fR_sf_o, iA_sf, jA_sf, rA_sf, fI_si, fJ_si, fR_si, iA_si_n, jA_si, rA_si, fI_sj, fJ_sj, fR_sj, iA_sj, jA_sj_n, rA_sj, fI_sr, fJ_sr, fR_sr, iA_sr, jA_sr, rA_sr_n, ne_eq, not_false_eq_true, Nat.reduceEqDiff, Nat.zero_ne_one, Nat.one_ne_zero, ← hg]; exact uL
      · simp only [JP, fI_sf_n, fJ_sf_n, fR_sf_n, fI_sf_o, fJ_sf_o, fR_sf_o, iA_sf, jA_sf, rA_sf, fI_si, fJ_si, fR_si, iA_si_n, jA_si, rA_si, fI_sj, fJ_sj, fR_sj, iA_sj, jA_sj_n, rA_sj, fI_sr, fJ_sr, fR_sr, iA_sr, jA_sr, rA_sr_n, ne_eq, not_false_eq_true, Nat.reduceEqDiff, Nat.zero_ne_one, Nat.one_ne_zero, ← hg]; exact uP
    · refine ⟨fun a ha => ?_, ?_⟩
      · rw [mm_sf_n (by omega), mm_si_n (by omega), mm_si_n (by omega), mm_si_n (by omega), mm_si_n (by omega), mm_si_n (by omega), ← hg, mm_sf_n (by omega), mm_si_n (by omega), mm_si_n (by omega), mm_si_n (by omega), mm_si_n (by omega), mm_si_n (by omega)]
      · simp only [fI_sf_n, fJ_sf_n, fR_sf_n, fI_sf_o, fJ_sf_o, fR_sf_o, iA_sf, jA_sf, rA_sf, fI_si, fJ_si, fR_si, iA_si_n, jA_si, rA_si, fI_sj, fJ_sj, fR_sj, iA_sj, jA_sj_n, rA_sj, fI_sr, fJ_sr, fR_sr, iA_sr, jA_sr, rA_sr_n, ne_eq, not_false_eq_true, Nat.reduceEqDiff, Nat.zero_ne_one, Nat.one_ne_zero, ← hg, and_self]
  · have lm : ¬ ni m < 20 := fun q => hm5 ((ni_lt (b := 20) (by omega) (by omega)).mp q)
    have nm : ni m = 20 := by rw [show m = 20 by omega]; rfl
    refine no ?_ ?_
    · unfold q_X10_bench; simp only [gq_48 c hn, y_X10_isFirmsYear c hn uF, z_X10_isWithin, z_X10_isHead, Option.bind_some]
      simp only [a1, a2, a3, a4, n10, if_true, if_false]
      unfold q_X1_take
      simp (maxDischargeDepth := 60) only [gq_48, g_48_0, g_48_1, g_48_2, g_48_3, g_48_4, g_48_5, p_48_5, ps_48_5, fs_48_5, g_48_6, g_48_7, p_48_7, ps_48_7, fs_48_7, g_48_8, p_48_8, ps_48_8, fs_48_8, g_48_9, g_48_10, p_48_10, ps_48_10, fs_48_10, g_48_11, gq_49, g_49_0, g_49_1, g_49_2, g_49_3, g_49_4, g_49_5, p_49_5, ps_49_5, fs_49_5, g_49_6, p_49_6, ps_49_6, fs_49_6, gq_61, g_61_0, g_61_1, g_61_2, g_61_3, g_61_4, g_61_5, p_61_5, ps_61_5, fs_61_5, gl_62, ge_62, pe_62, ps_62, is_62, gl_63, ge_63, pe_63, ps_63, is_63, gl_64, ge_64, pe_64, ps_64, is_64, gl_65, ge_65, pe_65, ps_65, is_65, gl_66, ge_66, pe_66, ps_66, is_66, c, hn, Option.bind_some, if_false, hm, lm]
    · rw [E2 h c uF, if_neg a1, if_neg a2, if_neg a3, if_neg a4]
      simp (maxDischargeDepth := 60) only [g_159_9 c hn, Option.bind_some, q0, hm, nm, if_true]

theorem S_7 {l3 : Int32} {kc ks : Nat} {x : Nat → Int32} (c : PS h) (hn : 208 ≤ n) (j : JR h) (sc : SCR (h 0) n l3 x) : ∃ g, st_law_7 K h n l3 kc ks = some (g, n, kc, ks) ∧ PS g ∧ JR g ∧ FB h g := by
  obtain ⟨s1, s2, s3, -⟩ := sc h rfl
  obtain ⟨uT, uF, uA, uW, uB, uL, uP⟩ := id j
  obtain ⟨q0, q1, q2, q3, q4, q5, m, hm, hm20⟩ := id uL
  obtain ⟨t0, ht0, ht1⟩ := id uT.1
  have no : q_X10_log K h n 48 (x 1) (x 2) (x 3) = some (-1, h) → q_X11_log K h n 159 (x 1) (x 2) (x 3) = some (-1, h) → ∃ g, st_law_7 K h n l3 kc ks = some (g, n, kc, ks) ∧ PS g ∧ JR g ∧ FB h g := by
    intro k1 k2
    unfold st_law_7
    simp only [s1, s2, s3, gq_48 c hn, gq_159 c hn, Option.bind_some, k1, k2, if_true]
    exact ⟨h, rfl, c, j, FB.id_⟩
  have n10 : ¬ (1 : Int32) = 0 := by decide
  have E2 : ∀ g, PS g → JF g → fI g 159 0 = fI h 49 6 → q_X11_log K g n 159 (x 1) (x 2) (x 3) = if mm_in (x 1) 0 (fI g 49 5 - 1) = 0 then some (-1, g) else if mm_in (x 2) (fI h 49 6 / 100 + 1) 14 = 0 then some (-1, g) else if mm_in (x 3) 1 99999 = 0 then some (-1, g) else _ := fun g cg jg tg => by
    unfold q_X11_log
    simp only [gq_159 cg hn, y_X11_isFirm cg hn jg, z_X11_isYear, z_X11_isIn, z_X11_isHead, Option.bind_some, g_159_0 cg hn, tg]
    rfl
  have dv : fI h 49 6 / 100 + 1 = ni (t0 / 100 + 1) := by
    rw [ht0, show (100 : Int32) = ni 100 from rfl, ni_div (by omega) (by omega), ni_1]
  have dv0 : fI h 49 6 / 100 = ni (t0 / 100) := by
    rw [ht0, show (100 : Int32) = ni 100 from rfl, ni_div (by omega) (by omega)]
  have in0 : ∀ z : Nat, z < 2147483648 → (mm_in (ni z) (ni (t0 / 100 + 1)) 14 = 0 ↔ ¬ (t0 / 100 + 1 ≤ z ∧ z ≤ 14)) := by
    intro z hz
    unfold mm_in
    by_cases e1 : ni z < ni (t0 / 100 + 1)
    · rw [if_pos e1]
      have := (ni_lt hz (by omega)).mp e1
      simp; omega
    · rw [if_neg e1]
      have f1 : ¬ z < t0 / 100 + 1 := fun q => e1 ((ni_lt hz (by omega)).mpr q)
      by_cases e2 : (14 : Int32) < ni z
      · rw [if_pos e2]
        have := (ni_lt (a := 14) (by omega) hz).mp e2
        simp; omega
      · rw [if_neg e2]
        have f2 : ¬ 14 < z := fun q => e2 ((ni_lt (a := 14) (by omega) hz).mpr q)
        simp; omega
  by_cases a1 : mm_in (x 1) 0 (fI h 49 5 - 1) = 0
  · exact no (by unfold q_X10_log; simp only [gq_48 c hn, g_48_0 c hn, g_49_6 c hn, y_X10_isFirmsYear c hn uF, z_X10_isWithin, Option.bind_some]; simp only [a1, if_true]) (by rw [E2 h c uF uT.2.1, if_pos a1])
  by_cases a3 : mm_in (x 2) 0 14 = 0
  · refine no (by unfold q_X10_log; simp only [gq_48 c hn, g_48_0 c hn, g_49_6 c hn, y_X10_isFirmsYear c hn uF, z_X10_isWithin, Option.bind_some]; simp only [a1, a3, if_true, if_false]) ?_
    have a4 : mm_in (x 2) (fI h 49 6 / 100 + 1) 14 = 0 := by
      rw [dv]
      by_cases e1 : x 2 < 0
      · unfold mm_in
        rw [if_pos]
        refine Int32.lt_iff_toInt_lt.mpr ?_
        have := Int32.lt_iff_toInt_lt.mp e1
        rw [ni_int (by omega)]
        have e : (0 : Int32).toInt = 0 := rfl
        omega
      · obtain ⟨z, hz, e2⟩ := ni_of e1
        rw [e2]
        rw [in0 z hz]
        rw [e2] at a3
        unfold mm_in at a3
        rw [if_neg (ni_pos hz)] at a3
        by_cases e3 : (14 : Int32) < ni z
        · have := (ni_lt (a := 14) (by omega) hz).mp e3; omega
        · rw [if_neg e3] at a3; exact absurd a3 (by decide)
    rw [E2 h c uF uT.2.1, if_neg a1, if_pos a4]
  obtain ⟨y, hy, hy2⟩ := mm_in_nat (N := 14) (by omega) a3
  by_cases a4 : y ≤ t0 / 100
  · have b4 : x 2 ≤ fI h 49 6 / 100 := by rw [hy2, dv0]; exact (ni_le (by omega) (by omega)).mpr a4
    have b5 : mm_in (x 2) (fI h 49 6 / 100 + 1) 14 = 0 := by rw [dv, hy2, in0 y (by omega)]; omega
    exact no (by unfold q_X10_log; simp only [gq_48 c hn, g_48_0 c hn, g_49_6 c hn, y_X10_isFirmsYear c hn uF, z_X10_isWithin, Option.bind_some]; simp only [a1, a3, n10, b4, if_true, if_false]) (by rw [E2 h c uF uT.2.1, if_neg a1, if_pos b5])
  have b4 : ¬ x 2 ≤ fI h 49 6 / 100 := by rw [hy2, dv0]; exact fun q => a4 ((ni_le (by omega) (by omega)).mp q)
  have b5 : ¬ mm_in (x 2) (fI h 49 6 / 100 + 1) 14 = 0 := by rw [dv, hy2, in0 y (by omega)]; omega
  by_cases a2 : mm_in (x 3) 1 99999 = 0
  · exact no (by unfold q_X10_log; simp only [gq_48 c hn, g_48_0 c hn, g_49_6 c hn, y_X10_isFirmsYear c hn uF, z_X10_isWithin, Option.bind_some]; simp only [a1, a3, b4, a2, n10, if_true, if_false]) (by rw [E2 h c uF uT.2.1, if_neg a1, if_neg b5, if_pos a2])
  have tm : (ni m).toNatClampNeg = m := ni_tn (by omega)
  by_cases hm5 : m < 20
  · have im : inb (ni m) 20 = true := ni_inb (by omega) hm5
    have lm : ni m < 20 := (ni_lt (b := 20) (by omega) (by omega)).mpr hm5
    have nm : ¬ ni m = 20 := fun q => by have := (ni_inj (b := 20) (by omega) (by omega)).mp q; omega
    have k1 : q_X10_log K h n 48 (x 1) (x 2) (x 3) = some (ni m + 1, mm_sf (mm_si (mm_si (mm_si (mm_si (mm_si h 68 m (x 1)) 69 m 0) 70 m (x 2)) 71 m (x 3)) 72 m (fI h 49 6)) 67 5 (.int (ni m + 1))) := by
      unfold q_X10_log; simp only [gq_48 c hn, g_48_0 c hn, g_49_6 c hn, y_X10_isFirmsYear c hn uF, z_X10_isWithin, Option.bind_some]
      simp only [a1, a2, a3, b4, n10, if_true, if_false]
      unfold q_X1_take
      simp (maxDischargeDepth := 60) only [gq_48, g_48_0, g_48_1, g_48_2, g_48_3, g_48_4, g_48_5, p_48_5, ps_48_5, fs_48_5, g_48_6, g_48_7, p_48_7, ps_48_7, fs_48_7, g_48_8, p_48_8, ps_48_8, fs_48_8, g_48_9, g_48_10, p_48_10, ps_48_10, fs_48_10, g_48_11, gq_49, g_49_0, g_49_1, g_49_2, g_49_3, g_49_4, g_49_5, p_49_5, ps_49_5, fs_49_5, g_49_6, p_49_6, ps_49_6, fs_49_6, gq_67, g_67_0, g_67_1, g_67_2, g_67_3, g_67_4, g_67_5, p_67_5, ps_67_5, fs_67_5, gl_68, ge_68, pe_68, ps_68, is_68, gl_69, ge_69, pe_69, ps_69, is_69, gl_70, ge_70, pe_70, ps_70, is_70, gl_71, ge_71, pe_71, ps_71, is_71, gl_72, ge_72, pe_72, ps_72, is_72, c, hn, Option.bind_some, hm, lm, im, tm, if_true, fI_sf_n, fJ_sf_n, fR_sf_n, fI_sf_o, fJ_sf_o, fR_sf_o, iA_sf, jA_sf, rA_sf, fI_si, fJ_si, fR_si, iA_si_n, jA_si, rA_si, fI_sj, fJ_sj, fR_sj, iA_sj, jA_sj_n, rA_sj, fI_sr, fJ_sr, fR_sr, iA_sr, jA_sr, rA_sr_n, ne_eq, not_false_eq_true, Nat.reduceEqDiff, Nat.zero_ne_one, Nat.one_ne_zero]
    generalize hg : mm_sf (mm_si (mm_si (mm_si (mm_si (mm_si h 68 m (x 1)) 69 m 0) 70 m (x 2)) 71 m (x 3)) 72 m (fI h 49 6)) 67 5 (.int (ni m + 1)) = g at k1
    have bb1 : PS (mm_si h 68 m (x 1)) := ps_68 c _ _
    have bb2 : PS (mm_si (mm_si h 68 m (x 1)) 69 m 0) := ps_69 bb1 _ _
    have bb3 : PS (mm_si (mm_si (mm_si h 68 m (x 1)) 69 m 0) 70 m (x 2)) := ps_70 bb2 _ _
    have bb4 : PS (mm_si (mm_si (mm_si (mm_si h 68 m (x 1)) 69 m 0) 70 m (x 2)) 71 m (x 3)) := ps_71 bb3 _ _
    have bb5 : PS (mm_si (mm_si (mm_si (mm_si (mm_si h 68 m (x 1)) 69 m 0) 70 m (x 2)) 71 m (x 3)) 72 m (fI h 49 6)) := ps_72 bb4 _ _
    have c1 : PS g := by rw [← hg]; exact ps_67_5 bb5 _
    have g0 : g 0 = h 0 := by rw [← hg, mm_sf_n (by decide), mm_si_n (by decide), mm_si_n (by decide), mm_si_n (by decide), mm_si_n (by decide), mm_si_n (by decide)]
    obtain ⟨t1, t2, t3, -⟩ := sc g g0
    have r1 : fI g 49 5 = fI h 49 5 := by rw [← hg]; simp only [fI_sf_n, fJ_sf_n, fR_sf_n, fI_sf_o, fJ_sf_o, fR_sf_o, iA_sf, jA_sf, rA_sf, fI_si, fJ_si, fR_si, iA_si_n, jA_si, rA_si, fI_sj, fJ_sj, fR_sj, iA_sj, jA_sj_n, rA_sj, fI_sr, fJ_sr, fR_sr, iA_sr, jA_sr, rA_sr_n, ne_eq, not_false_eq_true, Nat.reduceEqDiff, Nat.zero_ne_one, Nat.one_ne_zero]
    have r2 : fI g 159 10 = ni m := by rw [← hg]; simp only [fI_sf_n, fJ_sf_n, fR_sf_n, fI_sf_o, fJ_sf_o, fR_sf_o, iA_sf, jA_sf, rA_sf, fI_si, fJ_si, fR_si, iA_si_n, jA_si, rA_si, fI_sj, fJ_sj, fR_sj, iA_sj, jA_sj_n, rA_sj, fI_sr, fJ_sr, fR_sr, iA_sr, jA_sr, rA_sr_n, ne_eq, not_false_eq_true, Nat.reduceEqDiff, Nat.zero_ne_one, Nat.one_ne_zero]; exact q0.trans hm
    have r3 : fI g 159 0 = fI h 49 6 := by rw [← hg]; simp only [fI_sf_n, fJ_sf_n, fR_sf_n, fI_sf_o, fJ_sf_o, fR_sf_o, iA_sf, jA_sf, rA_sf, fI_si, fJ_si, fR_si, iA_si_n, jA_si, rA_si, fI_sj, fJ_sj, fR_sj, iA_sj, jA_sj_n, rA_sj, fI_sr, fJ_sr, fR_sr, iA_sr, jA_sr, rA_sr_n, ne_eq, not_false_eq_true, Nat.reduceEqDiff, Nat.zero_ne_one, Nat.one_ne_zero]; exact uT.2.1
    have gF : JF g := by simp only [JF, fI_sf_n, fJ_sf_n, fR_sf_n, fI_sf_o, fJ_sf_o, fR_sf_o, iA_sf, jA_sf, rA_sf, fI_si, fJ_si, fR_si, iA_si_n, jA_si, rA_si, fI_sj, fJ_sj, fR_sj, iA_sj, jA_sj_n, rA_sj, fI_sr, fJ_sr, fR_sr, iA_sr, jA_sr, rA_sr_n, ne_eq, not_false_eq_true, Nat.reduceEqDiff, Nat.zero_ne_one, Nat.one_ne_zero, ← hg]; exact uF
    have k2 : q_X11_log K g n 159 (x 1) (x 2) (x 3) = some (ni m + 1, mm_sf (mm_si (mm_si (mm_si (mm_si g 174 m (x 1)) 175 m (x 2)) 176 m (x 3)) 177 m (fI h 49 6)) 159 10 (.int (ni m + 1))) := by
      rw [E2 g c1 gF r3, r1, if_neg a1, if_neg b5, if_neg a2]
      simp (maxDischargeDepth := 60) only [gq_159, g_159_0, p_159_0, ps_159_0, fs_159_0, g_159_1, p_159_1, ps_159_1, fs_159_1, g_159_2, p_159_2, ps_159_2, fs_159_2, g_159_3, g_159_4, g_159_5, g_159_6, g_159_7, g_159_8, p_159_8, ps_159_8, fs_159_8, g_159_9, p_159_9, ps_159_9, fs_159_9, g_159_10, p_159_10, ps_159_10, fs_159_10, g_159_11, g_159_12, g_159_13, g_159_14, g_159_15, g_159_16, g_159_17, g_159_18, g_159_19, g_159_20, g_159_21, g_159_22, g_159_23, g_159_24, p_159_24, ps_159_24, fs_159_24, g_159_25, p_159_25, ps_159_25, fs_159_25, g_159_26, p_159_26, ps_159_26, fs_159_26, g_159_27, p_159_27, ps_159_27, fs_159_27, g_159_28, p_159_28, ps_159_28, fs_159_28, g_159_29, p_159_29, ps_159_29, fs_159_29, g_159_30, p_159_30, ps_159_30, fs_159_30, g_159_31, p_159_31, ps_159_31, fs_159_31, g_159_32, g_159_33, g_159_34, g_159_35, g_159_36, g_159_37, g_159_38, g_159_39, g_159_40, g_159_41, g_159_42, g_159_43, g_159_44, g_159_45, g_159_46, g_159_47, g_159_48, g_159_49, g_159_50, g_159_51, g_159_52, g_159_53, g_159_54, p_159_54, ps_159_54, fs_159_54, g_159_55, p_159_55, ps_159_55, fs_159_55, g_159_56, p_159_56, ps_159_56, fs_159_56, g_159_57, p_159_57, ps_159_57, fs_159_57, g_159_58, g_159_59, g_159_60, g_159_61, g_159_62, g_159_63, g_159_64, g_159_65, p_159_65, ps_159_65, fs_159_65, g_159_66, p_159_66, ps_159_66, fs_159_66, g_159_67, gl_174, ge_174, pe_174, ps_174, is_174, gl_175, ge_175, pe_175, ps_175, is_175, gl_176, ge_176, pe_176, ps_176, is_176, gl_177, ge_177, pe_177, ps_177, is_177, c1, hn, Option.bind_some, r2, r3, nm, if_false, im, tm, if_true, fI_sf_n, fJ_sf_n, fR_sf_n, fI_sf_o, fJ_sf_o, fR_sf_o, iA_sf, jA_sf, rA_sf, fI_si, fJ_si, fR_si, iA_si_n, jA_si, rA_si, fI_sj, fJ_sj, fR_sj, iA_sj, jA_sj_n, rA_sj, fI_sr, fJ_sr, fR_sr, iA_sr, jA_sr, rA_sr_n, ne_eq, not_false_eq_true, Nat.reduceEqDiff, Nat.zero_ne_one, Nat.one_ne_zero]
    refine ⟨mm_sf (mm_si (mm_si (mm_si (mm_si g 174 m (x 1)) 175 m (x 2)) 176 m (x 3)) 177 m (fI h 49 6)) 159 10 (.int (ni m + 1)), ?_, ?_, ?_, ?_⟩
    · unfold st_law_7
      simp only [s1, s2, s3, gq_48 c hn, Option.bind_some, k1, t1, t2, t3, gq_159 c1 hn, k2, if_true]
    · exact ps_159_10 (ps_177 (ps_176 (ps_175 (ps_174 c1 _ _) _ _) _ _) _ _) _
    · have d1 : PS (mm_si g 174 m (x 1)) := ps_174 c1 _ _
      have d2 : PS (mm_si (mm_si g 174 m (x 1)) 175 m (x 2)) := ps_175 d1 _ _
      have d3 : PS (mm_si (mm_si (mm_si g 174 m (x 1)) 175 m (x 2)) 176 m (x 3)) := ps_176 d2 _ _
      have d4 : PS (mm_si (mm_si (mm_si (mm_si g 174 m (x 1)) 175 m (x 2)) 176 m (x 3)) 177 m (fI h 49 6)) := ps_177 d3 _ _
      refine ⟨?_, ?_, ?_, ?_, ?_, ?_, ?_⟩
      · simp only [JT, fI_sf_n, fJ_sf_n, fR_sf_n, fI_sf_o, fJ_sf_o, fR_sf_o, iA_sf, jA_sf, rA_sf, fI_si, fJ_si, fR_si, iA_si_n, jA_si, rA_si, fI_sj, fJ_sj, fR_sj, iA_sj, jA_sj_n, rA_sj, fI_sr, fJ_sr, fR_sr, iA_sr, jA_sr, rA_sr_n, ne_eq, not_false_eq_true, Nat.reduceEqDiff, Nat.zero_ne_one, Nat.one_ne_zero, ← hg]; exact uT
      · simp only [JF, fI_sf_n, fJ_sf_n, fR_sf_n, fI_sf_o, fJ_sf_o, fR_sf_o, iA_sf, jA_sf, rA_sf, fI_si, fJ_si, fR_si, iA_si_n, jA_si, rA_si, fI_sj, fJ_sj, fR_sj, iA_sj, jA_sj_n, rA_sj, fI_sr, fJ_sr, fR_sr, iA_sr, jA_sr, rA_sr_n, ne_eq, not_false_eq_true, Nat.reduceEqDiff, Nat.zero_ne_one, Nat.one_ne_zero, ← hg]; exact uF
      · simp only [JA, fI_sf_n, fJ_sf_n, fR_sf_n, fI_sf_o, fJ_sf_o, fR_sf_o, iA_sf, jA_sf, rA_sf, fI_si, fJ_si, fR_si, iA_si_n, jA_si, rA_si, fI_sj, fJ_sj, fR_sj, iA_sj, jA_sj_n, rA_sj, fI_sr, fJ_sr, fR_sr, iA_sr, jA_sr, rA_sr_n, ne_eq, not_false_eq_true, Nat.reduceEqDiff, Nat.zero_ne_one, Nat.one_ne_zero, ← hg]; exact uA
      · simp only [JW, fI_sf_n, fJ_sf_n, fR_sf_n, fI_sf_o, fJ_sf_o, fR_sf_o, iA_sf, jA_sf, rA_sf, fI_si, fJ_si, fR_si, iA_si_n, jA_si, rA_si, fI_sj, fJ_sj, fR_sj, iA_sj, jA_sj_n, rA_sj, fI_sr, fJ_sr, fR_sr, iA_sr, jA_sr, rA_sr_n, ne_eq, not_false_eq_true, Nat.reduceEqDiff, Nat.zero_ne_one, Nat.one_ne_zero, ← hg]; exact uW
      · simp only [JB, fI_sf_n, fJ_sf_n, fR_sf_n, fI_sf_o, fJ_sf_o, fR_sf_o, iA_sf, jA_sf, rA_sf, fI_si, fJ_si, fR_si, iA_si_n, jA_si, rA_si, fI_sj, fJ_sj, fR_sj, iA_sj, jA_sj_n, rA_sj, fI_sr, fJ_sr, fR_sr, iA_sr, jA_sr, rA_sr_n, ne_eq, not_false_eq_true, Nat.reduceEqDiff, Nat.zero_ne_one, Nat.one_ne_zero, ← hg]; exact uB
      · have v1 : iA g 68 = upd (iA h 68) m (x 1) := by rw [← hg]; simp only [fI_sf_n, fJ_sf_n, fR_sf_n, fI_sf_o, fJ_sf_o, fR_sf_o, iA_sf, jA_sf, rA_sf, fI_si, fJ_si, fR_si, iA_si_n, jA_si, rA_si, fI_sj, fJ_sj, fR_sj, iA_sj, jA_sj_n, rA_sj, fI_sr, fJ_sr, fR_sr, iA_sr, jA_sr, rA_sr_n, ne_eq, not_false_eq_true, Nat.reduceEqDiff, Nat.zero_ne_one, Nat.one_ne_zero, is_68 c]
        have v2 : iA g 69 = upd (iA h 69) m 0 := by rw [← hg]; simp only [fI_sf_n, fJ_sf_n, fR_sf_n, fI_sf_o, fJ_sf_o, fR_sf_o, iA_sf, jA_sf, rA_sf, fI_si, fJ_si, fR_si, iA_si_n, jA_si, rA_si, fI_sj, fJ_sj, fR_sj, iA_sj, jA_sj_n, rA_sj, fI_sr, fJ_sr, fR_sr, iA_sr, jA_sr, rA_sr_n, ne_eq, not_false_eq_true, Nat.reduceEqDiff, Nat.zero_ne_one, Nat.one_ne_zero, is_69 bb1]
        have v3 : iA g 70 = upd (iA h 70) m (x 2) := by rw [← hg]; simp only [fI_sf_n, fJ_sf_n, fR_sf_n, fI_sf_o, fJ_sf_o, fR_sf_o, iA_sf, jA_sf, rA_sf, fI_si, fJ_si, fR_si, iA_si_n, jA_si, rA_si, fI_sj, fJ_sj, fR_sj, iA_sj, jA_sj_n, rA_sj, fI_sr, fJ_sr, fR_sr, iA_sr, jA_sr, rA_sr_n, ne_eq, not_false_eq_true, Nat.reduceEqDiff, Nat.zero_ne_one, Nat.one_ne_zero, is_70 bb2]
        have v4 : iA g 71 = upd (iA h 71) m (x 3) := by rw [← hg]; simp only [fI_sf_n, fJ_sf_n, fR_sf_n, fI_sf_o, fJ_sf_o, fR_sf_o, iA_sf, jA_sf, rA_sf, fI_si, fJ_si, fR_si, iA_si_n, jA_si, rA_si, fI_sj, fJ_sj, fR_sj, iA_sj, jA_sj_n, rA_sj, fI_sr, fJ_sr, fR_sr, iA_sr, jA_sr, rA_sr_n, ne_eq, not_false_eq_true, Nat.reduceEqDiff, Nat.zero_ne_one, Nat.one_ne_zero, is_71 bb3]
        have v5 : iA g 72 = upd (iA h 72) m (fI h 49 6) := by rw [← hg]; simp only [fI_sf_n, fJ_sf_n, fR_sf_n, fI_sf_o, fJ_sf_o, fR_sf_o, iA_sf, jA_sf, rA_sf, fI_si, fJ_si, fR_si, iA_si_n, jA_si, rA_si, fI_sj, fJ_sj, fR_sj, iA_sj, jA_sj_n, rA_sj, fI_sr, fJ_sr, fR_sr, iA_sr, jA_sr, rA_sr_n, ne_eq, not_false_eq_true, Nat.reduceEqDiff, Nat.zero_ne_one, Nat.one_ne_zero, is_72 bb4]
        have w1 : iA g 174 = iA h 68 := by rw [← hg]; simp only [fI_sf_n, fJ_sf_n, fR_sf_n, fI_sf_o, fJ_sf_o, fR_sf_o, iA_sf, jA_sf, rA_sf, fI_si, fJ_si, fR_si, iA_si_n, jA_si, rA_si, fI_sj, fJ_sj, fR_sj, iA_sj, jA_sj_n, rA_sj, fI_sr, fJ_sr, fR_sr, iA_sr, jA_sr, rA_sr_n, ne_eq, not_false_eq_true, Nat.reduceEqDiff, Nat.zero_ne_one, Nat.one_ne_zero]; exact q1
        have w2 : iA g 175 = iA h 70 := by rw [← hg]; simp only [fI_sf_n, fJ_sf_n, fR_sf_n, fI_sf_o, fJ_sf_o, fR_sf_o, iA_sf, jA_sf, rA_sf, fI_si, fJ_si, fR_si, iA_si_n, jA_si, rA_si, fI_sj, fJ_sj, fR_sj, iA_sj, jA_sj_n, rA_sj, fI_sr, fJ_sr, fR_sr, iA_sr, jA_sr, rA_sr_n, ne_eq, not_false_eq_true, Nat.reduceEqDiff, Nat.zero_ne_one, Nat.one_ne_zero]; exact q2
        have w3 : iA g 176 = iA h 71 := by rw [← hg]; simp only [fI_sf_n, fJ_sf_n, fR_sf_n, fI_sf_o, fJ_sf_o, fR_sf_o, iA_sf, jA_sf, rA_sf, fI_si, fJ_si, fR_si, iA_si_n, jA_si, rA_si, fI_sj, fJ_sj, fR_sj, iA_sj, jA_sj_n, rA_sj, fI_sr, fJ_sr, fR_sr, iA_sr, jA_sr, rA_sr_n, ne_eq, not_false_eq_true, Nat.reduceEqDiff, Nat.zero_ne_one, Nat.one_ne_zero]; exact q3
        have w4 : iA g 177 = iA h 72 := by rw [← hg]; simp only [fI_sf_n, fJ_sf_n, fR_sf_n, fI_sf_o, fJ_sf_o, fR_sf_o, iA_sf, jA_sf, rA_sf, fI_si, fJ_si, fR_si, iA_si_n, jA_si, rA_si, fI_sj, fJ_sj, fR_sj, iA_sj, jA_sj_n, rA_sj, fI_sr, fJ_sr, fR_sr, iA_sr, jA_sr, rA_sr_n, ne_eq, not_false_eq_true, Nat.reduceEqDiff, Nat.zero_ne_one, Nat.one_ne_zero]; exact q4
        have v0 : fI g 67 5 = ni m + 1 := by rw [← hg]; exact fs_67_5 bb5 _
        simp only [JL, fs_159_10 d4, is_174 c1, is_175 d1, is_176 d2, is_177 d3, fI_sf_n, fJ_sf_n, fR_sf_n, fI_sf_o, fJ_sf_o, fR_sf_o, iA_sf, jA_sf, rA_sf, fI_si, fJ_si, fR_si, iA_si_n, jA_si, rA_si, fI_sj, fJ_sj, fR_sj, iA_sj, jA_sj_n, rA_sj, fI_sr, fJ_sr, fR_sr, iA_sr, jA_sr, rA_sr_n, ne_eq, not_false_eq_true, Nat.reduceEqDiff, Nat.zero_ne_one, Nat.one_ne_zero, v0, v1, v2, v3, v4, v5, w1, w2, w3, w4]
        refine ⟨rfl, rfl, rfl, rfl, rfl, fun i => ?_, m + 1, ni_1 m, by omega⟩
        by_cases him : i = m
        · subst him
          exact upd_s _ _ _
        · rw [upd_n him]
          exact q5 i
      · simp only [JP, fI_sf_n, fJ_sf_n, fR_sf_n, fI_sf_o, fJ_sf_o, fR_sf_o, iA_sf, jA_sf, rA_sf, fI_si, fJ_si, fR_si, iA_si_n, jA_si, rA_si, fI_sj, fJ_sj, fR_sj, iA_sj, jA_sj_n, rA_sj, fI_sr, fJ_sr, fR_sr, iA_sr, jA_sr, rA_sr_n, ne_eq, not_false_eq_true, Nat.reduceEqDiff, Nat.zero_ne_one, Nat.one_ne_zero, ← hg]; exact uP
    · refine ⟨fun a ha => ?_, ?_⟩
      · rw [mm_sf_n (by omega), mm_si_n (by omega), mm_si_n (by omega), mm_si_n (by omega), mm_si_n (by omega), ← hg, mm_sf_n (by omega), mm_si_n (by omega), mm_si_n (by omega), mm_si_n (by omega), mm_si_n (by omega), mm_si_n (by omega)]
      · simp only [fI_sf_n, fJ_sf_n, fR_sf_n, fI_sf_o, fJ_sf_o, fR_sf_o, iA_sf, jA_sf, rA_sf, fI_si, fJ_si, fR_si, iA_si_n, jA_si, rA_si, fI_sj, fJ_sj, fR_sj, iA_sj, jA_sj_n, rA_sj, fI_sr, fJ_sr, fR_sr, iA_sr, jA_sr, rA_sr_n, ne_eq, not_false_eq_true, Nat.reduceEqDiff, Nat.zero_ne_one, Nat.one_ne_zero, ← hg, and_self]
  · have lm : ¬ ni m < 20 := fun q => hm5 ((ni_lt (b := 20) (by omega) (by omega)).mp q)
    have nm : ni m = 20 := by rw [show m = 20 by omega]; rfl
    refine no ?_ ?_
    · unfold q_X10_log; simp only [gq_48 c hn, g_48_0 c hn, g_49_6 c hn, y_X10_isFirmsYear c hn uF, z_X10_isWithin, Option.bind_some]
      simp only [a1, a2, a3, b4, n10, if_true, if_false]
      unfold q_X1_take
      simp (maxDischargeDepth := 60) only [gq_48, g_48_0, g_48_1, g_48_2, g_48_3, g_48_4, g_48_5, p_48_5, ps_48_5, fs_48_5, g_48_6, g_48_7, p_48_7, ps_48_7, fs_48_7, g_48_8, p_48_8, ps_48_8, fs_48_8, g_48_9, g_48_10, p_48_10, ps_48_10, fs_48_10, g_48_11, gq_49, g_49_0, g_49_1, g_49_2, g_49_3, g_49_4, g_49_5, p_49_5, ps_49_5, fs_49_5, g_49_6, p_49_6, ps_49_6, fs_49_6, gq_67, g_67_0, g_67_1, g_67_2, g_67_3, g_67_4, g_67_5, p_67_5, ps_67_5, fs_67_5, gl_68, ge_68, pe_68, ps_68, is_68, gl_69, ge_69, pe_69, ps_69, is_69, gl_70, ge_70, pe_70, ps_70, is_70, gl_71, ge_71, pe_71, ps_71, is_71, gl_72, ge_72, pe_72, ps_72, is_72, c, hn, Option.bind_some, if_false, hm, lm]
    · rw [E2 h c uF uT.2.1, if_neg a1, if_neg b5, if_neg a2]
      simp (maxDischargeDepth := 60) only [g_159_10 c hn, Option.bind_some, q0, hm, nm, if_true]

end CALLH

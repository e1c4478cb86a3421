/-! ===== the calls fact, known ===== -/
section CALLG
variable {K n : Nat} {h : mm_H}
theorem in_firm {x : Int32} (j : JF h) (q : ¬ mm_in x 0 (fI h 49 5 - 1) = 0) : ∃ f : Nat, x = ni f ∧ f ≤ 10 ∧ fI h 49 5 = ni ((fI h 49 5).toNatClampNeg) ∧ f < (fI h 49 5).toNatClampNeg := by
  obtain ⟨⟨m, hm, hm11⟩, -⟩ := j
  cases m with
  | zero =>
    rw [hm] at q
    exact absurd (by
      unfold mm_in
      by_cases h1 : x < 0
      · rw [if_pos h1]
      · obtain ⟨k, hk, rfl⟩ := ni_of h1
        rw [if_neg h1, if_pos]
        show (-1 : Int32) < ni k
        rw [Int32.lt_iff_toInt_lt, ni_int hk]
        show (-1 : Int) < k
        omega) q
  | succ m =>
    rw [hm, ni_sub1] at q
    obtain ⟨f, hf, rfl⟩ := mm_in_nat (by omega) q
    refine ⟨f, rfl, by omega, ?_, ?_⟩
    · rw [hm, ni_tn (by omega)]
    · rw [hm, ni_tn (by omega)]; omega
theorem S_3 (hK : 3000 ≤ K) {l3 : Int32} {kc ks : Nat} {x : Nat → Int32} (c : PS h) (hn : 208 ≤ n) (j : JR h) (sc : SCR (h 0) n l3 x) : ∃ g, st_law_3 K h n l3 kc ks = some (g, n, kc, ks) ∧ PS g ∧ JR g ∧ FB h g := by
  obtain ⟨s1, s2, s3, s4, -⟩ := sc h rfl
  obtain ⟨uT, uF, uA, uW, uB, uL, uP⟩ := id j
  have key : ∃ v, q_X10_known K h n 48 (x 1) (x 2) (x 3) (x 4) = some v ∧ q_X11_known K h n 159 (x 1) (x 2) (x 3) (x 4) = some v := by
    unfold q_X10_known q_X11_known
    simp only [gq_48 c hn, gq_159 c hn, y_X10_isFirmsYear c hn uF, y_X11_isFirm c hn uF, z_X11_isYear, z_X10_isWithin, z_X11_isIn, z_X10_isDay, z_X11_isDay, Option.bind_some]
    by_cases a1 : mm_in (x 1) 0 (fI h 49 5 - 1) = 0
    · simp only [a1, if_true]; exact ⟨_, rfl, rfl⟩
    by_cases a2 : mm_in (x 2) 0 14 = 0
    · simp only [a1, a2, if_true, if_false]; exact ⟨_, rfl, rfl⟩
    by_cases a3 : mm_in (x 3) 0 16 = 0
    · simp only [a1, a2, a3, if_true, if_false, show ¬ (1 : Int32) = 0 by decide]; exact ⟨_, rfl, rfl⟩
    by_cases a4 : mm_in (x 4) 0 1499 = 0
    · simp only [a1, a2, a3, a4, if_true, if_false, show ¬ (1 : Int32) = 0 by decide]; exact ⟨_, rfl, rfl⟩
    obtain ⟨f, hf, hf10, -⟩ := in_firm uF a1
    obtain ⟨y, hy, hy2⟩ := mm_in_nat (N := 14) (by omega) a2
    obtain ⟨w, hw, hw2⟩ := mm_in_nat (N := 16) (by omega) a3
    simp only [a1, a2, a3, a4, if_false, show ¬ (1 : Int32) = 0 by decide]
    rw [hf, hy2, hw2]
    simp only [g_48_0 c hn, g_49_1 c hn, gq_51 c hn, Option.bind_some, z_X0_knownBy hK c hn uA hf10 hy hw, z_X11_factBy hK c hn uA hf10 hy hw]
    exact ⟨_, rfl, rfl⟩
  obtain ⟨v, k1, k2⟩ := key
  unfold st_law_3
  simp only [s1, s2, s3, s4, gq_48 c hn, gq_159 c hn, Option.bind_some, k1, k2, if_true]
  exact ⟨h, rfl, c, j, FB.id_⟩
theorem S_2 {l3 : Int32} {kc ks : Nat} {x : Nat → Int32} (c : PS h) (hn : 208 ≤ n) (j : JR h) (sc : SCR (h 0) n l3 x) : ∃ g, st_law_2 K h n l3 kc ks = some (g, n, kc, ks) ∧ PS g ∧ JR g ∧ FB h g := by
  obtain ⟨s1, s2, s3, s4, -⟩ := sc h rfl
  obtain ⟨uT, uF, uA, uW, uB, uL, uP⟩ := id j
  obtain ⟨q0, q1, q2, q3, q4, m, hm, hm500, hB, hL⟩ := id uA
  have no : q_X10_fact K h n 48 (x 1) (x 2) (x 3) (x 4) = some (-1, h) → q_X11_fact K h n 159 (x 1) (x 2) (x 3) (x 4) = some (-1, h) → ∃ g, st_law_2 K h n l3 kc ks = some (g, n, kc, ks) ∧ PS g ∧ JR g ∧ FB h g := by
    intro k1 k2
    unfold st_law_2
    simp only [s1, s2, s3, s4, gq_48 c hn, gq_159 c hn, Option.bind_some, k1, k2, if_true]
    exact ⟨h, rfl, c, j, FB.id_⟩
  have n10 : ¬ (1 : Int32) = 0 := by decide
  have E2 : ∀ g, PS g → JF g → q_X11_fact K g n 159 (x 1) (x 2) (x 3) (x 4) = if mm_in (x 1) 0 (fI g 49 5 - 1) = 0 then some (-1, g) else if mm_in (x 2) 0 14 = 0 then some (-1, g) else if mm_in (x 3) 0 16 = 0 then some (-1, g) else if mm_in (x 4) 0 (mostF (x 3)) = 0 then some (-1, g) else _ := fun g cg jg => by
    unfold q_X11_fact
    simp only [gq_159 cg hn, y_X11_isFirm cg hn jg, z_X11_isYear, z_X11_isIn, z_X11_mostOf, Option.bind_some]
    rfl
  by_cases a1 : mm_in (x 1) 0 (fI h 49 5 - 1) = 0
  · exact no (by unfold q_X10_fact; simp only [gq_48 c hn, y_X10_isFirmsYear c hn uF, z_X10_isWithin, z_X10_mostOfFact, Option.bind_some]; simp only [a1, if_true]) (by rw [E2 h c uF, if_pos a1])
  by_cases a2 : mm_in (x 2) 0 14 = 0
  · exact no (by unfold q_X10_fact; simp only [gq_48 c hn, y_X10_isFirmsYear c hn uF, z_X10_isWithin, z_X10_mostOfFact, Option.bind_some]; simp only [a1, a2, if_true, if_false]) (by rw [E2 h c uF, if_neg a1, if_pos a2])
  by_cases a3 : mm_in (x 3) 0 16 = 0
  · exact no (by unfold q_X10_fact; simp only [gq_48 c hn, y_X10_isFirmsYear c hn uF, z_X10_isWithin, z_X10_mostOfFact, Option.bind_some]; simp only [a1, a2, a3, n10, if_true, if_false]) (by rw [E2 h c uF, if_neg a1, if_neg a2, if_pos a3])
  by_cases a4 : mm_in (x 4) 0 (mostF (x 3)) = 0
  · exact no (by unfold q_X10_fact; simp only [gq_48 c hn, y_X10_isFirmsYear c hn uF, z_X10_isWithin, z_X10_mostOfFact, Option.bind_some]; simp only [a1, a2, a3, a4, n10, if_true, if_false]) (by rw [E2 h c uF, if_neg a1, if_neg a2, if_neg a3, if_pos a4])
  obtain ⟨f, hf, hf10, -⟩ := in_firm uF a1
  obtain ⟨y, hy, hy2⟩ := mm_in_nat (N := 14) (by omega) a2
  obtain ⟨w, hw, hw2⟩ := mm_in_nat (N := 16) (by omega) a3
  obtain ⟨v, hv, hv2⟩ : ∃ v : Nat, v ≤ 99999 ∧ x 4 = ni v := by
    obtain ⟨b, hb, hb2⟩ := mostF_le (x 3)
    rw [hb] at a4
    obtain ⟨v, hv, hv2⟩ := mm_in_nat (by omega) a4
    exact ⟨v, by omega, hv2⟩
  have hk := keyF_lt hf10 hy hw
  have ik : inb (ni (keyF f y w)) 2805 = true := ni_inb (by omega) hk
  have tk : (ni (keyF f y w)).toNatClampNeg = keyF f y w := ni_tn (by omega)
  have nk : ¬ ni (keyF f y w) = -1 := ni_n1 (by omega)
  have tm : (ni m).toNatClampNeg = m := ni_tn (by omega)
  by_cases hm5 : m < 500
  · have im : inb (ni m) 500 = true := ni_inb (by omega) hm5
    have lm : ni m < 500 := (ni_lt (b := 500) (by omega) (by omega)).mpr hm5
    have nm : ¬ ni m = 500 := fun q => by have := (ni_inj (b := 500) (by omega) (by omega)).mp q; omega
    have k1 : q_X10_fact K h n 48 (x 1) (x 2) (x 3) (x 4) = some (ni m + 1 - 1, mm_sf (mm_si (mm_si (mm_si (mm_si h 52 m (x 4)) 53 m (fI h 49 6)) 54 m (iA h 55 (keyF f y w))) 55 (keyF f y w) (ni m)) 51 4 (.int (ni m + 1))) := by
      unfold q_X10_fact; simp only [gq_48 c hn, y_X10_isFirmsYear c hn uF, z_X10_isWithin, z_X10_mostOfFact, Option.bind_some]
      simp only [a1, a2, a3, a4, n10, if_true, if_false]
      unfold q_X0_take
      rw [hf, hy2, hw2]
      simp (maxDischargeDepth := 60) only [gq_48, g_48_0, g_48_1, g_48_2, g_48_3, g_48_4, g_48_5, p_48_5, ps_48_5, fs_48_5, g_48_6, g_48_7, p_48_7, ps_48_7, fs_48_7, g_48_8, p_48_8, ps_48_8, fs_48_8, g_48_9, g_48_10, p_48_10, ps_48_10, fs_48_10, g_48_11, gq_49, g_49_0, g_49_1, g_49_2, g_49_3, g_49_4, g_49_5, p_49_5, ps_49_5, fs_49_5, g_49_6, p_49_6, ps_49_6, fs_49_6, gq_51, g_51_0, g_51_1, g_51_2, g_51_3, g_51_4, p_51_4, ps_51_4, fs_51_4, gl_52, ge_52, pe_52, ps_52, is_52, gl_53, ge_53, pe_53, ps_53, is_53, gl_54, ge_54, pe_54, ps_54, is_54, gl_55, ge_55, pe_55, ps_55, is_55, c, hn, Option.bind_some, z_X0_placeOf hf10 hy hw, nk, if_false, hm, lm, im, tm, ik, tk, if_true, fI_sf_n, fJ_sf_n, fR_sf_n, fI_sf_o, fJ_sf_o, fR_sf_o, iA_sf, jA_sf, rA_sf, fI_si, fJ_si, fR_si, iA_si_n, jA_si, rA_si, fI_sj, fJ_sj, fR_sj, iA_sj, jA_sj_n, rA_sj, fI_sr, fJ_sr, fR_sr, iA_sr, jA_sr, rA_sr_n, ne_eq, not_false_eq_true, Nat.reduceEqDiff, Nat.zero_ne_one, Nat.one_ne_zero]
    generalize hg : mm_sf (mm_si (mm_si (mm_si (mm_si h 52 m (x 4)) 53 m (fI h 49 6)) 54 m (iA h 55 (keyF f y w))) 55 (keyF f y w) (ni m)) 51 4 (.int (ni m + 1)) = g at k1
    have c4 : PS (mm_si (mm_si (mm_si (mm_si h 52 m (x 4)) 53 m (fI h 49 6)) 54 m (iA h 55 (keyF f y w))) 55 (keyF f y w) (ni m)) := ps_55 (ps_54 (ps_53 (ps_52 c _ _) _ _) _ _) _ _
    have c1 : PS g := by rw [← hg]; exact ps_51_4 c4 _
    have g0 : g 0 = h 0 := by rw [← hg, mm_sf_n (by decide), mm_si_n (by decide), mm_si_n (by decide), mm_si_n (by decide), mm_si_n (by decide)]
    obtain ⟨t1, t2, t3, t4, -⟩ := sc g g0
    have r1 : fI g 49 5 = fI h 49 5 := by rw [← hg]; simp only [fI_sf_n, fJ_sf_n, fR_sf_n, fI_sf_o, fJ_sf_o, fR_sf_o, iA_sf, jA_sf, rA_sf, fI_si, fJ_si, fR_si, iA_si_n, jA_si, rA_si, fI_sj, fJ_sj, fR_sj, iA_sj, jA_sj_n, rA_sj, fI_sr, fJ_sr, fR_sr, iA_sr, jA_sr, rA_sr_n, ne_eq, not_false_eq_true, Nat.reduceEqDiff, Nat.zero_ne_one, Nat.one_ne_zero]
    have r2 : fI g 159 2 = ni m := by rw [← hg]; simp only [fI_sf_n, fJ_sf_n, fR_sf_n, fI_sf_o, fJ_sf_o, fR_sf_o, iA_sf, jA_sf, rA_sf, fI_si, fJ_si, fR_si, iA_si_n, jA_si, rA_si, fI_sj, fJ_sj, fR_sj, iA_sj, jA_sj_n, rA_sj, fI_sr, fJ_sr, fR_sr, iA_sr, jA_sr, rA_sr_n, ne_eq, not_false_eq_true, Nat.reduceEqDiff, Nat.zero_ne_one, Nat.one_ne_zero]; exact q0.trans hm
    have r3 : fI g 159 0 = fI h 49 6 := by rw [← hg]; simp only [fI_sf_n, fJ_sf_n, fR_sf_n, fI_sf_o, fJ_sf_o, fR_sf_o, iA_sf, jA_sf, rA_sf, fI_si, fJ_si, fR_si, iA_si_n, jA_si, rA_si, fI_sj, fJ_sj, fR_sj, iA_sj, jA_sj_n, rA_sj, fI_sr, fJ_sr, fR_sr, iA_sr, jA_sr, rA_sr_n, ne_eq, not_false_eq_true, Nat.reduceEqDiff, Nat.zero_ne_one, Nat.one_ne_zero]; exact uT.2.1
    have r4 : iA g 163 = iA h 55 := by rw [← hg]; simp only [fI_sf_n, fJ_sf_n, fR_sf_n, fI_sf_o, fJ_sf_o, fR_sf_o, iA_sf, jA_sf, rA_sf, fI_si, fJ_si, fR_si, iA_si_n, jA_si, rA_si, fI_sj, fJ_sj, fR_sj, iA_sj, jA_sj_n, rA_sj, fI_sr, fJ_sr, fR_sr, iA_sr, jA_sr, rA_sr_n, ne_eq, not_false_eq_true, Nat.reduceEqDiff, Nat.zero_ne_one, Nat.one_ne_zero]; exact q4
    have gF : JF g := by simp only [JF, fI_sf_n, fJ_sf_n, fR_sf_n, fI_sf_o, fJ_sf_o, fR_sf_o, iA_sf, jA_sf, rA_sf, fI_si, fJ_si, fR_si, iA_si_n, jA_si, rA_si, fI_sj, fJ_sj, fR_sj, iA_sj, jA_sj_n, rA_sj, fI_sr, fJ_sr, fR_sr, iA_sr, jA_sr, rA_sr_n, ne_eq, not_false_eq_true, Nat.reduceEqDiff, Nat.zero_ne_one, Nat.one_ne_zero, ← hg]; exact uF
    have k2 : q_X11_fact K g n 159 (x 1) (x 2) (x 3) (x 4) = some (ni m + 1 - 1, mm_sf (mm_si (mm_si (mm_si (mm_si g 160 m (x 4)) 161 m (fI h 49 6)) 164 m (iA h 55 (keyF f y w))) 163 (keyF f y w) (ni m)) 159 2 (.int (ni m + 1))) := by
      rw [E2 g c1 gF, r1, if_neg a1, if_neg a2, if_neg a3, if_neg a4, hf, hy2, hw2]
      simp (maxDischargeDepth := 60) only [gq_159, g_159_0, p_159_0, ps_159_0, fs_159_0, g_159_1, p_159_1, ps_159_1, fs_159_1, g_159_2, p_159_2, ps_159_2, fs_159_2, g_159_3, g_159_4, g_159_5, g_159_6, g_159_7, g_159_8, p_159_8, ps_159_8, fs_159_8, g_159_9, p_159_9, ps_159_9, fs_159_9, g_159_10, p_159_10, ps_159_10, fs_159_10, g_159_11, g_159_12, g_159_13, g_159_14, g_159_15, g_159_16, g_159_17, g_159_18, g_159_19, g_159_20, g_159_21, g_159_22, g_159_23, g_159_24, p_159_24, ps_159_24, fs_159_24, g_159_25, p_159_25, ps_159_25, fs_159_25, g_159_26, p_159_26, ps_159_26, fs_159_26, g_159_27, p_159_27, ps_159_27, fs_159_27, g_159_28, p_159_28, ps_159_28, fs_159_28, g_159_29, p_159_29, ps_159_29, fs_159_29, g_159_30, p_159_30, ps_159_30, fs_159_30, g_159_31, p_159_31, ps_159_31, fs_159_31, g_159_32, g_159_33, g_159_34, g_159_35, g_159_36, g_159_37, g_159_38, g_159_39, g_159_40, g_159_41, g_159_42, g_159_43, g_159_44, g_159_45, g_159_46, g_159_47, g_159_48, g_159_49, g_159_50, g_159_51, g_159_52, g_159_53, g_159_54, p_159_54, ps_159_54, fs_159_54, g_159_55, p_159_55, ps_159_55, fs_159_55, g_159_56, p_159_56, ps_159_56, fs_159_56, g_159_57, p_159_57, ps_159_57, fs_159_57, g_159_58, g_159_59, g_159_60, g_159_61, g_159_62, g_159_63, g_159_64, g_159_65, p_159_65, ps_159_65, fs_159_65, g_159_66, p_159_66, ps_159_66, fs_159_66, g_159_67, gl_160, ge_160, pe_160, ps_160, is_160, gl_161, ge_161, pe_161, ps_161, is_161, gl_163, ge_163, pe_163, ps_163, is_163, gl_164, ge_164, pe_164, ps_164, is_164, c1, hn, Option.bind_some, z_X11_keyOf, r2, r3, r4, nm, if_false, im, tm, ik, tk, if_true, fI_sf_n, fJ_sf_n, fR_sf_n, fI_sf_o, fJ_sf_o, fR_sf_o, iA_sf, jA_sf, rA_sf, fI_si, fJ_si, fR_si, iA_si_n, jA_si, rA_si, fI_sj, fJ_sj, fR_sj, iA_sj, jA_sj_n, rA_sj, fI_sr, fJ_sr, fR_sr, iA_sr, jA_sr, rA_sr_n, ne_eq, not_false_eq_true, Nat.reduceEqDiff, Nat.zero_ne_one, Nat.one_ne_zero]
    refine ⟨mm_sf (mm_si (mm_si (mm_si (mm_si g 160 m (x 4)) 161 m (fI h 49 6)) 164 m (iA h 55 (keyF f y w))) 163 (keyF f y w) (ni m)) 159 2 (.int (ni m + 1)), ?_, ?_, ?_, ?_⟩
    · unfold st_law_2
      simp only [s1, s2, s3, s4, gq_48 c hn, Option.bind_some, k1, t1, t2, t3, t4, gq_159 c1 hn, k2, if_true]
    · exact ps_159_2 (ps_163 (ps_164 (ps_161 (ps_160 c1 _ _) _ _) _ _) _ _) _
    · have d1 : PS (mm_si g 160 m (x 4)) := ps_160 c1 _ _
      have d2 : PS (mm_si (mm_si g 160 m (x 4)) 161 m (fI h 49 6)) := ps_161 d1 _ _
      have d3 : PS (mm_si (mm_si (mm_si g 160 m (x 4)) 161 m (fI h 49 6)) 164 m (iA h 55 (keyF f y w))) := ps_164 d2 _ _
      have d4 : PS (mm_si (mm_si (mm_si (mm_si g 160 m (x 4)) 161 m (fI h 49 6)) 164 m (iA h 55 (keyF f y w))) 163 (keyF f y w) (ni m)) := ps_163 d3 _ _
      have b1 : PS (mm_si h 52 m (x 4)) := ps_52 c _ _
      have b2 : PS (mm_si (mm_si h 52 m (x 4)) 53 m (fI h 49 6)) := ps_53 b1 _ _
      have b3 : PS (mm_si (mm_si (mm_si h 52 m (x 4)) 53 m (fI h 49 6)) 54 m (iA h 55 (keyF f y w))) := ps_54 b2 _ _
      refine ⟨?_, ?_, ?_, ?_, ?_, ?_, ?_⟩
      · simp only [JT, fI_sf_n, fJ_sf_n, fR_sf_n, fI_sf_o, fJ_sf_o, fR_sf_o, iA_sf, jA_sf, rA_sf, fI_si, fJ_si, fR_si, iA_si_n, jA_si, rA_si, fI_sj, fJ_sj, fR_sj, iA_sj, jA_sj_n, rA_sj, fI_sr, fJ_sr, fR_sr, iA_sr, jA_sr, rA_sr_n, ne_eq, not_false_eq_true, Nat.reduceEqDiff, Nat.zero_ne_one, Nat.one_ne_zero, ← hg]; exact uT
      · simp only [JF, fI_sf_n, fJ_sf_n, fR_sf_n, fI_sf_o, fJ_sf_o, fR_sf_o, iA_sf, jA_sf, rA_sf, fI_si, fJ_si, fR_si, iA_si_n, jA_si, rA_si, fI_sj, fJ_sj, fR_sj, iA_sj, jA_sj_n, rA_sj, fI_sr, fJ_sr, fR_sr, iA_sr, jA_sr, rA_sr_n, ne_eq, not_false_eq_true, Nat.reduceEqDiff, Nat.zero_ne_one, Nat.one_ne_zero, ← hg]; exact uF
      · have v1 : fI g 51 4 = ni m + 1 := by rw [← hg]; exact fs_51_4 c4 _
        have v2 : iA g 52 = upd (iA h 52) m (x 4) := by rw [← hg]; simp only [fI_sf_n, fJ_sf_n, fR_sf_n, fI_sf_o, fJ_sf_o, fR_sf_o, iA_sf, jA_sf, rA_sf, fI_si, fJ_si, fR_si, iA_si_n, jA_si, rA_si, fI_sj, fJ_sj, fR_sj, iA_sj, jA_sj_n, rA_sj, fI_sr, fJ_sr, fR_sr, iA_sr, jA_sr, rA_sr_n, ne_eq, not_false_eq_true, Nat.reduceEqDiff, Nat.zero_ne_one, Nat.one_ne_zero, is_52 c]
        have v3 : iA g 53 = upd (iA h 53) m (fI h 49 6) := by rw [← hg]; simp only [fI_sf_n, fJ_sf_n, fR_sf_n, fI_sf_o, fJ_sf_o, fR_sf_o, iA_sf, jA_sf, rA_sf, fI_si, fJ_si, fR_si, iA_si_n, jA_si, rA_si, fI_sj, fJ_sj, fR_sj, iA_sj, jA_sj_n, rA_sj, fI_sr, fJ_sr, fR_sr, iA_sr, jA_sr, rA_sr_n, ne_eq, not_false_eq_true, Nat.reduceEqDiff, Nat.zero_ne_one, Nat.one_ne_zero, is_53 b1]
        have v4 : iA g 54 = upd (iA h 54) m (iA h 55 (keyF f y w)) := by rw [← hg]; simp only [fI_sf_n, fJ_sf_n, fR_sf_n, fI_sf_o, fJ_sf_o, fR_sf_o, iA_sf, jA_sf, rA_sf, fI_si, fJ_si, fR_si, iA_si_n, jA_si, rA_si, fI_sj, fJ_sj, fR_sj, iA_sj, jA_sj_n, rA_sj, fI_sr, fJ_sr, fR_sr, iA_sr, jA_sr, rA_sr_n, ne_eq, not_false_eq_true, Nat.reduceEqDiff, Nat.zero_ne_one, Nat.one_ne_zero, is_54 b2]
        have v5 : iA g 55 = upd (iA h 55) (keyF f y w) (ni m) := by rw [← hg]; simp only [fI_sf_n, fJ_sf_n, fR_sf_n, fI_sf_o, fJ_sf_o, fR_sf_o, iA_sf, jA_sf, rA_sf, fI_si, fJ_si, fR_si, iA_si_n, jA_si, rA_si, fI_sj, fJ_sj, fR_sj, iA_sj, jA_sj_n, rA_sj, fI_sr, fJ_sr, fR_sr, iA_sr, jA_sr, rA_sr_n, ne_eq, not_false_eq_true, Nat.reduceEqDiff, Nat.zero_ne_one, Nat.one_ne_zero, is_55 b3]
        have w1 : iA g 160 = iA h 52 := by rw [← hg]; simp only [fI_sf_n, fJ_sf_n, fR_sf_n, fI_sf_o, fJ_sf_o, fR_sf_o, iA_sf, jA_sf, rA_sf, fI_si, fJ_si, fR_si, iA_si_n, jA_si, rA_si, fI_sj, fJ_sj, fR_sj, iA_sj, jA_sj_n, rA_sj, fI_sr, fJ_sr, fR_sr, iA_sr, jA_sr, rA_sr_n, ne_eq, not_false_eq_true, Nat.reduceEqDiff, Nat.zero_ne_one, Nat.one_ne_zero]; exact q1
        have w2 : iA g 161 = iA h 53 := by rw [← hg]; simp only [fI_sf_n, fJ_sf_n, fR_sf_n, fI_sf_o, fJ_sf_o, fR_sf_o, iA_sf, jA_sf, rA_sf, fI_si, fJ_si, fR_si, iA_si_n, jA_si, rA_si, fI_sj, fJ_sj, fR_sj, iA_sj, jA_sj_n, rA_sj, fI_sr, fJ_sr, fR_sr, iA_sr, jA_sr, rA_sr_n, ne_eq, not_false_eq_true, Nat.reduceEqDiff, Nat.zero_ne_one, Nat.one_ne_zero]; exact q2
        have w3 : iA g 164 = iA h 54 := by rw [← hg]; simp only [fI_sf_n, fJ_sf_n, fR_sf_n, fI_sf_o, fJ_sf_o, fR_sf_o, iA_sf, jA_sf, rA_sf, fI_si, fJ_si, fR_si, iA_si_n, jA_si, rA_si, fI_sj, fJ_sj, fR_sj, iA_sj, jA_sj_n, rA_sj, fI_sr, fJ_sr, fR_sr, iA_sr, jA_sr, rA_sr_n, ne_eq, not_false_eq_true, Nat.reduceEqDiff, Nat.zero_ne_one, Nat.one_ne_zero]; exact q3
        simp only [JA, fs_159_2 d4, is_163 d3, is_164 d2, is_161 d1, is_160 c1, fI_sf_n, fJ_sf_n, fR_sf_n, fI_sf_o, fJ_sf_o, fR_sf_o, iA_sf, jA_sf, rA_sf, fI_si, fJ_si, fR_si, iA_si_n, jA_si, rA_si, fI_sj, fJ_sj, fR_sj, iA_sj, jA_sj_n, rA_sj, fI_sr, fJ_sr, fR_sr, iA_sr, jA_sr, rA_sr_n, ne_eq, not_false_eq_true, Nat.reduceEqDiff, Nat.zero_ne_one, Nat.one_ne_zero, v1, v2, v3, v4, v5, w1, w2, w3, r4]
        refine ⟨rfl, rfl, rfl, rfl, rfl, m + 1, ni_1 m, by omega, fun i hi => ?_, fun k hk2 => ?_⟩
        · by_cases him : i = m
          · subst him
            rw [upd_s, upd_s]
            refine ⟨?_, v, hv2, hv⟩
            rcases hL _ hk with e | ⟨z, hz, e⟩
            · exact Or.inl e
            · exact Or.inr ⟨z, hz, e⟩
          · rw [upd_n him, upd_n him]
            exact hB i (by omega)
        · by_cases hkk : k = keyF f y w
          · subst hkk
            rw [upd_s]
            exact Or.inr ⟨m, by omega, rfl⟩
          · rw [upd_n hkk]
            rcases hL k hk2 with e | ⟨z, hz, e⟩
            · exact Or.inl e
            · exact Or.inr ⟨z, by omega, e⟩
      · simp only [JW, fI_sf_n, fJ_sf_n, fR_sf_n, fI_sf_o, fJ_sf_o, fR_sf_o, iA_sf, jA_sf, rA_sf, fI_si, fJ_si, fR_si, iA_si_n, jA_si, rA_si, fI_sj, fJ_sj, fR_sj, iA_sj, jA_sj_n, rA_sj, fI_sr, fJ_sr, fR_sr, iA_sr, jA_sr, rA_sr_n, ne_eq, not_false_eq_true, Nat.reduceEqDiff, Nat.zero_ne_one, Nat.one_ne_zero, ← hg]; exact uW
      · simp only [JB, fI_sf_n, fJ_sf_n, fR_sf_n, fI_sf_o, fJ_sf_o, fR_sf_o, iA_sf, jA_sf, rA_sf, fI_si, fJ_si, fR_si, iA_si_n, jA_si, rA_si, fI_sj, fJ_sj, fR_sj, iA_sj, jA_sj_n, rA_sj, fI_sr, fJ_sr, fR_sr, iA_sr, jA_sr, rA_sr_n, ne_eq, not_false_eq_true, Nat.reduceEqDiff, Nat.zero_ne_one, Nat.one_ne_zero, ← hg]; exact uB
      · simp only [JL, fI_sf_n, fJ_sf_n, fR_sf_n, fI_sf_o, fJ_sf_o, fR_sf_o, iA_sf, jA_sf, rA_sf, fI_si, fJ_si, fR_si, iA_si_n, jA_si, rA_si, fI_sj, fJ_sj, fR_sj, iA_sj, jA_sj_n, rA_sj, fI_sr, fJ_sr, fR_sr, iA_sr, jA_sr, rA_sr_n, ne_eq, not_false_eq_true, Nat.reduceEqDiff, Nat.zero_ne_one, Nat.one_ne_zero, ← hg]; exact uL
      · simp only [JP, fI_sf_n, fJ_sf_n, fR_sf_n, fI_sf_o, fJ_sf_o, fR_sf_o, iA_sf, jA_sf, rA_sf, fI_si, fJ_si, fR_si, iA_si_n, jA_si, rA_si, fI_sj, fJ_sj, fR_sj, iA_sj, jA_sj_n, rA_sj, fI_sr, fJ_sr, fR_sr, iA_sr, jA_sr, rA_sr_n, ne_eq, not_false_eq_true, Nat.reduceEqDiff, Nat.zero_ne_one, Nat.one_ne_zero, ← hg]; exact uP
    · refine ⟨fun a ha => ?_, ?_⟩
      · rw [mm_sf_n (by omega), mm_si_n (by omega), mm_si_n (by omega), mm_si_n (by omega), mm_si_n (by omega), ← hg, mm_sf_n (by omega), mm_si_n (by omega), mm_si_n (by omega), mm_si_n (by omega), mm_si_n (by omega)]
      · simp only [fI_sf_n, fJ_sf_n, fR_sf_n, fI_sf_o, fJ_sf_o, fR_sf_o, iA_sf, jA_sf, rA_sf, fI_si, fJ_si, fR_si, iA_si_n, jA_si, rA_si, fI_sj, fJ_sj, fR_sj, iA_sj, jA_sj_n, rA_sj, fI_sr, fJ_sr, fR_sr, iA_sr, jA_sr, rA_sr_n, ne_eq, not_false_eq_true, Nat.reduceEqDiff, Nat.zero_ne_one, Nat.one_ne_zero, ← hg, and_self]
  · have lm : ¬ ni m < 500 := fun q => hm5 ((ni_lt (b := 500) (by omega) (by omega)).mp q)
    have nm : ni m = 500 := by rw [show m = 500 by omega]; rfl
    refine no ?_ ?_
    · unfold q_X10_fact; simp only [gq_48 c hn, y_X10_isFirmsYear c hn uF, z_X10_isWithin, z_X10_mostOfFact, Option.bind_some]
      simp only [a1, a2, a3, a4, n10, if_true, if_false]
      unfold q_X0_take
      rw [hf, hy2, hw2]
      simp (maxDischargeDepth := 60) only [gq_48, g_48_0, g_48_1, g_48_2, g_48_3, g_48_4, g_48_5, p_48_5, ps_48_5, fs_48_5, g_48_6, g_48_7, p_48_7, ps_48_7, fs_48_7, g_48_8, p_48_8, ps_48_8, fs_48_8, g_48_9, g_48_10, p_48_10, ps_48_10, fs_48_10, g_48_11, gq_49, g_49_0, g_49_1, g_49_2, g_49_3, g_49_4, g_49_5, p_49_5, ps_49_5, fs_49_5, g_49_6, p_49_6, ps_49_6, fs_49_6, gq_51, g_51_0, g_51_1, g_51_2, g_51_3, g_51_4, p_51_4, ps_51_4, fs_51_4, c, hn, Option.bind_some, z_X0_placeOf hf10 hy hw, nk, if_false, hm, lm]
    · rw [E2 h c uF, if_neg a1, if_neg a2, if_neg a3, if_neg a4]
      simp (maxDischargeDepth := 60) only [g_159_2 c hn, Option.bind_some, q0, hm, nm, if_true]
end CALLG

/-! ===== the calls done, fault, count, twice ===== -/
section CALLI
variable {K n : Nat} {h : mm_H}
/-- the rules' numbers: how many sets, how many put by, whether there are some beside, the fault; nothing stands in for a review's own -/
def JN (h : mm_H) : Prop := (∃ m : Nat, fI h 48 7 = ni m ∧ m ≤ 8) ∧ fI h 159 24 = fI h 48 7 ∧ (∃ m : Nat, fI h 48 10 = ni m ∧ m ≤ 4) ∧ fI h 159 25 = fI h 48 10 ∧ (fI h 159 31 = match fR h 48 8 with | none => 0 | some _ => 1) ∧ fI h 159 30 = fI h 151 5 ∧ fI h 159 56 = -1
theorem JN.fb0 {g : mm_H} (j : JN h) (f : FB0 h g) : JN g := by
  obtain ⟨-, f1, f2, f3, f4, f5, f6, f7, f8, f9⟩ := f
  unfold JN
  rw [f1, f2, f3, f4, f5, f6, f7, f8, f9]
  exact j
theorem JN.fb {g : mm_H} (j : JN h) (f : FB h g) : JN g := j.fb0 f.o
theorem in_cnt {m : Nat} (hm : m < 2147483648) (a : Int32) : (mm_in a 0 (ni m - 1) = 0 ∧ ∀ w, w < m → a ≠ ni w) ∨ (mm_in a 0 (ni m - 1) = 1 ∧ ∃ w, w < m ∧ a = ni w) := by
  by_cases h1 : a < 0
  · left
    refine ⟨by unfold mm_in; rw [if_pos h1], fun w hw e => ?_⟩
    rw [e] at h1
    exact ni_pos (by omega) h1
  · obtain ⟨k, hk, rfl⟩ := ni_of h1
    cases m with
    | zero =>
      left
      refine ⟨?_, fun w hw => by omega⟩
      unfold mm_in
      rw [if_neg h1, if_pos]
      show (-1 : Int32) < ni k
      rw [Int32.lt_iff_toInt_lt, ni_int hk]
      show (-1 : Int) < k
      omega
    | succ m =>
      rw [ni_sub1]
      unfold mm_in
      rw [if_neg h1]
      by_cases h2 : ni m < ni k
      · left
        rw [if_pos h2]
        have := (ni_lt (by omega) hk).mp h2
        exact ⟨rfl, fun w hw e => by have := (ni_inj hk (by omega)).mp e; omega⟩
      · right
        rw [if_neg h2]
        have h5 : ¬ m < k := fun q => h2 ((ni_lt (a := m) (b := k) (by omega) hk).mpr q)
        exact ⟨rfl, k, by omega, rfl⟩
theorem z_X9_isThere (c : PS h) (hn : 208 ≤ n) {m : Nat} (hm : fI h 56 4 = ni m) (hm40 : m ≤ 40) (a : Int32) : q_X9_isThere K h n 56 a = some (mm_in a 0 (ni m - 1)) := by
  unfold q_X9_isThere
  simp only [g_56_4 c hn, hm, Option.bind_some]
  rcases in_cnt (m := m) (by omega) a with ⟨e1, e2⟩ | ⟨e1, w, hw, rfl⟩
  · rw [e1]
    by_cases h1 : a < 0
    · rw [if_pos h1]
    · obtain ⟨k, hk, rfl⟩ := ni_of h1
      rw [if_neg h1, if_pos]
      exact (ni_le (by omega) hk).mpr (Nat.not_lt.mp fun q => e2 k q rfl)
  · rw [e1, if_neg (ni_pos (by omega)), if_neg (fun q => by have := (ni_le (by omega) (by omega)).mp q; omega), if_neg (fun q => by have := (ni_le (a := 40) (by omega) (by omega)).mp q; omega)]
theorem nDone_in {D : Nat → Int32} {w : Nat} {x : Int32} (hD : D w = -1) (hx : x ≠ -1) : ∀ m, w < m → nDone (upd D w x) m = nDone D m + 1 := by
  intro m
  induction m with
  | zero => intro q; omega
  | succ m ih =>
    intro hw
    show nDone (upd D w x) m + (if upd D w x m = -1 then 0 else 1) = nDone D m + (if D m = -1 then 0 else 1) + 1
    by_cases e : w = m
    · subst e
      rw [nDone_up _ _ _ _ (Nat.le_refl w), upd_s, hD, if_neg hx, if_pos rfl]
    · rw [ih (by omega), upd_n (fun q => e q.symm)]
      omega
theorem S_5 {l3 : Int32} {kc ks : Nat} {x : Nat → Int32} (c : PS h) (hn : 208 ≤ n) (j : JR h) (sc : SCR (h 0) n l3 x) : ∃ g, st_law_5 K h n l3 kc ks = some (g, n, kc, ks) ∧ PS g ∧ JR g ∧ FB h g := by
  obtain ⟨s1, -⟩ := sc h rfl
  obtain ⟨uT, uF, uA, uW, uB, uL, uP⟩ := id j
  obtain ⟨q0, q1, q2, q3, m, hm, hm40, hd, hD⟩ := id uW
  obtain ⟨t0, ht0, ht1⟩ := id uT.1
  have no : q_X10_done K h n 48 (x 1) = some (0, h) → q_X11_done K h n 159 (x 1) = some (0, h) → ∃ g, st_law_5 K h n l3 kc ks = some (g, n, kc, ks) ∧ PS g ∧ JR g ∧ FB h g := by
    intro k1 k2
    unfold st_law_5
    simp only [s1, gq_48 c hn, gq_159 c hn, Option.bind_some, k1, k2, if_true]
    exact ⟨h, rfl, c, j, FB.id_⟩
  have z0 : ckz 0 = some () := rfl
  have z1 : ckz 1 = some () := rfl
  have n10 : ¬ (1 : Int32) = 0 := by decide
  rcases in_cnt (m := m) (by omega) (x 1) with ⟨e1, e2⟩ | ⟨e1, w, hw, hx⟩
  · refine no ?_ ?_
    · unfold q_X10_done q_X9_finish
      simp (maxDischargeDepth := 40) only [gq_48, g_48_0, g_48_1, g_48_2, g_48_3, g_48_4, g_48_5, p_48_5, ps_48_5, fs_48_5, g_48_6, g_48_7, p_48_7, ps_48_7, fs_48_7, g_48_8, p_48_8, ps_48_8, fs_48_8, g_48_9, g_48_10, p_48_10, ps_48_10, fs_48_10, g_48_11, gq_49, g_49_0, g_49_1, g_49_2, g_49_3, g_49_4, g_49_5, p_49_5, ps_49_5, fs_49_5, g_49_6, p_49_6, ps_49_6, fs_49_6, gq_56 c hn, c, hn, Option.bind_some, z_X9_isThere c hn hm hm40, e1, if_true, z0]
    · unfold q_X11_done
      simp (maxDischargeDepth := 40) only [g_159_8 c hn, q0, hm, Option.bind_some, z_X11_isIn, e1, if_true]
  · rw [hx] at e1
    have iw : inb (ni w) 40 = true := ni_inb (by omega) (by omega)
    have tw : (ni w).toNatClampNeg = w := ni_tn (by omega)
    rcases (hD w hw).2 with ⟨d1, d2⟩ | ⟨t, d1, d3, d2⟩
    · have k1 : q_X10_done K h n 48 (x 1) = some (1, mm_sf (mm_si h 60 w (fI h 49 6)) 56 5 (.int (fI h 56 5 + 1))) := by
        unfold q_X10_done q_X9_finish
        simp (maxDischargeDepth := 40) only [gq_48, g_48_0, g_48_1, g_48_2, g_48_3, g_48_4, g_48_5, p_48_5, ps_48_5, fs_48_5, g_48_6, g_48_7, p_48_7, ps_48_7, fs_48_7, g_48_8, p_48_8, ps_48_8, fs_48_8, g_48_9, g_48_10, p_48_10, ps_48_10, fs_48_10, g_48_11, gq_49, g_49_0, g_49_1, g_49_2, g_49_3, g_49_4, g_49_5, p_49_5, ps_49_5, fs_49_5, g_49_6, p_49_6, ps_49_6, fs_49_6, gq_56, g_56_0, g_56_1, g_56_2, g_56_3, g_56_4, p_56_4, ps_56_4, fs_56_4, g_56_5, p_56_5, ps_56_5, fs_56_5, gl_60, ge_60, pe_60, ps_60, is_60, c, hn, Option.bind_some, z_X9_isThere c hn hm hm40, e1, n10, if_false, hx, iw, tw, d1, if_true, z1, fI_sf_n, fJ_sf_n, fR_sf_n, fI_sf_o, fJ_sf_o, fR_sf_o, iA_sf, jA_sf, rA_sf, fI_si, fJ_si, fR_si, iA_si_n, jA_si, rA_si, fI_sj, fJ_sj, fR_sj, iA_sj, jA_sj_n, rA_sj, fI_sr, fJ_sr, fR_sr, iA_sr, jA_sr, rA_sr_n, ne_eq, not_false_eq_true, Nat.reduceEqDiff, Nat.zero_ne_one, Nat.one_ne_zero]
      generalize hg : mm_sf (mm_si h 60 w (fI h 49 6)) 56 5 (.int (fI h 56 5 + 1)) = g at k1
      have b1 : PS (mm_si h 60 w (fI h 49 6)) := ps_60 c _ _
      have c1 : PS g := by rw [← hg]; exact ps_56_5 b1 _
      have g0 : g 0 = h 0 := by rw [← hg, mm_sf_n (by decide), mm_si_n (by decide)]
      obtain ⟨t1, -⟩ := sc g g0
      have r1 : fI g 159 8 = ni m := by rw [← hg]; simp only [fI_sf_n, fJ_sf_n, fR_sf_n, fI_sf_o, fJ_sf_o, fR_sf_o, iA_sf, jA_sf, rA_sf, fI_si, fJ_si, fR_si, iA_si_n, jA_si, rA_si, fI_sj, fJ_sj, fR_sj, iA_sj, jA_sj_n, rA_sj, fI_sr, fJ_sr, fR_sr, iA_sr, jA_sr, rA_sr_n, ne_eq, not_false_eq_true, Nat.reduceEqDiff, Nat.zero_ne_one, Nat.one_ne_zero]; exact q0.trans hm
      have r2 : fI g 159 0 = fI h 49 6 := by rw [← hg]; simp only [fI_sf_n, fJ_sf_n, fR_sf_n, fI_sf_o, fJ_sf_o, fR_sf_o, iA_sf, jA_sf, rA_sf, fI_si, fJ_si, fR_si, iA_si_n, jA_si, rA_si, fI_sj, fJ_sj, fR_sj, iA_sj, jA_sj_n, rA_sj, fI_sr, fJ_sr, fR_sr, iA_sr, jA_sr, rA_sr_n, ne_eq, not_false_eq_true, Nat.reduceEqDiff, Nat.zero_ne_one, Nat.one_ne_zero]; exact uT.2.1
      have r3 : iA g 168 w = 5000 := by rw [← hg]; simp only [fI_sf_n, fJ_sf_n, fR_sf_n, fI_sf_o, fJ_sf_o, fR_sf_o, iA_sf, jA_sf, rA_sf, fI_si, fJ_si, fR_si, iA_si_n, jA_si, rA_si, fI_sj, fJ_sj, fR_sj, iA_sj, jA_sj_n, rA_sj, fI_sr, fJ_sr, fR_sr, iA_sr, jA_sr, rA_sr_n, ne_eq, not_false_eq_true, Nat.reduceEqDiff, Nat.zero_ne_one, Nat.one_ne_zero]; exact d2
      have k2 : q_X11_done K g n 159 (x 1) = some (1, mm_si g 168 w (fI h 49 6)) := by
        unfold q_X11_done
        simp (maxDischargeDepth := 40) only [gq_159, g_159_0, p_159_0, ps_159_0, fs_159_0, g_159_1, p_159_1, ps_159_1, fs_159_1, g_159_2, p_159_2, ps_159_2, fs_159_2, g_159_3, g_159_4, g_159_5, g_159_6, g_159_7, g_159_8, p_159_8, ps_159_8, fs_159_8, g_159_9, p_159_9, ps_159_9, fs_159_9, g_159_10, p_159_10, ps_159_10, fs_159_10, g_159_11, g_159_12, g_159_13, g_159_14, g_159_15, g_159_16, g_159_17, g_159_18, g_159_19, g_159_20, g_159_21, g_159_22, g_159_23, g_159_24, p_159_24, ps_159_24, fs_159_24, g_159_25, p_159_25, ps_159_25, fs_159_25, g_159_26, p_159_26, ps_159_26, fs_159_26, g_159_27, p_159_27, ps_159_27, fs_159_27, g_159_28, p_159_28, ps_159_28, fs_159_28, g_159_29, p_159_29, ps_159_29, fs_159_29, g_159_30, p_159_30, ps_159_30, fs_159_30, g_159_31, p_159_31, ps_159_31, fs_159_31, g_159_32, g_159_33, g_159_34, g_159_35, g_159_36, g_159_37, g_159_38, g_159_39, g_159_40, g_159_41, g_159_42, g_159_43, g_159_44, g_159_45, g_159_46, g_159_47, g_159_48, g_159_49, g_159_50, g_159_51, g_159_52, g_159_53, g_159_54, p_159_54, ps_159_54, fs_159_54, g_159_55, p_159_55, ps_159_55, fs_159_55, g_159_56, p_159_56, ps_159_56, fs_159_56, g_159_57, p_159_57, ps_159_57, fs_159_57, g_159_58, g_159_59, g_159_60, g_159_61, g_159_62, g_159_63, g_159_64, g_159_65, p_159_65, ps_159_65, fs_159_65, g_159_66, p_159_66, ps_159_66, fs_159_66, g_159_67, gl_168, ge_168, pe_168, ps_168, is_168, c1, hn, Option.bind_some, z_X11_isIn, r1, e1, n10, if_false, hx, iw, tw, r3, r2, if_true, fI_sf_n, fJ_sf_n, fR_sf_n, fI_sf_o, fJ_sf_o, fR_sf_o, iA_sf, jA_sf, rA_sf, fI_si, fJ_si, fR_si, iA_si_n, jA_si, rA_si, fI_sj, fJ_sj, fR_sj, iA_sj, jA_sj_n, rA_sj, fI_sr, fJ_sr, fR_sr, iA_sr, jA_sr, rA_sr_n, ne_eq, not_false_eq_true, Nat.reduceEqDiff, Nat.zero_ne_one, Nat.one_ne_zero]
      refine ⟨mm_si g 168 w (fI h 49 6), ?_, ps_168 c1 _ _, ?_, ?_⟩
      · unfold st_law_5
        simp only [s1, gq_48 c hn, Option.bind_some, k1, t1, gq_159 c1 hn, k2, if_true]
      · refine ⟨?_, ?_, ?_, ?_, ?_, ?_, ?_⟩
        · simp only [JT, fI_sf_n, fJ_sf_n, fR_sf_n, fI_sf_o, fJ_sf_o, fR_sf_o, iA_sf, jA_sf, rA_sf, fI_si, fJ_si, fR_si, iA_si_n, jA_si, rA_si, fI_sj, fJ_sj, fR_sj, iA_sj, jA_sj_n, rA_sj, fI_sr, fJ_sr, fR_sr, iA_sr, jA_sr, rA_sr_n, ne_eq, not_false_eq_true, Nat.reduceEqDiff, Nat.zero_ne_one, Nat.one_ne_zero, ← hg]; exact uT
        · simp only [JF, fI_sf_n, fJ_sf_n, fR_sf_n, fI_sf_o, fJ_sf_o, fR_sf_o, iA_sf, jA_sf, rA_sf, fI_si, fJ_si, fR_si, iA_si_n, jA_si, rA_si, fI_sj, fJ_sj, fR_sj, iA_sj, jA_sj_n, rA_sj, fI_sr, fJ_sr, fR_sr, iA_sr, jA_sr, rA_sr_n, ne_eq, not_false_eq_true, Nat.reduceEqDiff, Nat.zero_ne_one, Nat.one_ne_zero, ← hg]; exact uF
        · simp only [JA, fI_sf_n, fJ_sf_n, fR_sf_n, fI_sf_o, fJ_sf_o, fR_sf_o, iA_sf, jA_sf, rA_sf, fI_si, fJ_si, fR_si, iA_si_n, jA_si, rA_si, fI_sj, fJ_sj, fR_sj, iA_sj, jA_sj_n, rA_sj, fI_sr, fJ_sr, fR_sr, iA_sr, jA_sr, rA_sr_n, ne_eq, not_false_eq_true, Nat.reduceEqDiff, Nat.zero_ne_one, Nat.one_ne_zero, ← hg]; exact uA
        · have v1 : fI g 56 5 = fI h 56 5 + 1 := by rw [← hg]; exact fs_56_5 b1 _
          have v2 : fI g 56 4 = fI h 56 4 := by rw [← hg]; simp only [fI_sf_n, fJ_sf_n, fR_sf_n, fI_sf_o, fJ_sf_o, fR_sf_o, iA_sf, jA_sf, rA_sf, fI_si, fJ_si, fR_si, iA_si_n, jA_si, rA_si, fI_sj, fJ_sj, fR_sj, iA_sj, jA_sj_n, rA_sj, fI_sr, fJ_sr, fR_sr, iA_sr, jA_sr, rA_sr_n, ne_eq, not_false_eq_true, Nat.reduceEqDiff, Nat.zero_ne_one, Nat.one_ne_zero]
          have v3 : fI g 159 8 = fI h 56 4 := by rw [r1, hm]
          have v4 : iA g 60 = upd (iA h 60) w (fI h 49 6) := by rw [← hg]; simp only [fI_sf_n, fJ_sf_n, fR_sf_n, fI_sf_o, fJ_sf_o, fR_sf_o, iA_sf, jA_sf, rA_sf, fI_si, fJ_si, fR_si, iA_si_n, jA_si, rA_si, fI_sj, fJ_sj, fR_sj, iA_sj, jA_sj_n, rA_sj, fI_sr, fJ_sr, fR_sr, iA_sr, jA_sr, rA_sr_n, ne_eq, not_false_eq_true, Nat.reduceEqDiff, Nat.zero_ne_one, Nat.one_ne_zero, is_60 c]
          have w1 : iA g 57 = iA h 57 := by rw [← hg]; simp only [fI_sf_n, fJ_sf_n, fR_sf_n, fI_sf_o, fJ_sf_o, fR_sf_o, iA_sf, jA_sf, rA_sf, fI_si, fJ_si, fR_si, iA_si_n, jA_si, rA_si, fI_sj, fJ_sj, fR_sj, iA_sj, jA_sj_n, rA_sj, fI_sr, fJ_sr, fR_sr, iA_sr, jA_sr, rA_sr_n, ne_eq, not_false_eq_true, Nat.reduceEqDiff, Nat.zero_ne_one, Nat.one_ne_zero]
          have w2 : iA g 58 = iA h 58 := by rw [← hg]; simp only [fI_sf_n, fJ_sf_n, fR_sf_n, fI_sf_o, fJ_sf_o, fR_sf_o, iA_sf, jA_sf, rA_sf, fI_si, fJ_si, fR_si, iA_si_n, jA_si, rA_si, fI_sj, fJ_sj, fR_sj, iA_sj, jA_sj_n, rA_sj, fI_sr, fJ_sr, fR_sr, iA_sr, jA_sr, rA_sr_n, ne_eq, not_false_eq_true, Nat.reduceEqDiff, Nat.zero_ne_one, Nat.one_ne_zero]
          have w3 : iA g 59 = iA h 59 := by rw [← hg]; simp only [fI_sf_n, fJ_sf_n, fR_sf_n, fI_sf_o, fJ_sf_o, fR_sf_o, iA_sf, jA_sf, rA_sf, fI_si, fJ_si, fR_si, iA_si_n, jA_si, rA_si, fI_sj, fJ_sj, fR_sj, iA_sj, jA_sj_n, rA_sj, fI_sr, fJ_sr, fR_sr, iA_sr, jA_sr, rA_sr_n, ne_eq, not_false_eq_true, Nat.reduceEqDiff, Nat.zero_ne_one, Nat.one_ne_zero]
          have w4 : iA g 165 = iA h 57 := by rw [← hg]; simp only [fI_sf_n, fJ_sf_n, fR_sf_n, fI_sf_o, fJ_sf_o, fR_sf_o, iA_sf, jA_sf, rA_sf, fI_si, fJ_si, fR_si, iA_si_n, jA_si, rA_si, fI_sj, fJ_sj, fR_sj, iA_sj, jA_sj_n, rA_sj, fI_sr, fJ_sr, fR_sr, iA_sr, jA_sr, rA_sr_n, ne_eq, not_false_eq_true, Nat.reduceEqDiff, Nat.zero_ne_one, Nat.one_ne_zero]; exact q1
          have w5 : iA g 166 = iA h 58 := by rw [← hg]; simp only [fI_sf_n, fJ_sf_n, fR_sf_n, fI_sf_o, fJ_sf_o, fR_sf_o, iA_sf, jA_sf, rA_sf, fI_si, fJ_si, fR_si, iA_si_n, jA_si, rA_si, fI_sj, fJ_sj, fR_sj, iA_sj, jA_sj_n, rA_sj, fI_sr, fJ_sr, fR_sr, iA_sr, jA_sr, rA_sr_n, ne_eq, not_false_eq_true, Nat.reduceEqDiff, Nat.zero_ne_one, Nat.one_ne_zero]; exact q2
          have w6 : iA g 167 = iA h 59 := by rw [← hg]; simp only [fI_sf_n, fJ_sf_n, fR_sf_n, fI_sf_o, fJ_sf_o, fR_sf_o, iA_sf, jA_sf, rA_sf, fI_si, fJ_si, fR_si, iA_si_n, jA_si, rA_si, fI_sj, fJ_sj, fR_sj, iA_sj, jA_sj_n, rA_sj, fI_sr, fJ_sr, fR_sr, iA_sr, jA_sr, rA_sr_n, ne_eq, not_false_eq_true, Nat.reduceEqDiff, Nat.zero_ne_one, Nat.one_ne_zero]; exact q3
          have w7 : iA g 168 = iA h 168 := by rw [← hg]; simp only [fI_sf_n, fJ_sf_n, fR_sf_n, fI_sf_o, fJ_sf_o, fR_sf_o, iA_sf, jA_sf, rA_sf, fI_si, fJ_si, fR_si, iA_si_n, jA_si, rA_si, fI_sj, fJ_sj, fR_sj, iA_sj, jA_sj_n, rA_sj, fI_sr, fJ_sr, fR_sr, iA_sr, jA_sr, rA_sr_n, ne_eq, not_false_eq_true, Nat.reduceEqDiff, Nat.zero_ne_one, Nat.one_ne_zero]
          simp only [JW, fI_sf_n, fJ_sf_n, fR_sf_n, fI_sf_o, fJ_sf_o, fR_sf_o, iA_sf, jA_sf, rA_sf, fI_si, fJ_si, fR_si, iA_si_n, jA_si, rA_si, fI_sj, fJ_sj, fR_sj, iA_sj, jA_sj_n, rA_sj, fI_sr, fJ_sr, fR_sr, iA_sr, jA_sr, rA_sr_n, ne_eq, not_false_eq_true, Nat.reduceEqDiff, Nat.zero_ne_one, Nat.one_ne_zero, is_168 c1, v1, v2, v3, v4, w1, w2, w3, w4, w5, w6, w7]
          refine ⟨rfl, rfl, rfl, rfl, m, hm, hm40, ?_, fun i hi => ?_⟩
          · rw [nDone_in d1 (by rw [ht0]; exact ni_n1 (by omega)) m hw, hd, ni_1]
          · refine ⟨(hD i hi).1, ?_⟩
            by_cases hiw : i = w
            · subst hiw
              rw [upd_s, upd_s]
              exact Or.inr ⟨t0, ht0, ht1, rfl⟩
            · rw [upd_n hiw, upd_n hiw]
              exact (hD i hi).2
        · simp only [JB, fI_sf_n, fJ_sf_n, fR_sf_n, fI_sf_o, fJ_sf_o, fR_sf_o, iA_sf, jA_sf, rA_sf, fI_si, fJ_si, fR_si, iA_si_n, jA_si, rA_si, fI_sj, fJ_sj, fR_sj, iA_sj, jA_sj_n, rA_sj, fI_sr, fJ_sr, fR_sr, iA_sr, jA_sr, rA_sr_n, ne_eq, not_false_eq_true, Nat.reduceEqDiff, Nat.zero_ne_one, Nat.one_ne_zero, ← hg]; exact uB
        · simp only [JL, fI_sf_n, fJ_sf_n, fR_sf_n, fI_sf_o, fJ_sf_o, fR_sf_o, iA_sf, jA_sf, rA_sf, fI_si, fJ_si, fR_si, iA_si_n, jA_si, rA_si, fI_sj, fJ_sj, fR_sj, iA_sj, jA_sj_n, rA_sj, fI_sr, fJ_sr, fR_sr, iA_sr, jA_sr, rA_sr_n, ne_eq, not_false_eq_true, Nat.reduceEqDiff, Nat.zero_ne_one, Nat.one_ne_zero, ← hg]; exact uL
        · simp only [JP, fI_sf_n, fJ_sf_n, fR_sf_n, fI_sf_o, fJ_sf_o, fR_sf_o, iA_sf, jA_sf, rA_sf, fI_si, fJ_si, fR_si, iA_si_n, jA_si, rA_si, fI_sj, fJ_sj, fR_sj, iA_sj, jA_sj_n, rA_sj, fI_sr, fJ_sr, fR_sr, iA_sr, jA_sr, rA_sr_n, ne_eq, not_false_eq_true, Nat.reduceEqDiff, Nat.zero_ne_one, Nat.one_ne_zero, ← hg]; exact uP
      · refine ⟨fun a ha => ?_, ?_⟩
        · rw [mm_si_n (by omega), ← hg, mm_sf_n (by omega), mm_si_n (by omega)]
        · simp only [fI_sf_n, fJ_sf_n, fR_sf_n, fI_sf_o, fJ_sf_o, fR_sf_o, iA_sf, jA_sf, rA_sf, fI_si, fJ_si, fR_si, iA_si_n, jA_si, rA_si, fI_sj, fJ_sj, fR_sj, iA_sj, jA_sj_n, rA_sj, fI_sr, fJ_sr, fR_sr, iA_sr, jA_sr, rA_sr_n, ne_eq, not_false_eq_true, Nat.reduceEqDiff, Nat.zero_ne_one, Nat.one_ne_zero, ← hg, and_self]
    · have n1 : ¬ ni t = -1 := ni_n1 (by omega)
      have n5 : ¬ ni t = 5000 := fun q => by have := (ni_inj (b := 5000) (by omega) (by omega)).mp q; omega
      refine no ?_ ?_
      · unfold q_X10_done q_X9_finish
        simp (maxDischargeDepth := 40) only [gq_48, g_48_0, g_48_1, g_48_2, g_48_3, g_48_4, g_48_5, p_48_5, ps_48_5, fs_48_5, g_48_6, g_48_7, p_48_7, ps_48_7, fs_48_7, g_48_8, p_48_8, ps_48_8, fs_48_8, g_48_9, g_48_10, p_48_10, ps_48_10, fs_48_10, g_48_11, gq_49, g_49_0, g_49_1, g_49_2, g_49_3, g_49_4, g_49_5, p_49_5, ps_49_5, fs_49_5, g_49_6, p_49_6, ps_49_6, fs_49_6, gq_56, g_56_0, g_56_1, g_56_2, g_56_3, g_56_4, p_56_4, ps_56_4, fs_56_4, g_56_5, p_56_5, ps_56_5, fs_56_5, gl_60, ge_60, pe_60, ps_60, is_60, c, hn, Option.bind_some, z_X9_isThere c hn hm hm40, e1, n10, if_false, hx, iw, tw, d1, n1, if_true, z0]
      · unfold q_X11_done
        simp (maxDischargeDepth := 40) only [gq_159, g_159_0, p_159_0, ps_159_0, fs_159_0, g_159_1, p_159_1, ps_159_1, fs_159_1, g_159_2, p_159_2, ps_159_2, fs_159_2, g_159_3, g_159_4, g_159_5, g_159_6, g_159_7, g_159_8, p_159_8, ps_159_8, fs_159_8, g_159_9, p_159_9, ps_159_9, fs_159_9, g_159_10, p_159_10, ps_159_10, fs_159_10, g_159_11, g_159_12, g_159_13, g_159_14, g_159_15, g_159_16, g_159_17, g_159_18, g_159_19, g_159_20, g_159_21, g_159_22, g_159_23, g_159_24, p_159_24, ps_159_24, fs_159_24, g_159_25, p_159_25, ps_159_25, fs_159_25, g_159_26, p_159_26, ps_159_26, fs_159_26, g_159_27, p_159_27, ps_159_27, fs_159_27, g_159_28, p_159_28, ps_159_28, fs_159_28, g_159_29, p_159_29, ps_159_29, fs_159_29, g_159_30, p_159_30, ps_159_30, fs_159_30, g_159_31, p_159_31, ps_159_31, fs_159_31, g_159_32, g_159_33, g_159_34, g_159_35, g_159_36, g_159_37, g_159_38, g_159_39, g_159_40, g_159_41, g_159_42, g_159_43, g_159_44, g_159_45, g_159_46, g_159_47, g_159_48, g_159_49, g_159_50, g_159_51, g_159_52, g_159_53, g_159_54, p_159_54, ps_159_54, fs_159_54, g_159_55, p_159_55, ps_159_55, fs_159_55, g_159_56, p_159_56, ps_159_56, fs_159_56, g_159_57, p_159_57, ps_159_57, fs_159_57, g_159_58, g_159_59, g_159_60, g_159_61, g_159_62, g_159_63, g_159_64, g_159_65, p_159_65, ps_159_65, fs_159_65, g_159_66, p_159_66, ps_159_66, fs_159_66, g_159_67, gl_168, ge_168, pe_168, ps_168, is_168, c, hn, Option.bind_some, z_X11_isIn, q0, hm, e1, n10, if_false, hx, iw, tw, d2, d1, n5, if_true]
theorem S_11 {l3 : Int32} {kc ks : Nat} (c : PS h) (hn : 208 ≤ n) (j : JN h) : st_law_11 K h n l3 kc ks = some (h, n, kc, ks) := by
  obtain ⟨-, -, -, -, -, e, -⟩ := j
  unfold st_law_11 q_X10_fault q_X11_fault
  simp only [gq_48 c hn, g_48_3 c hn, g_151_5 c hn, gq_159 c hn, g_159_30 c hn, e, Option.bind_some, if_true]
theorem z_lp_count (c : PS h) (hn : 208 ≤ n) (u : JW h) : ∀ (k i : Nat), i ≤ (fI h 56 4).toNatClampNeg → (fI h 56 4).toNatClampNeg - i < k → lp_X11_count_82 K h n 159 k (ni (nDone (iA h 60) i)) (ni i) = some (fI h 56 5) := by
  obtain ⟨q0, -, -, -, m, hm, hm40, hd, hD⟩ := u
  rw [hm, ni_tn (by omega)]
  intro k
  induction k with
  | zero => intro i _ q; omega
  | succ k ih =>
    intro i hi hk
    unfold lp_X11_count_82
    simp only [g_159_8 c hn, q0, hm, Option.bind_some]
    by_cases him : i = m
    · subst him
      rw [if_pos (Int32.le_refl _), hd]
    · rw [if_neg (fun q => by have := (ni_le (by omega) (by omega)).mp q; omega)]
      have iw : inb (ni i) 40 = true := ni_inb (by omega) (by omega)
      have tw : (ni i).toNatClampNeg = i := ni_tn (by omega)
      have o0 : q_X11_one K h n 0 = some 0 := rfl
      have o1 : q_X11_one K h n 1 = some 1 := rfl
      simp only [g_159_14 c hn, ge_168 c hn, Option.bind_some, iw, tw, if_true, o0, o1]
      rcases (hD i (by omega)).2 with ⟨d1, d2⟩ | ⟨t, d1, d3, d2⟩
      · rw [if_pos d2, ni_1]
        have e : nDone (iA h 60) (i + 1) = nDone (iA h 60) i := by
          show nDone (iA h 60) i + (if iA h 60 i = -1 then 0 else 1) = _
          rw [if_pos d1, Nat.add_zero]
        rw [show ni (nDone (iA h 60) i) + 0 = ni (nDone (iA h 60) i) from Int32.add_zero _, ← e]
        exact ih (i + 1) (by omega) (by omega)
      · rw [if_neg (by rw [d2, d1]; exact fun q => by have := (ni_inj (b := 5000) (by omega) (by omega)).mp q; omega), ni_1, ni_1]
        have e : nDone (iA h 60) (i + 1) = nDone (iA h 60) i + 1 := by
          show nDone (iA h 60) i + (if iA h 60 i = -1 then 0 else 1) = _
          rw [if_neg (by rw [d1]; exact ni_n1 (by omega))]
        rw [← e]
        exact ih (i + 1) (by omega) (by omega)
theorem S_32 (hK : 3000 ≤ K) {l3 : Int32} {kc ks : Nat} {x : Nat → Int32} (c : PS h) (hn : 208 ≤ n) (j : JR h) (jn : JN h) (sc : SCR (h 0) n l3 x) : st_law_32 K h n l3 kc ks = some (h, n, kc, ks) := by
  obtain ⟨s1, -⟩ := sc h rfl
  obtain ⟨uT, uF, uA, uW, uB, uL, uP⟩ := id j
  obtain ⟨-, e7, -, e10, e8, -, -⟩ := id jn
  have hc := z_lp_count (K := K) c hn uW K 0 (Nat.zero_le _) (by
    obtain ⟨-, -, -, -, m, hm, hm40, -⟩ := id uW
    rw [hm, ni_tn (by omega)]; omega)
  have hc0 : lp_X11_count_82 K h n 159 K 0 0 = some (fI h 56 5) := hc
  have key : ∃ v, q_X10_count K h n 48 (x 1) = some v ∧ q_X11_count K h n 159 (x 1) = some v := by
    unfold q_X10_count q_X11_count
    simp only [gq_48, g_48_0, g_48_1, g_48_2, g_48_3, g_48_4, g_48_5, p_48_5, ps_48_5, fs_48_5, g_48_6, g_48_7, p_48_7, ps_48_7, fs_48_7, g_48_8, p_48_8, ps_48_8, fs_48_8, g_48_9, g_48_10, p_48_10, ps_48_10, fs_48_10, g_48_11, gq_49, g_49_0, g_49_1, g_49_2, g_49_3, g_49_4, g_49_5, p_49_5, ps_49_5, fs_49_5, g_49_6, p_49_6, ps_49_6, fs_49_6, gq_51, g_51_0, g_51_1, g_51_2, g_51_3, g_51_4, p_51_4, ps_51_4, fs_51_4, gq_56, g_56_0, g_56_1, g_56_2, g_56_3, g_56_4, p_56_4, ps_56_4, fs_56_4, g_56_5, p_56_5, ps_56_5, fs_56_5, gq_61, g_61_0, g_61_1, g_61_2, g_61_3, g_61_4, g_61_5, p_61_5, ps_61_5, fs_61_5, gq_67, g_67_0, g_67_1, g_67_2, g_67_3, g_67_4, g_67_5, p_67_5, ps_67_5, fs_67_5, gq_159, g_159_0, p_159_0, ps_159_0, fs_159_0, g_159_1, p_159_1, ps_159_1, fs_159_1, g_159_2, p_159_2, ps_159_2, fs_159_2, g_159_3, g_159_4, g_159_5, g_159_6, g_159_7, g_159_8, p_159_8, ps_159_8, fs_159_8, g_159_9, p_159_9, ps_159_9, fs_159_9, g_159_10, p_159_10, ps_159_10, fs_159_10, g_159_11, g_159_12, g_159_13, g_159_14, g_159_15, g_159_16, g_159_17, g_159_18, g_159_19, g_159_20, g_159_21, g_159_22, g_159_23, g_159_24, p_159_24, ps_159_24, fs_159_24, g_159_25, p_159_25, ps_159_25, fs_159_25, g_159_26, p_159_26, ps_159_26, fs_159_26, g_159_27, p_159_27, ps_159_27, fs_159_27, g_159_28, p_159_28, ps_159_28, fs_159_28, g_159_29, p_159_29, ps_159_29, fs_159_29, g_159_30, p_159_30, ps_159_30, fs_159_30, g_159_31, p_159_31, ps_159_31, fs_159_31, g_159_32, g_159_33, g_159_34, g_159_35, g_159_36, g_159_37, g_159_38, g_159_39, g_159_40, g_159_41, g_159_42, g_159_43, g_159_44, g_159_45, g_159_46, g_159_47, g_159_48, g_159_49, g_159_50, g_159_51, g_159_52, g_159_53, g_159_54, p_159_54, ps_159_54, fs_159_54, g_159_55, p_159_55, ps_159_55, fs_159_55, g_159_56, p_159_56, ps_159_56, fs_159_56, g_159_57, p_159_57, ps_159_57, fs_159_57, g_159_58, g_159_59, g_159_60, g_159_61, g_159_62, g_159_63, g_159_64, g_159_65, p_159_65, ps_159_65, fs_159_65, g_159_66, p_159_66, ps_159_66, fs_159_66, g_159_67, c, hn, Option.bind_some, uT.2.1, uF.2.1, uA.1, uW.1, uB.1, uL.1, uP.2.1, e7, e10, hc0]
    by_cases h0 : x 1 = 0
    · simp only [h0, if_true]; exact ⟨_, rfl, rfl⟩
    by_cases h1 : x 1 = 1
    · simp only [h0, h1, if_true, if_false]; exact ⟨_, rfl, rfl⟩
    by_cases h2 : x 1 = 2
    · simp only [h0, h1, h2, if_true, if_false]; exact ⟨_, rfl, rfl⟩
    by_cases h3 : x 1 = 3
    · simp only [h0, h1, h2, h3, if_true, if_false]; exact ⟨_, rfl, rfl⟩
    by_cases h4 : x 1 = 4
    · simp only [h0, h1, h2, h3, h4, if_true, if_false]; exact ⟨_, rfl, rfl⟩
    by_cases h5 : x 1 = 5
    · simp only [h0, h1, h2, h3, h4, h5, if_true, if_false]; exact ⟨_, rfl, rfl⟩
    by_cases h6 : x 1 = 6
    · simp only [h0, h1, h2, h3, h4, h5, h6, if_true, if_false]; exact ⟨_, rfl, rfl⟩
    by_cases h7 : x 1 = 7
    · simp only [h0, h1, h2, h3, h4, h5, h6, h7, if_true, if_false]; exact ⟨_, rfl, rfl⟩
    by_cases h8 : x 1 = 8
    · simp only [h0, h1, h2, h3, h4, h5, h6, h7, h8, if_true, if_false]
      rw [e8]
      cases fR h 48 8 with
      | none => exact ⟨0, rfl, rfl⟩
      | some a => exact ⟨1, rfl, rfl⟩
    by_cases h9 : x 1 = 9
    · simp only [h0, h1, h2, h3, h4, h5, h6, h7, h8, h9, if_true, if_false]; exact ⟨_, rfl, rfl⟩
    by_cases h10 : x 1 = 10
    · simp only [h0, h1, h2, h3, h4, h5, h6, h7, h8, h9, h10, if_true, if_false]; exact ⟨_, rfl, rfl⟩
    simp only [h0, h1, h2, h3, h4, h5, h6, h7, h8, h9, h10, if_false]; exact ⟨_, rfl, rfl⟩
  obtain ⟨v, k1, k2⟩ := key
  unfold st_law_32
  simp only [s1, gq_48 c hn, gq_159 c hn, Option.bind_some, k1, k2, if_true]
end CALLI

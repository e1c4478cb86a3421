/-! ===== the register's calls, exactly ===== -/
section REG
variable {K n : Nat} {h : mm_H}
/-- all but some cells stay -/
def KE (lo hi : Nat) (h g : mm_H) : Prop := ∀ a, a < lo ∨ hi < a → g a = h a
theorem r_ok2 (h5 : fI h 49 5 = 2) {f : Nat} (hf : f < 2) : ¬ mm_in (ni f) 0 (fI h 49 5 - 1) = 0 := by
  rw [h5]
  exact a_in (k := f) (N := 1) (by omega) (by omega)
theorem r_firm (c : PS h) (hn : 159 ≤ n) (j : JR h) {m v : Nat} (hm : fI h 49 5 = ni m) (h2 : m < 11) (hv : v ≤ 999999) : ∃ g, q_X10_firm K h n 48 (ni v) = some (ni m, g) ∧ PS g ∧ JR g ∧ KE 49 50 h g ∧ fI g 49 5 = ni (m + 1) ∧ fI g 49 6 = fI h 49 6 ∧ iA g 50 = upd (iA h 50) m (ni v) := by
  obtain ⟨uT, uF, uA, uW, uB, uL, uP⟩ := id j
  have h1 : ¬ mm_in (ni v) 0 999999 = 0 := a_in (N := 999999) (by omega) hv
  have e2 : fI h 49 5 < 11 := by rw [hm]; exact (ni_lt (b := 11) (by omega) (by omega)).mpr h2
  have i2 : inb (fI h 49 5) 11 = true := by rw [hm]; exact ni_inb (by omega) h2
  have k1 : q_X10_firm K h n 48 (ni v) = some (fI h 49 5 + 1 - 1, mm_sf (mm_si h 50 m (ni v)) 49 5 (.int (fI h 49 5 + 1))) := by
    unfold q_X10_firm q_X4_takeFirm
    simp (maxDischargeDepth := 40) only [z_X10_isWithin, Option.bind_some, if_neg h1, gq_48, g_48_0, g_48_1, g_48_2, g_48_3, g_48_4, g_48_5, p_48_5, ps_48_5, fs_48_5, g_48_6, g_48_7, p_48_7, ps_48_7, fs_48_7, g_48_8, p_48_8, ps_48_8, fs_48_8, g_48_9, g_48_10, p_48_10, ps_48_10, fs_48_10, g_48_11, gq_49, g_49_0, g_49_1, g_49_2, g_49_3, g_49_4, g_49_5, p_49_5, ps_49_5, fs_49_5, g_49_6, p_49_6, ps_49_6, fs_49_6, gl_50, ge_50, pe_50, ps_50, is_50, c, hn, e2, i2, if_true, fI_sf_n, fJ_sf_n, fR_sf_n, fI_sf_o, fJ_sf_o, fR_sf_o, iA_sf, jA_sf, rA_sf, fI_si, fJ_si, fR_si, iA_si_n, jA_si, rA_si, fI_sj, fJ_sj, fR_sj, iA_sj, jA_sj_n, rA_sj, fI_sr, fJ_sr, fR_sr, iA_sr, jA_sr, rA_sr_n, ne_eq, not_false_eq_true, Nat.reduceEqDiff, Nat.zero_ne_one, Nat.one_ne_zero]
    rw [hm, ni_tn (by omega)]
  rw [show fI h 49 5 + 1 - 1 = ni m by rw [hm, ni_1, ni_sub1]] at k1
  generalize hg : mm_sf (mm_si h 50 m (ni v)) 49 5 (.int (fI h 49 5 + 1)) = g at k1
  have ch : PS (mm_si h 50 m (ni v)) := ps_50 c _ _
  have c1 : PS g := by rw [← hg]; exact ps_49_5 ch _
  have r1 : fI g 49 5 = fI h 49 5 + 1 := by rw [← hg]; exact fs_49_5 ch _
  have r2 : iA g 50 = upd (iA h 50) m (ni v) := by rw [← hg]; simp only [fI_sf_n, fJ_sf_n, fR_sf_n, fI_sf_o, fJ_sf_o, fR_sf_o, iA_sf, jA_sf, rA_sf, fI_si, fJ_si, fR_si, iA_si_n, jA_si, rA_si, fI_sj, fJ_sj, fR_sj, iA_sj, jA_sj_n, rA_sj, fI_sr, fJ_sr, fR_sr, iA_sr, jA_sr, rA_sr_n, ne_eq, not_false_eq_true, Nat.reduceEqDiff, Nat.zero_ne_one, Nat.one_ne_zero, is_50 c]
  refine ⟨g, k1, c1, ⟨?_, ?_, ?_, ?_, ?_, ?_, ?_⟩, fun a ha => ?_, by rw [r1, hm, ni_1], ?_, r2⟩
  · simp only [JT, fI_sf_n, fJ_sf_n, fR_sf_n, fI_sf_o, fJ_sf_o, fR_sf_o, iA_sf, jA_sf, rA_sf, fI_si, fJ_si, fR_si, iA_si_n, jA_si, rA_si, fI_sj, fJ_sj, fR_sj, iA_sj, jA_sj_n, rA_sj, fI_sr, fJ_sr, fR_sr, iA_sr, jA_sr, rA_sr_n, ne_eq, not_false_eq_true, Nat.reduceEqDiff, Nat.zero_ne_one, Nat.one_ne_zero, ← hg]; exact uT
  · simp only [JF, r1, r2]
    exact ⟨⟨m + 1, by rw [hm, ni_1], by omega⟩, rfl, fun i hi => rfl⟩
  · simp only [JA, fI_sf_n, fJ_sf_n, fR_sf_n, fI_sf_o, fJ_sf_o, fR_sf_o, iA_sf, jA_sf, rA_sf, fI_si, fJ_si, fR_si, iA_si_n, jA_si, rA_si, fI_sj, fJ_sj, fR_sj, iA_sj, jA_sj_n, rA_sj, fI_sr, fJ_sr, fR_sr, iA_sr, jA_sr, rA_sr_n, ne_eq, not_false_eq_true, Nat.reduceEqDiff, Nat.zero_ne_one, Nat.one_ne_zero, ← hg]; exact uA
  · simp only [JW, fI_sf_n, fJ_sf_n, fR_sf_n, fI_sf_o, fJ_sf_o, fR_sf_o, iA_sf, jA_sf, rA_sf, fI_si, fJ_si, fR_si, iA_si_n, jA_si, rA_si, fI_sj, fJ_sj, fR_sj, iA_sj, jA_sj_n, rA_sj, fI_sr, fJ_sr, fR_sr, iA_sr, jA_sr, rA_sr_n, ne_eq, not_false_eq_true, Nat.reduceEqDiff, Nat.zero_ne_one, Nat.one_ne_zero, ← hg]; exact uW
  · simp only [JB, fI_sf_n, fJ_sf_n, fR_sf_n, fI_sf_o, fJ_sf_o, fR_sf_o, iA_sf, jA_sf, rA_sf, fI_si, fJ_si, fR_si, iA_si_n, jA_si, rA_si, fI_sj, fJ_sj, fR_sj, iA_sj, jA_sj_n, rA_sj, fI_sr, fJ_sr, fR_sr, iA_sr, jA_sr, rA_sr_n, ne_eq, not_false_eq_true, Nat.reduceEqDiff, Nat.zero_ne_one, Nat.one_ne_zero, ← hg]; exact uB
  · simp only [JL, fI_sf_n, fJ_sf_n, fR_sf_n, fI_sf_o, fJ_sf_o, fR_sf_o, iA_sf, jA_sf, rA_sf, fI_si, fJ_si, fR_si, iA_si_n, jA_si, rA_si, fI_sj, fJ_sj, fR_sj, iA_sj, jA_sj_n, rA_sj, fI_sr, fJ_sr, fR_sr, iA_sr, jA_sr, rA_sr_n, ne_eq, not_false_eq_true, Nat.reduceEqDiff, Nat.zero_ne_one, Nat.one_ne_zero, ← hg]; exact uL
  · simp only [JP, fI_sf_n, fJ_sf_n, fR_sf_n, fI_sf_o, fJ_sf_o, fR_sf_o, iA_sf, jA_sf, rA_sf, fI_si, fJ_si, fR_si, iA_si_n, jA_si, rA_si, fI_sj, fJ_sj, fR_sj, iA_sj, jA_sj_n, rA_sj, fI_sr, fJ_sr, fR_sr, iA_sr, jA_sr, rA_sr_n, ne_eq, not_false_eq_true, Nat.reduceEqDiff, Nat.zero_ne_one, Nat.one_ne_zero, ← hg]; exact uP
  · rw [← hg, mm_sf_n (by omega), mm_si_n (by omega)]
  · rw [← hg]; simp only [fI_sf_n, fJ_sf_n, fR_sf_n, fI_sf_o, fJ_sf_o, fR_sf_o, iA_sf, jA_sf, rA_sf, fI_si, fJ_si, fR_si, iA_si_n, jA_si, rA_si, fI_sj, fJ_sj, fR_sj, iA_sj, jA_sj_n, rA_sj, fI_sr, fJ_sr, fR_sr, iA_sr, jA_sr, rA_sr_n, ne_eq, not_false_eq_true, Nat.reduceEqDiff, Nat.zero_ne_one, Nat.one_ne_zero]
theorem chase_eq {V T B V' T' B' : Nat → Int32} {m : Nat} (hm : m ≤ 500) (hB : ∀ i, i < m → B i = -1 ∨ ∃ j, j < i ∧ B i = ni j) (e : ∀ i, i < m → V' i = V i ∧ T' i = T i ∧ B' i = B i) (d : Int32) : ∀ (k i : Nat), i < m → chase V' T' B' d k (ni i) = chase V T B d k (ni i) := by
  intro k
  induction k with
  | zero => intro i _; rfl
  | succ k ih =>
    intro i hi
    obtain ⟨e1, e2, e3⟩ := e i hi
    unfold chase
    rw [ni_tn (by omega), e1, e2, e3]
    rcases hB i hi with q | ⟨j, hj, q⟩
    · rw [q]
      cases k with
      | zero => rfl
      | succ k =>
        have : ∀ V T B : Nat → Int32, chase V T B d (k + 1) (-1) = -1 := fun V T B => by unfold chase; rw [if_pos rfl]
        rw [this, this]
    · rw [q, ih j (by omega)]
theorem r_fact (c : PS h) (hn : 159 ≤ n) (j : JR h) (h5 : fI h 49 5 = 2) (h6 : fI h 49 6 = 0) {m y w v : Nat} (hm : fI h 51 4 = ni m) (h2 : m < 500) (hy : y ≤ 14) (hw3 : 3 ≤ w) (hw : w ≤ 16) (hv : v ≤ 9999) : ∃ g, q_X10_fact K h n 48 0 (ni y) (ni w) (ni v) = some (ni m, g) ∧ PS g ∧ JR g ∧ KE 51 55 h g ∧ fI g 51 4 = ni (m + 1) ∧ ∀ f' y' w' d : Nat, f' ≤ 10 → y' ≤ 14 → w' ≤ 16 → d < 2147483648 → kn g f' y' w' (ni d) = if f' = 0 ∧ y' = y ∧ w' = w then ni v else kn h f' y' w' (ni d) := by
  obtain ⟨uT, uF, uA, uW, uB, uL, uP⟩ := id j
  obtain ⟨-, -, -, -, -, m', hm', hm500, hB, hL⟩ := id uA
  obtain rfl : m' = m := (ni_inj (by omega) (by omega)).mp (hm'.symm.trans hm)
  have n10 : ¬ (1 : Int32) = 0 := by decide
  have a1 : ¬ mm_in 0 0 (fI h 49 5 - 1) = 0 := r_ok2 (f := 0) h5 (by omega)
  have a2 : ¬ mm_in (ni y) 0 14 = 0 := a_in (N := 14) (by omega) hy
  have a3 : ¬ mm_in (ni w) 0 16 = 0 := a_in (N := 16) (by omega) hw
  have a4 : ¬ mm_in (ni v) 0 (mostF (ni w)) = 0 := by
    unfold mostF
    rw [if_pos (show (3 : Int32) ≤ ni w from (ni_le (a := 3) (by omega) (by omega)).mpr hw3)]
    split
    · exact a_in (N := 9999) (by omega) hv
    · exact a_in (N := 99999) (by omega) (by omega)
  have hk := keyF_lt (f := 0) (by omega) hy hw
  have ik : inb (ni (keyF 0 y w)) 2805 = true := ni_inb (by omega) hk
  have tk : (ni (keyF 0 y w)).toNatClampNeg = keyF 0 y w := ni_tn (by omega)
  have nk : ¬ ni (keyF 0 y w) = -1 := ni_n1 (by omega)
  have tm : (ni m').toNatClampNeg = m' := ni_tn (by omega)
  have im : inb (ni m') 500 = true := ni_inb (by omega) h2
  have lm : ni m' < 500 := (ni_lt (b := 500) (by omega) (by omega)).mpr h2
  have k1 : q_X10_fact K h n 48 0 (ni y) (ni w) (ni v) = some (ni m' + 1 - 1, mm_sf (mm_si (mm_si (mm_si (mm_si h 52 m' (ni v)) 53 m' (fI h 49 6)) 54 m' (iA h 55 (keyF 0 y w))) 55 (keyF 0 y w) (ni m')) 51 4 (.int (ni m' + 1))) := by
    unfold q_X10_fact; simp only [gq_48 c hn, y_X10_isFirmsYear c hn uF, z_X10_isWithin, z_X10_mostOfFact, Option.bind_some]
    simp only [a1, a2, a3, a4, n10, if_true, if_false]
    unfold q_X0_take
    rw [show (0 : Int32) = ni 0 from rfl]
    simp (maxDischargeDepth := 60) only [gq_48, g_48_0, g_48_1, g_48_2, g_48_3, g_48_4, g_48_5, p_48_5, ps_48_5, fs_48_5, g_48_6, g_48_7, p_48_7, ps_48_7, fs_48_7, g_48_8, p_48_8, ps_48_8, fs_48_8, g_48_9, g_48_10, p_48_10, ps_48_10, fs_48_10, g_48_11, gq_49, g_49_0, g_49_1, g_49_2, g_49_3, g_49_4, g_49_5, p_49_5, ps_49_5, fs_49_5, g_49_6, p_49_6, ps_49_6, fs_49_6, gq_51, g_51_0, g_51_1, g_51_2, g_51_3, g_51_4, p_51_4, ps_51_4, fs_51_4, gl_52, ge_52, pe_52, ps_52, is_52, gl_53, ge_53, pe_53, ps_53, is_53, gl_54, ge_54, pe_54, ps_54, is_54, gl_55, ge_55, pe_55, ps_55, is_55, c, hn, Option.bind_some, z_X0_placeOf (f := 0) (Nat.zero_le 10) hy hw, nk, if_false, hm, lm, im, tm, ik, tk, if_true, fI_sf_n, fJ_sf_n, fR_sf_n, fI_sf_o, fJ_sf_o, fR_sf_o, iA_sf, jA_sf, rA_sf, fI_si, fJ_si, fR_si, iA_si_n, jA_si, rA_si, fI_sj, fJ_sj, fR_sj, iA_sj, jA_sj_n, rA_sj, fI_sr, fJ_sr, fR_sr, iA_sr, jA_sr, rA_sr_n, ne_eq, not_false_eq_true, Nat.reduceEqDiff, Nat.zero_ne_one, Nat.one_ne_zero]
  rw [show ni m' + 1 - 1 = ni m' by rw [ni_1, ni_sub1]] at k1
  generalize hg : mm_sf (mm_si (mm_si (mm_si (mm_si h 52 m' (ni v)) 53 m' (fI h 49 6)) 54 m' (iA h 55 (keyF 0 y w))) 55 (keyF 0 y w) (ni m')) 51 4 (.int (ni m' + 1)) = g at k1
  have b1 : PS (mm_si h 52 m' (ni v)) := ps_52 c _ _
  have b2 : PS (mm_si (mm_si h 52 m' (ni v)) 53 m' (fI h 49 6)) := ps_53 b1 _ _
  have b3 : PS (mm_si (mm_si (mm_si h 52 m' (ni v)) 53 m' (fI h 49 6)) 54 m' (iA h 55 (keyF 0 y w))) := ps_54 b2 _ _
  have b4 : PS (mm_si (mm_si (mm_si (mm_si h 52 m' (ni v)) 53 m' (fI h 49 6)) 54 m' (iA h 55 (keyF 0 y w))) 55 (keyF 0 y w) (ni m')) := ps_55 b3 _ _
  have c1 : PS g := by rw [← hg]; exact ps_51_4 b4 _
  have v1 : fI g 51 4 = ni (m' + 1) := by rw [← hg, fs_51_4 b4, ni_1]
  have v2 : iA g 52 = upd (iA h 52) m' (ni v) := by rw [← hg]; simp only [fI_sf_n, fJ_sf_n, fR_sf_n, fI_sf_o, fJ_sf_o, fR_sf_o, iA_sf, jA_sf, rA_sf, fI_si, fJ_si, fR_si, iA_si_n, jA_si, rA_si, fI_sj, fJ_sj, fR_sj, iA_sj, jA_sj_n, rA_sj, fI_sr, fJ_sr, fR_sr, iA_sr, jA_sr, rA_sr_n, ne_eq, not_false_eq_true, Nat.reduceEqDiff, Nat.zero_ne_one, Nat.one_ne_zero, is_52 c]
  have v3 : iA g 53 = upd (iA h 53) m' (fI h 49 6) := by rw [← hg]; simp only [fI_sf_n, fJ_sf_n, fR_sf_n, fI_sf_o, fJ_sf_o, fR_sf_o, iA_sf, jA_sf, rA_sf, fI_si, fJ_si, fR_si, iA_si_n, jA_si, rA_si, fI_sj, fJ_sj, fR_sj, iA_sj, jA_sj_n, rA_sj, fI_sr, fJ_sr, fR_sr, iA_sr, jA_sr, rA_sr_n, ne_eq, not_false_eq_true, Nat.reduceEqDiff, Nat.zero_ne_one, Nat.one_ne_zero, is_53 b1]
  have v4 : iA g 54 = upd (iA h 54) m' (iA h 55 (keyF 0 y w)) := by rw [← hg]; simp only [fI_sf_n, fJ_sf_n, fR_sf_n, fI_sf_o, fJ_sf_o, fR_sf_o, iA_sf, jA_sf, rA_sf, fI_si, fJ_si, fR_si, iA_si_n, jA_si, rA_si, fI_sj, fJ_sj, fR_sj, iA_sj, jA_sj_n, rA_sj, fI_sr, fJ_sr, fR_sr, iA_sr, jA_sr, rA_sr_n, ne_eq, not_false_eq_true, Nat.reduceEqDiff, Nat.zero_ne_one, Nat.one_ne_zero, is_54 b2]
  have v5 : iA g 55 = upd (iA h 55) (keyF 0 y w) (ni m') := by rw [← hg]; simp only [fI_sf_n, fJ_sf_n, fR_sf_n, fI_sf_o, fJ_sf_o, fR_sf_o, iA_sf, jA_sf, rA_sf, fI_si, fJ_si, fR_si, iA_si_n, jA_si, rA_si, fI_sj, fJ_sj, fR_sj, iA_sj, jA_sj_n, rA_sj, fI_sr, fJ_sr, fR_sr, iA_sr, jA_sr, rA_sr_n, ne_eq, not_false_eq_true, Nat.reduceEqDiff, Nat.zero_ne_one, Nat.one_ne_zero, is_55 b3]
  refine ⟨g, k1, c1, ⟨?_, ?_, ?_, ?_, ?_, ?_, ?_⟩, fun a ha => ?_, v1, ?_⟩
  · simp only [JT, fI_sf_n, fJ_sf_n, fR_sf_n, fI_sf_o, fJ_sf_o, fR_sf_o, iA_sf, jA_sf, rA_sf, fI_si, fJ_si, fR_si, iA_si_n, jA_si, rA_si, fI_sj, fJ_sj, fR_sj, iA_sj, jA_sj_n, rA_sj, fI_sr, fJ_sr, fR_sr, iA_sr, jA_sr, rA_sr_n, ne_eq, not_false_eq_true, Nat.reduceEqDiff, Nat.zero_ne_one, Nat.one_ne_zero, ← hg]; exact uT
  · simp only [JF, fI_sf_n, fJ_sf_n, fR_sf_n, fI_sf_o, fJ_sf_o, fR_sf_o, iA_sf, jA_sf, rA_sf, fI_si, fJ_si, fR_si, iA_si_n, jA_si, rA_si, fI_sj, fJ_sj, fR_sj, iA_sj, jA_sj_n, rA_sj, fI_sr, fJ_sr, fR_sr, iA_sr, jA_sr, rA_sr_n, ne_eq, not_false_eq_true, Nat.reduceEqDiff, Nat.zero_ne_one, Nat.one_ne_zero, ← hg]; exact uF
  · simp only [JA, v1, v2, v3, v4, v5]
    refine ⟨rfl, rfl, rfl, rfl, rfl, m' + 1, rfl, by omega, fun i hi => ?_, fun k hk' => ?_⟩
    · by_cases q : i = m'
      · subst q
        rw [upd_s, upd_s]
        refine ⟨?_, v, rfl, by omega⟩
        rcases hL _ hk with e | ⟨j, hj, e⟩
        · exact Or.inl e
        · exact Or.inr ⟨j, hj, e⟩
      · rw [upd_n q, upd_n q]
        exact hB i (by omega)
    · by_cases q : k = keyF 0 y w
      · subst q
        rw [upd_s]
        exact Or.inr ⟨m', by omega, rfl⟩
      · rw [upd_n q]
        rcases hL k hk' with e | ⟨j, hj, e⟩
        · exact Or.inl e
        · exact Or.inr ⟨j, by omega, e⟩
  · simp only [JW, fI_sf_n, fJ_sf_n, fR_sf_n, fI_sf_o, fJ_sf_o, fR_sf_o, iA_sf, jA_sf, rA_sf, fI_si, fJ_si, fR_si, iA_si_n, jA_si, rA_si, fI_sj, fJ_sj, fR_sj, iA_sj, jA_sj_n, rA_sj, fI_sr, fJ_sr, fR_sr, iA_sr, jA_sr, rA_sr_n, ne_eq, not_false_eq_true, Nat.reduceEqDiff, Nat.zero_ne_one, Nat.one_ne_zero, ← hg]; exact uW
  · simp only [JB, fI_sf_n, fJ_sf_n, fR_sf_n, fI_sf_o, fJ_sf_o, fR_sf_o, iA_sf, jA_sf, rA_sf, fI_si, fJ_si, fR_si, iA_si_n, jA_si, rA_si, fI_sj, fJ_sj, fR_sj, iA_sj, jA_sj_n, rA_sj, fI_sr, fJ_sr, fR_sr, iA_sr, jA_sr, rA_sr_n, ne_eq, not_false_eq_true, Nat.reduceEqDiff, Nat.zero_ne_one, Nat.one_ne_zero, ← hg]; exact uB
  · simp only [JL, fI_sf_n, fJ_sf_n, fR_sf_n, fI_sf_o, fJ_sf_o, fR_sf_o, iA_sf, jA_sf, rA_sf, fI_si, fJ_si, fR_si, iA_si_n, jA_si, rA_si, fI_sj, fJ_sj, fR_sj, iA_sj, jA_sj_n, rA_sj, fI_sr, fJ_sr, fR_sr, iA_sr, jA_sr, rA_sr_n, ne_eq, not_false_eq_true, Nat.reduceEqDiff, Nat.zero_ne_one, Nat.one_ne_zero, ← hg]; exact uL
  · simp only [JP, fI_sf_n, fJ_sf_n, fR_sf_n, fI_sf_o, fJ_sf_o, fR_sf_o, iA_sf, jA_sf, rA_sf, fI_si, fJ_si, fR_si, iA_si_n, jA_si, rA_si, fI_sj, fJ_sj, fR_sj, iA_sj, jA_sj_n, rA_sj, fI_sr, fJ_sr, fR_sr, iA_sr, jA_sr, rA_sr_n, ne_eq, not_false_eq_true, Nat.reduceEqDiff, Nat.zero_ne_one, Nat.one_ne_zero, ← hg]; exact uP
  · rw [← hg, mm_sf_n (by omega), mm_si_n (by omega), mm_si_n (by omega), mm_si_n (by omega), mm_si_n (by omega)]
  · intro f' y' w' d hf' hy' hw' hd
    unfold kn
    rw [v2, v3, v4, v5]
    by_cases q : f' = 0 ∧ y' = y ∧ w' = w
    · obtain ⟨rfl, rfl, rfl⟩ := q
      rw [if_pos ⟨rfl, rfl, rfl⟩, upd_s]
      show chase _ _ _ _ (500 + 1) _ = _
      unfold chase
      rw [if_neg (ni_n1 (by omega)), tm, upd_s, upd_s, h6, if_pos (show (0 : Int32) ≤ ni d from (ni_le (a := 0) (by omega) hd).mpr (by omega))]
    · have nk2 : keyF f' y' w' ≠ keyF 0 y w := fun e => q (by unfold keyF at e; omega)
      rw [if_neg q, upd_n nk2]
      rcases hL _ (keyF_lt hf' hy' hw') with e | ⟨j, hj, e⟩
      · rw [e]
        have : ∀ V T B : Nat → Int32, chase V T B (ni d) (500 + 1) (-1) = -1 := fun V T B => by unfold chase; rw [if_pos rfl]
        exact (this _ _ _).trans (this _ _ _).symm
      · rw [e]
        refine chase_eq (m := m') (by omega) (fun i hi => (hB i hi).1) (fun i hi => ?_) _ _ _ hj
        have : i ≠ m' := by omega
        rw [upd_n this, upd_n this, upd_n this]
        exact ⟨rfl, rfl, rfl⟩
theorem r_work (c : PS h) (hn : 159 ≤ n) (j : JR h) (h5 : fI h 49 5 = 2) {m b u : Nat} (hm : fI h 56 4 = ni m) (h2 : m < 40) (hb0 : 1 ≤ b) (hb : b ≤ 99999) (hu : u ≤ 14) : ∃ g, q_X10_work K h n 48 0 (ni b) (ni u) = some (ni m, g) ∧ PS g ∧ JR g ∧ KE 56 60 h g ∧ fI g 56 4 = ni (m + 1) ∧ iA g 57 = upd (iA h 57) m 0 ∧ iA g 58 = upd (iA h 58) m (ni b) ∧ iA g 59 = upd (iA h 59) m (ni u) ∧ iA g 60 = upd (iA h 60) m (-1) := by
  obtain ⟨uT, uF, uA, uW, uB, uL, uP⟩ := id j
  obtain ⟨q0, q1, q2, q3, m', hm', hm40, hd, hD⟩ := id uW
  obtain rfl : m' = m := (ni_inj (by omega) (by omega)).mp (hm'.symm.trans hm)
  have n10 : ¬ (1 : Int32) = 0 := by decide
  have a1 : ¬ mm_in 0 0 (fI h 49 5 - 1) = 0 := r_ok2 (f := 0) h5 (by omega)
  have a3 : ¬ mm_in (ni u) 0 14 = 0 := a_in (N := 14) (by omega) hu
  have a2 : ¬ mm_in (ni b) 1 99999 = 0 := by
    have : mm_in (ni b) 1 99999 = 1 := mm_in_iff.mpr ⟨fun q => by have := (ni_lt (b := 1) (by omega) (by omega)).mp q; omega, fun q => by have := (ni_lt (a := 99999) (by omega) (by omega)).mp q; omega⟩
    rw [this]; decide
  have tm : (ni m').toNatClampNeg = m' := ni_tn (by omega)
  have im : inb (ni m') 40 = true := ni_inb (by omega) h2
  have lm : ni m' < 40 := (ni_lt (b := 40) (by omega) (by omega)).mpr h2
  have k1 : q_X10_work K h n 48 0 (ni b) (ni u) = some (ni m' + 1 - 1, mm_sf (mm_si (mm_si (mm_si (mm_si h 57 m' 0) 58 m' (ni b)) 59 m' (ni u)) 60 m' (-1)) 56 4 (.int (ni m' + 1))) := by
    unfold q_X10_work; simp only [gq_48 c hn, y_X10_isFirmsYear c hn uF, z_X10_isWithin, Option.bind_some]
    simp only [a1, a2, a3, n10, if_true, if_false]
    unfold q_X9_take
    simp (maxDischargeDepth := 60) only [gq_48, g_48_0, g_48_1, g_48_2, g_48_3, g_48_4, g_48_5, p_48_5, ps_48_5, fs_48_5, g_48_6, g_48_7, p_48_7, ps_48_7, fs_48_7, g_48_8, p_48_8, ps_48_8, fs_48_8, g_48_9, g_48_10, p_48_10, ps_48_10, fs_48_10, g_48_11, gq_49, g_49_0, g_49_1, g_49_2, g_49_3, g_49_4, g_49_5, p_49_5, ps_49_5, fs_49_5, g_49_6, p_49_6, ps_49_6, fs_49_6, gq_56, g_56_0, g_56_1, g_56_2, g_56_3, g_56_4, p_56_4, ps_56_4, fs_56_4, g_56_5, p_56_5, ps_56_5, fs_56_5, gl_57, ge_57, pe_57, ps_57, is_57, gl_58, ge_58, pe_58, ps_58, is_58, gl_59, ge_59, pe_59, ps_59, is_59, gl_60, ge_60, pe_60, ps_60, is_60, c, hn, Option.bind_some, hm, lm, im, tm, if_true, fI_sf_n, fJ_sf_n, fR_sf_n, fI_sf_o, fJ_sf_o, fR_sf_o, iA_sf, jA_sf, rA_sf, fI_si, fJ_si, fR_si, iA_si_n, jA_si, rA_si, fI_sj, fJ_sj, fR_sj, iA_sj, jA_sj_n, rA_sj, fI_sr, fJ_sr, fR_sr, iA_sr, jA_sr, rA_sr_n, ne_eq, not_false_eq_true, Nat.reduceEqDiff, Nat.zero_ne_one, Nat.one_ne_zero]
  rw [show ni m' + 1 - 1 = ni m' by rw [ni_1, ni_sub1]] at k1
  generalize hg : mm_sf (mm_si (mm_si (mm_si (mm_si h 57 m' 0) 58 m' (ni b)) 59 m' (ni u)) 60 m' (-1)) 56 4 (.int (ni m' + 1)) = g at k1
  have bb1 : PS (mm_si h 57 m' 0) := ps_57 c _ _
  have bb2 : PS (mm_si (mm_si h 57 m' 0) 58 m' (ni b)) := ps_58 bb1 _ _
  have bb3 : PS (mm_si (mm_si (mm_si h 57 m' 0) 58 m' (ni b)) 59 m' (ni u)) := ps_59 bb2 _ _
  have bb4 : PS (mm_si (mm_si (mm_si (mm_si h 57 m' 0) 58 m' (ni b)) 59 m' (ni u)) 60 m' (-1)) := ps_60 bb3 _ _
  have c1 : PS g := by rw [← hg]; exact ps_56_4 bb4 _
  have v0 : fI g 56 4 = ni (m' + 1) := by rw [← hg, fs_56_4 bb4, ni_1]
  have v9 : fI g 56 5 = fI h 56 5 := by rw [← hg]; simp only [fI_sf_n, fJ_sf_n, fR_sf_n, fI_sf_o, fJ_sf_o, fR_sf_o, iA_sf, jA_sf, rA_sf, fI_si, fJ_si, fR_si, iA_si_n, jA_si, rA_si, fI_sj, fJ_sj, fR_sj, iA_sj, jA_sj_n, rA_sj, fI_sr, fJ_sr, fR_sr, iA_sr, jA_sr, rA_sr_n, ne_eq, not_false_eq_true, Nat.reduceEqDiff, Nat.zero_ne_one, Nat.one_ne_zero]
  have v1 : iA g 57 = upd (iA h 57) m' 0 := by rw [← hg]; simp only [fI_sf_n, fJ_sf_n, fR_sf_n, fI_sf_o, fJ_sf_o, fR_sf_o, iA_sf, jA_sf, rA_sf, fI_si, fJ_si, fR_si, iA_si_n, jA_si, rA_si, fI_sj, fJ_sj, fR_sj, iA_sj, jA_sj_n, rA_sj, fI_sr, fJ_sr, fR_sr, iA_sr, jA_sr, rA_sr_n, ne_eq, not_false_eq_true, Nat.reduceEqDiff, Nat.zero_ne_one, Nat.one_ne_zero, is_57 c]
  have v2 : iA g 58 = upd (iA h 58) m' (ni b) := by rw [← hg]; simp only [fI_sf_n, fJ_sf_n, fR_sf_n, fI_sf_o, fJ_sf_o, fR_sf_o, iA_sf, jA_sf, rA_sf, fI_si, fJ_si, fR_si, iA_si_n, jA_si, rA_si, fI_sj, fJ_sj, fR_sj, iA_sj, jA_sj_n, rA_sj, fI_sr, fJ_sr, fR_sr, iA_sr, jA_sr, rA_sr_n, ne_eq, not_false_eq_true, Nat.reduceEqDiff, Nat.zero_ne_one, Nat.one_ne_zero, is_58 bb1]
  have v3 : iA g 59 = upd (iA h 59) m' (ni u) := by rw [← hg]; simp only [fI_sf_n, fJ_sf_n, fR_sf_n, fI_sf_o, fJ_sf_o, fR_sf_o, iA_sf, jA_sf, rA_sf, fI_si, fJ_si, fR_si, iA_si_n, jA_si, rA_si, fI_sj, fJ_sj, fR_sj, iA_sj, jA_sj_n, rA_sj, fI_sr, fJ_sr, fR_sr, iA_sr, jA_sr, rA_sr_n, ne_eq, not_false_eq_true, Nat.reduceEqDiff, Nat.zero_ne_one, Nat.one_ne_zero, is_59 bb2]
  have v4 : iA g 60 = upd (iA h 60) m' (-1) := by rw [← hg]; simp only [fI_sf_n, fJ_sf_n, fR_sf_n, fI_sf_o, fJ_sf_o, fR_sf_o, iA_sf, jA_sf, rA_sf, fI_si, fJ_si, fR_si, iA_si_n, jA_si, rA_si, fI_sj, fJ_sj, fR_sj, iA_sj, jA_sj_n, rA_sj, fI_sr, fJ_sr, fR_sr, iA_sr, jA_sr, rA_sr_n, ne_eq, not_false_eq_true, Nat.reduceEqDiff, Nat.zero_ne_one, Nat.one_ne_zero, is_60 bb3]
  refine ⟨g, k1, c1, ⟨?_, ?_, ?_, ?_, ?_, ?_, ?_⟩, fun a ha => ?_, v0, v1, v2, v3, v4⟩
  · simp only [JT, fI_sf_n, fJ_sf_n, fR_sf_n, fI_sf_o, fJ_sf_o, fR_sf_o, iA_sf, jA_sf, rA_sf, fI_si, fJ_si, fR_si, iA_si_n, jA_si, rA_si, fI_sj, fJ_sj, fR_sj, iA_sj, jA_sj_n, rA_sj, fI_sr, fJ_sr, fR_sr, iA_sr, jA_sr, rA_sr_n, ne_eq, not_false_eq_true, Nat.reduceEqDiff, Nat.zero_ne_one, Nat.one_ne_zero, ← hg]; exact uT
  · simp only [JF, fI_sf_n, fJ_sf_n, fR_sf_n, fI_sf_o, fJ_sf_o, fR_sf_o, iA_sf, jA_sf, rA_sf, fI_si, fJ_si, fR_si, iA_si_n, jA_si, rA_si, fI_sj, fJ_sj, fR_sj, iA_sj, jA_sj_n, rA_sj, fI_sr, fJ_sr, fR_sr, iA_sr, jA_sr, rA_sr_n, ne_eq, not_false_eq_true, Nat.reduceEqDiff, Nat.zero_ne_one, Nat.one_ne_zero, ← hg]; exact uF
  · simp only [JA, fI_sf_n, fJ_sf_n, fR_sf_n, fI_sf_o, fJ_sf_o, fR_sf_o, iA_sf, jA_sf, rA_sf, fI_si, fJ_si, fR_si, iA_si_n, jA_si, rA_si, fI_sj, fJ_sj, fR_sj, iA_sj, jA_sj_n, rA_sj, fI_sr, fJ_sr, fR_sr, iA_sr, jA_sr, rA_sr_n, ne_eq, not_false_eq_true, Nat.reduceEqDiff, Nat.zero_ne_one, Nat.one_ne_zero, ← hg]; exact uA
  · simp only [JW, v0, v9, v1, v2, v3, v4]
    refine ⟨rfl, rfl, rfl, rfl, m' + 1, rfl, by omega, ?_, fun i hi => ?_⟩
    · rw [hd]
      show ni _ = ni (nDone _ m' + (if upd (iA h 60) m' (-1) m' = -1 then 0 else 1))
      rw [nDone_up _ _ _ _ (Nat.le_refl m'), upd_s, if_pos rfl, Nat.add_zero]
    · by_cases q : i = m'
      · subst q
        simp only [upd_s, if_true]
        exact ⟨⟨u, rfl, hu⟩, Or.inl ⟨trivial, trivial⟩⟩
      · simp only [upd_n q]
        exact hD i (by omega)
  · simp only [JB, fI_sf_n, fJ_sf_n, fR_sf_n, fI_sf_o, fJ_sf_o, fR_sf_o, iA_sf, jA_sf, rA_sf, fI_si, fJ_si, fR_si, iA_si_n, jA_si, rA_si, fI_sj, fJ_sj, fR_sj, iA_sj, jA_sj_n, rA_sj, fI_sr, fJ_sr, fR_sr, iA_sr, jA_sr, rA_sr_n, ne_eq, not_false_eq_true, Nat.reduceEqDiff, Nat.zero_ne_one, Nat.one_ne_zero, ← hg]; exact uB
  · simp only [JL, fI_sf_n, fJ_sf_n, fR_sf_n, fI_sf_o, fJ_sf_o, fR_sf_o, iA_sf, jA_sf, rA_sf, fI_si, fJ_si, fR_si, iA_si_n, jA_si, rA_si, fI_sj, fJ_sj, fR_sj, iA_sj, jA_sj_n, rA_sj, fI_sr, fJ_sr, fR_sr, iA_sr, jA_sr, rA_sr_n, ne_eq, not_false_eq_true, Nat.reduceEqDiff, Nat.zero_ne_one, Nat.one_ne_zero, ← hg]; exact uL
  · simp only [JP, fI_sf_n, fJ_sf_n, fR_sf_n, fI_sf_o, fJ_sf_o, fR_sf_o, iA_sf, jA_sf, rA_sf, fI_si, fJ_si, fR_si, iA_si_n, jA_si, rA_si, fI_sj, fJ_sj, fR_sj, iA_sj, jA_sj_n, rA_sj, fI_sr, fJ_sr, fR_sr, iA_sr, jA_sr, rA_sr_n, ne_eq, not_false_eq_true, Nat.reduceEqDiff, Nat.zero_ne_one, Nat.one_ne_zero, ← hg]; exact uP
  · rw [← hg, mm_sf_n (by omega), mm_si_n (by omega), mm_si_n (by omega), mm_si_n (by omega), mm_si_n (by omega)]
theorem r_log (c : PS h) (hn : 159 ≤ n) (j : JR h) (h5 : fI h 49 5 = 2) (h6 : fI h 49 6 = 0) {m y b : Nat} (hm : fI h 67 5 = ni m) (h2 : m < 20) (hb0 : 1 ≤ b) (hb : b ≤ 99999) (hy0 : 1 ≤ y) (hy : y ≤ 14) : ∃ g, q_X10_log K h n 48 0 (ni y) (ni b) = some (ni (m + 1), g) ∧ PS g ∧ JR g ∧ KE 67 72 h g ∧ fI g 67 5 = ni (m + 1) ∧ iA g 68 = upd (iA h 68) m 0 ∧ iA g 70 = upd (iA h 70) m (ni y) ∧ iA g 71 = upd (iA h 71) m (ni b) ∧ iA g 72 = upd (iA h 72) m 0 := by
  obtain ⟨uT, uF, uA, uW, uB, uL, uP⟩ := id j
  obtain ⟨q0, q1, q2, q3, q4, q5, m', hm', hm20⟩ := id uL
  obtain rfl : m' = m := (ni_inj (by omega) (by omega)).mp (hm'.symm.trans hm)
  have n10 : ¬ (1 : Int32) = 0 := by decide
  have a1 : ¬ mm_in 0 0 (fI h 49 5 - 1) = 0 := r_ok2 (f := 0) h5 (by omega)
  have a3 : ¬ mm_in (ni y) 0 14 = 0 := a_in (N := 14) (by omega) hy
  have a2 : ¬ mm_in (ni b) 1 99999 = 0 := by
    have : mm_in (ni b) 1 99999 = 1 := mm_in_iff.mpr ⟨fun q => by have := (ni_lt (b := 1) (by omega) (by omega)).mp q; omega, fun q => by have := (ni_lt (a := 99999) (by omega) (by omega)).mp q; omega⟩
    rw [this]; decide
  have a4 : ¬ ni y ≤ fI h 49 6 / 100 := by
    rw [h6, show (0 : Int32) / 100 = ni 0 from rfl]
    exact fun q => by have := (ni_le (by omega) (by omega)).mp q; omega
  have tm : (ni m').toNatClampNeg = m' := ni_tn (by omega)
  have im : inb (ni m') 20 = true := ni_inb (by omega) h2
  have lm : ni m' < 20 := (ni_lt (b := 20) (by omega) (by omega)).mpr h2
  have k1 : q_X10_log K h n 48 0 (ni y) (ni b) = some (ni m' + 1, mm_sf (mm_si (mm_si (mm_si (mm_si (mm_si h 68 m' 0) 69 m' 0) 70 m' (ni y)) 71 m' (ni b)) 72 m' (fI h 49 6)) 67 5 (.int (ni m' + 1))) := by
    unfold q_X10_log; simp only [gq_48 c hn, g_48_0 c hn, g_49_6 c hn, y_X10_isFirmsYear c hn uF, z_X10_isWithin, Option.bind_some]
    simp only [a1, a2, a3, a4, n10, if_true, if_false]
    unfold q_X1_take
    simp (maxDischargeDepth := 60) only [gq_48, g_48_0, g_48_1, g_48_2, g_48_3, g_48_4, g_48_5, p_48_5, ps_48_5, fs_48_5, g_48_6, g_48_7, p_48_7, ps_48_7, fs_48_7, g_48_8, p_48_8, ps_48_8, fs_48_8, g_48_9, g_48_10, p_48_10, ps_48_10, fs_48_10, g_48_11, gq_49, g_49_0, g_49_1, g_49_2, g_49_3, g_49_4, g_49_5, p_49_5, ps_49_5, fs_49_5, g_49_6, p_49_6, ps_49_6, fs_49_6, gq_67, g_67_0, g_67_1, g_67_2, g_67_3, g_67_4, g_67_5, p_67_5, ps_67_5, fs_67_5, gl_68, ge_68, pe_68, ps_68, is_68, gl_69, ge_69, pe_69, ps_69, is_69, gl_70, ge_70, pe_70, ps_70, is_70, gl_71, ge_71, pe_71, ps_71, is_71, gl_72, ge_72, pe_72, ps_72, is_72, c, hn, Option.bind_some, hm, lm, im, tm, if_true, fI_sf_n, fJ_sf_n, fR_sf_n, fI_sf_o, fJ_sf_o, fR_sf_o, iA_sf, jA_sf, rA_sf, fI_si, fJ_si, fR_si, iA_si_n, jA_si, rA_si, fI_sj, fJ_sj, fR_sj, iA_sj, jA_sj_n, rA_sj, fI_sr, fJ_sr, fR_sr, iA_sr, jA_sr, rA_sr_n, ne_eq, not_false_eq_true, Nat.reduceEqDiff, Nat.zero_ne_one, Nat.one_ne_zero]
  generalize hg : mm_sf (mm_si (mm_si (mm_si (mm_si (mm_si h 68 m' 0) 69 m' 0) 70 m' (ni y)) 71 m' (ni b)) 72 m' (fI h 49 6)) 67 5 (.int (ni m' + 1)) = g at k1
  have bb1 : PS (mm_si h 68 m' 0) := ps_68 c _ _
  have bb2 : PS (mm_si (mm_si h 68 m' 0) 69 m' 0) := ps_69 bb1 _ _
  have bb3 : PS (mm_si (mm_si (mm_si h 68 m' 0) 69 m' 0) 70 m' (ni y)) := ps_70 bb2 _ _
  have bb4 : PS (mm_si (mm_si (mm_si (mm_si h 68 m' 0) 69 m' 0) 70 m' (ni y)) 71 m' (ni b)) := ps_71 bb3 _ _
  have bb5 : PS (mm_si (mm_si (mm_si (mm_si (mm_si h 68 m' 0) 69 m' 0) 70 m' (ni y)) 71 m' (ni b)) 72 m' (fI h 49 6)) := ps_72 bb4 _ _
  have c1 : PS g := by rw [← hg]; exact ps_67_5 bb5 _
  have v0 : fI g 67 5 = ni (m' + 1) := by rw [← hg, fs_67_5 bb5, ni_1]
  have v1 : iA g 68 = upd (iA h 68) m' 0 := by rw [← hg]; simp only [fI_sf_n, fJ_sf_n, fR_sf_n, fI_sf_o, fJ_sf_o, fR_sf_o, iA_sf, jA_sf, rA_sf, fI_si, fJ_si, fR_si, iA_si_n, jA_si, rA_si, fI_sj, fJ_sj, fR_sj, iA_sj, jA_sj_n, rA_sj, fI_sr, fJ_sr, fR_sr, iA_sr, jA_sr, rA_sr_n, ne_eq, not_false_eq_true, Nat.reduceEqDiff, Nat.zero_ne_one, Nat.one_ne_zero, is_68 c]
  have v2 : iA g 69 = upd (iA h 69) m' 0 := by rw [← hg]; simp only [fI_sf_n, fJ_sf_n, fR_sf_n, fI_sf_o, fJ_sf_o, fR_sf_o, iA_sf, jA_sf, rA_sf, fI_si, fJ_si, fR_si, iA_si_n, jA_si, rA_si, fI_sj, fJ_sj, fR_sj, iA_sj, jA_sj_n, rA_sj, fI_sr, fJ_sr, fR_sr, iA_sr, jA_sr, rA_sr_n, ne_eq, not_false_eq_true, Nat.reduceEqDiff, Nat.zero_ne_one, Nat.one_ne_zero, is_69 bb1]
  have v3 : iA g 70 = upd (iA h 70) m' (ni y) := by rw [← hg]; simp only [fI_sf_n, fJ_sf_n, fR_sf_n, fI_sf_o, fJ_sf_o, fR_sf_o, iA_sf, jA_sf, rA_sf, fI_si, fJ_si, fR_si, iA_si_n, jA_si, rA_si, fI_sj, fJ_sj, fR_sj, iA_sj, jA_sj_n, rA_sj, fI_sr, fJ_sr, fR_sr, iA_sr, jA_sr, rA_sr_n, ne_eq, not_false_eq_true, Nat.reduceEqDiff, Nat.zero_ne_one, Nat.one_ne_zero, is_70 bb2]
  have v4 : iA g 71 = upd (iA h 71) m' (ni b) := by rw [← hg]; simp only [fI_sf_n, fJ_sf_n, fR_sf_n, fI_sf_o, fJ_sf_o, fR_sf_o, iA_sf, jA_sf, rA_sf, fI_si, fJ_si, fR_si, iA_si_n, jA_si, rA_si, fI_sj, fJ_sj, fR_sj, iA_sj, jA_sj_n, rA_sj, fI_sr, fJ_sr, fR_sr, iA_sr, jA_sr, rA_sr_n, ne_eq, not_false_eq_true, Nat.reduceEqDiff, Nat.zero_ne_one, Nat.one_ne_zero, is_71 bb3]
  have v5 : iA g 72 = upd (iA h 72) m' 0 := by rw [← hg]; simp only [fI_sf_n, fJ_sf_n, fR_sf_n, fI_sf_o, fJ_sf_o, fR_sf_o, iA_sf, jA_sf, rA_sf, fI_si, fJ_si, fR_si, iA_si_n, jA_si, rA_si, fI_sj, fJ_sj, fR_sj, iA_sj, jA_sj_n, rA_sj, fI_sr, fJ_sr, fR_sr, iA_sr, jA_sr, rA_sr_n, ne_eq, not_false_eq_true, Nat.reduceEqDiff, Nat.zero_ne_one, Nat.one_ne_zero, is_72 bb4, h6]
  refine ⟨g, by rw [k1, ni_1], c1, ⟨?_, ?_, ?_, ?_, ?_, ?_, ?_⟩, fun a ha => ?_, v0, v1, v3, v4, v5⟩
  · simp only [JT, fI_sf_n, fJ_sf_n, fR_sf_n, fI_sf_o, fJ_sf_o, fR_sf_o, iA_sf, jA_sf, rA_sf, fI_si, fJ_si, fR_si, iA_si_n, jA_si, rA_si, fI_sj, fJ_sj, fR_sj, iA_sj, jA_sj_n, rA_sj, fI_sr, fJ_sr, fR_sr, iA_sr, jA_sr, rA_sr_n, ne_eq, not_false_eq_true, Nat.reduceEqDiff, Nat.zero_ne_one, Nat.one_ne_zero, ← hg]; exact uT
  · simp only [JF, fI_sf_n, fJ_sf_n, fR_sf_n, fI_sf_o, fJ_sf_o, fR_sf_o, iA_sf, jA_sf, rA_sf, fI_si, fJ_si, fR_si, iA_si_n, jA_si, rA_si, fI_sj, fJ_sj, fR_sj, iA_sj, jA_sj_n, rA_sj, fI_sr, fJ_sr, fR_sr, iA_sr, jA_sr, rA_sr_n, ne_eq, not_false_eq_true, Nat.reduceEqDiff, Nat.zero_ne_one, Nat.one_ne_zero, ← hg]; exact uF
  · simp only [JA, fI_sf_n, fJ_sf_n, fR_sf_n, fI_sf_o, fJ_sf_o, fR_sf_o, iA_sf, jA_sf, rA_sf, fI_si, fJ_si, fR_si, iA_si_n, jA_si, rA_si, fI_sj, fJ_sj, fR_sj, iA_sj, jA_sj_n, rA_sj, fI_sr, fJ_sr, fR_sr, iA_sr, jA_sr, rA_sr_n, ne_eq, not_false_eq_true, Nat.reduceEqDiff, Nat.zero_ne_one, Nat.one_ne_zero, ← hg]; exact uA
  · simp only [JW, fI_sf_n, fJ_sf_n, fR_sf_n, fI_sf_o, fJ_sf_o, fR_sf_o, iA_sf, jA_sf, rA_sf, fI_si, fJ_si, fR_si, iA_si_n, jA_si, rA_si, fI_sj, fJ_sj, fR_sj, iA_sj, jA_sj_n, rA_sj, fI_sr, fJ_sr, fR_sr, iA_sr, jA_sr, rA_sr_n, ne_eq, not_false_eq_true, Nat.reduceEqDiff, Nat.zero_ne_one, Nat.one_ne_zero, ← hg]; exact uW
  · simp only [JB, fI_sf_n, fJ_sf_n, fR_sf_n, fI_sf_o, fJ_sf_o, fR_sf_o, iA_sf, jA_sf, rA_sf, fI_si, fJ_si, fR_si, iA_si_n, jA_si, rA_si, fI_sj, fJ_sj, fR_sj, iA_sj, jA_sj_n, rA_sj, fI_sr, fJ_sr, fR_sr, iA_sr, jA_sr, rA_sr_n, ne_eq, not_false_eq_true, Nat.reduceEqDiff, Nat.zero_ne_one, Nat.one_ne_zero, ← hg]; exact uB
  · simp only [JL, v0, v1, v2, v3, v4, v5]
    refine ⟨rfl, rfl, rfl, rfl, rfl, fun i => ?_, m' + 1, rfl, by omega⟩
    by_cases q : i = m'
    · subst q
      rw [upd_s]
    · rw [upd_n q]; exact q5 i
  · simp only [JP, fI_sf_n, fJ_sf_n, fR_sf_n, fI_sf_o, fJ_sf_o, fR_sf_o, iA_sf, jA_sf, rA_sf, fI_si, fJ_si, fR_si, iA_si_n, jA_si, rA_si, fI_sj, fJ_sj, fR_sj, iA_sj, jA_sj_n, rA_sj, fI_sr, fJ_sr, fR_sr, iA_sr, jA_sr, rA_sr_n, ne_eq, not_false_eq_true, Nat.reduceEqDiff, Nat.zero_ne_one, Nat.one_ne_zero, ← hg]; exact uP
  · rw [← hg, mm_sf_n (by omega), mm_si_n (by omega), mm_si_n (by omega), mm_si_n (by omega), mm_si_n (by omega), mm_si_n (by omega)]
theorem r_day (c : PS h) (hn : 159 ≤ n) (j : JR h) {t d : Nat} (ht : fI h 49 6 = ni t) (h1 : t < d) (h2 : d ≤ 1499) : ∃ g, q_X10_day K h n 48 (ni d) = some (1, g) ∧ PS g ∧ JR g ∧ KE 49 49 h g ∧ fI g 49 5 = fI h 49 5 ∧ fI g 49 6 = ni d := by
  obtain ⟨uT, uF, uA, uW, uB, uL, uP⟩ := id j
  have a1 : ¬ ni d ≤ ni t := fun q => by have := (ni_le (by omega) (by omega)).mp q; omega
  have a2 : ni d < 1500 := (ni_lt (b := 1500) (by omega) (by omega)).mpr (by omega)
  have k1 : q_X10_day K h n 48 (ni d) = some (1, mm_sf h 49 6 (.int (ni d))) := by
    unfold q_X10_day
    simp (maxDischargeDepth := 60) only [gq_48, g_48_0, g_48_1, g_48_2, g_48_3, g_48_4, g_48_5, p_48_5, ps_48_5, fs_48_5, g_48_6, g_48_7, p_48_7, ps_48_7, fs_48_7, g_48_8, p_48_8, ps_48_8, fs_48_8, g_48_9, g_48_10, p_48_10, ps_48_10, fs_48_10, g_48_11, gq_49, g_49_0, g_49_1, g_49_2, g_49_3, g_49_4, g_49_5, p_49_5, ps_49_5, fs_49_5, g_49_6, p_49_6, ps_49_6, fs_49_6, c, hn, Option.bind_some, ht, a1, a2, if_true, if_false]
  generalize hg : mm_sf h 49 6 (.int (ni d)) = g at k1
  have v0 : fI g 49 6 = ni d := by rw [← hg, fs_49_6 c]
  refine ⟨g, k1, by rw [← hg]; exact ps_49_6 c _, ⟨?_, ?_, ?_, ?_, ?_, ?_, ?_⟩, fun a ha => ?_, ?_, v0⟩
  · have : iA g 158 = iA h 158 := by rw [← hg]; simp only [fI_sf_n, fJ_sf_n, fR_sf_n, fI_sf_o, fJ_sf_o, fR_sf_o, iA_sf, jA_sf, rA_sf, fI_si, fJ_si, fR_si, iA_si_n, jA_si, rA_si, fI_sj, fJ_sj, fR_sj, iA_sj, jA_sj_n, rA_sj, fI_sr, fJ_sr, fR_sr, iA_sr, jA_sr, rA_sr_n, ne_eq, not_false_eq_true, Nat.reduceEqDiff, Nat.zero_ne_one, Nat.one_ne_zero]
    simp only [JT, v0, this]
    exact ⟨⟨d, rfl, h2⟩, rfl, rfl⟩
  · simp only [JF, fI_sf_n, fJ_sf_n, fR_sf_n, fI_sf_o, fJ_sf_o, fR_sf_o, iA_sf, jA_sf, rA_sf, fI_si, fJ_si, fR_si, iA_si_n, jA_si, rA_si, fI_sj, fJ_sj, fR_sj, iA_sj, jA_sj_n, rA_sj, fI_sr, fJ_sr, fR_sr, iA_sr, jA_sr, rA_sr_n, ne_eq, not_false_eq_true, Nat.reduceEqDiff, Nat.zero_ne_one, Nat.one_ne_zero, ← hg]; exact uF
  · simp only [JA, fI_sf_n, fJ_sf_n, fR_sf_n, fI_sf_o, fJ_sf_o, fR_sf_o, iA_sf, jA_sf, rA_sf, fI_si, fJ_si, fR_si, iA_si_n, jA_si, rA_si, fI_sj, fJ_sj, fR_sj, iA_sj, jA_sj_n, rA_sj, fI_sr, fJ_sr, fR_sr, iA_sr, jA_sr, rA_sr_n, ne_eq, not_false_eq_true, Nat.reduceEqDiff, Nat.zero_ne_one, Nat.one_ne_zero, ← hg]; exact uA
  · simp only [JW, fI_sf_n, fJ_sf_n, fR_sf_n, fI_sf_o, fJ_sf_o, fR_sf_o, iA_sf, jA_sf, rA_sf, fI_si, fJ_si, fR_si, iA_si_n, jA_si, rA_si, fI_sj, fJ_sj, fR_sj, iA_sj, jA_sj_n, rA_sj, fI_sr, fJ_sr, fR_sr, iA_sr, jA_sr, rA_sr_n, ne_eq, not_false_eq_true, Nat.reduceEqDiff, Nat.zero_ne_one, Nat.one_ne_zero, ← hg]; exact uW
  · simp only [JB, fI_sf_n, fJ_sf_n, fR_sf_n, fI_sf_o, fJ_sf_o, fR_sf_o, iA_sf, jA_sf, rA_sf, fI_si, fJ_si, fR_si, iA_si_n, jA_si, rA_si, fI_sj, fJ_sj, fR_sj, iA_sj, jA_sj_n, rA_sj, fI_sr, fJ_sr, fR_sr, iA_sr, jA_sr, rA_sr_n, ne_eq, not_false_eq_true, Nat.reduceEqDiff, Nat.zero_ne_one, Nat.one_ne_zero, ← hg]; exact uB
  · simp only [JL, fI_sf_n, fJ_sf_n, fR_sf_n, fI_sf_o, fJ_sf_o, fR_sf_o, iA_sf, jA_sf, rA_sf, fI_si, fJ_si, fR_si, iA_si_n, jA_si, rA_si, fI_sj, fJ_sj, fR_sj, iA_sj, jA_sj_n, rA_sj, fI_sr, fJ_sr, fR_sr, iA_sr, jA_sr, rA_sr_n, ne_eq, not_false_eq_true, Nat.reduceEqDiff, Nat.zero_ne_one, Nat.one_ne_zero, ← hg]; exact uL
  · simp only [JP, fI_sf_n, fJ_sf_n, fR_sf_n, fI_sf_o, fJ_sf_o, fR_sf_o, iA_sf, jA_sf, rA_sf, fI_si, fJ_si, fR_si, iA_si_n, jA_si, rA_si, fI_sj, fJ_sj, fR_sj, iA_sj, jA_sj_n, rA_sj, fI_sr, fJ_sr, fR_sr, iA_sr, jA_sr, rA_sr_n, ne_eq, not_false_eq_true, Nat.reduceEqDiff, Nat.zero_ne_one, Nat.one_ne_zero, ← hg]; exact uP
  · rw [← hg, mm_sf_n (by omega)]
  · rw [← hg]; simp only [fI_sf_n, fJ_sf_n, fR_sf_n, fI_sf_o, fJ_sf_o, fR_sf_o, iA_sf, jA_sf, rA_sf, fI_si, fJ_si, fR_si, iA_si_n, jA_si, rA_si, fI_sj, fJ_sj, fR_sj, iA_sj, jA_sj_n, rA_sj, fI_sr, fJ_sr, fR_sr, iA_sr, jA_sr, rA_sr_n, ne_eq, not_false_eq_true, Nat.reduceEqDiff, Nat.zero_ne_one, Nat.one_ne_zero]
theorem r_count (c : PS h) (hn : 159 ≤ n) : q_X10_count K h n 48 0 = some (fI h 49 6) := by
  unfold q_X10_count
  simp only [if_true, g_48_0 c hn, Option.bind_some, g_49_6 c hn]
theorem r_in {w m : Nat} (hm : m ≤ 40) (hw : w < m) : ¬ mm_in (ni w) 0 (ni m - 1) = 0 := by
  obtain ⟨k, rfl⟩ : ∃ k, m = k + 1 := ⟨m - 1, by omega⟩
  rw [ni_sub1]
  exact a_in (N := k) (by omega) (by omega)
theorem r_done (c : PS h) (hn : 159 ≤ n) (j : JR h) {m w : Nat} (hm : fI h 56 4 = ni m) (hmm : m ≤ 40) (hw : w < m) (hd : iA h 60 w = -1) : ∃ g, q_X10_done K h n 48 (ni w) = some (1, g) ∧ PS g ∧ JR g ∧ KE 56 60 h g ∧ fI g 56 4 = ni m ∧ iA g 57 = iA h 57 ∧ iA g 58 = iA h 58 ∧ iA g 59 = iA h 59 ∧ iA g 60 = upd (iA h 60) w (fI h 49 6) := by
  obtain ⟨uT, uF, uA, uW, uB, uL, uP⟩ := id j
  obtain ⟨q0, q1, q2, q3, m', hm', hm40, hd', hD⟩ := id uW
  obtain ⟨t0, ht0, ht1⟩ := id uT.1
  obtain rfl : m' = m := (ni_inj (by omega) (by omega)).mp (hm'.symm.trans hm)
  have z1 : ckz 1 = some () := rfl
  have n10 : ¬ (1 : Int32) = 0 := by decide
  have e1 : ¬ mm_in (ni w) 0 (ni m' - 1) = 0 := r_in hm40 hw
  have iw : inb (ni w) 40 = true := ni_inb (by omega) (by omega)
  have tw : (ni w).toNatClampNeg = w := ni_tn (by omega)
  have k1 : q_X10_done K h n 48 (ni w) = some (1, mm_sf (mm_si h 60 w (fI h 49 6)) 56 5 (.int (fI h 56 5 + 1))) := by
    unfold q_X10_done q_X9_finish
    simp (maxDischargeDepth := 40) only [gq_48, g_48_0, g_48_1, g_48_2, g_48_3, g_48_4, g_48_5, p_48_5, ps_48_5, fs_48_5, g_48_6, g_48_7, p_48_7, ps_48_7, fs_48_7, g_48_8, p_48_8, ps_48_8, fs_48_8, g_48_9, g_48_10, p_48_10, ps_48_10, fs_48_10, g_48_11, gq_49, g_49_0, g_49_1, g_49_2, g_49_3, g_49_4, g_49_5, p_49_5, ps_49_5, fs_49_5, g_49_6, p_49_6, ps_49_6, fs_49_6, gq_56, g_56_0, g_56_1, g_56_2, g_56_3, g_56_4, p_56_4, ps_56_4, fs_56_4, g_56_5, p_56_5, ps_56_5, fs_56_5, gl_60, ge_60, pe_60, ps_60, is_60, c, hn, Option.bind_some, z_X9_isThere c hn hm' hm40, e1, n10, if_false, iw, tw, hd, if_true, z1, fI_sf_n, fJ_sf_n, fR_sf_n, fI_sf_o, fJ_sf_o, fR_sf_o, iA_sf, jA_sf, rA_sf, fI_si, fJ_si, fR_si, iA_si_n, jA_si, rA_si, fI_sj, fJ_sj, fR_sj, iA_sj, jA_sj_n, rA_sj, fI_sr, fJ_sr, fR_sr, iA_sr, jA_sr, rA_sr_n, ne_eq, not_false_eq_true, Nat.reduceEqDiff, Nat.zero_ne_one, Nat.one_ne_zero]
  generalize hg : mm_sf (mm_si h 60 w (fI h 49 6)) 56 5 (.int (fI h 56 5 + 1)) = g at k1
  have b1 : PS (mm_si h 60 w (fI h 49 6)) := ps_60 c _ _
  have c1 : PS g := by rw [← hg]; exact ps_56_5 b1 _
  have v1 : fI g 56 5 = fI h 56 5 + 1 := by rw [← hg]; exact fs_56_5 b1 _
  have v2 : fI g 56 4 = ni m' := by rw [← hg]; simp only [fI_sf_n, fJ_sf_n, fR_sf_n, fI_sf_o, fJ_sf_o, fR_sf_o, iA_sf, jA_sf, rA_sf, fI_si, fJ_si, fR_si, iA_si_n, jA_si, rA_si, fI_sj, fJ_sj, fR_sj, iA_sj, jA_sj_n, rA_sj, fI_sr, fJ_sr, fR_sr, iA_sr, jA_sr, rA_sr_n, ne_eq, not_false_eq_true, Nat.reduceEqDiff, Nat.zero_ne_one, Nat.one_ne_zero]; exact hm'
  have v4 : iA g 60 = upd (iA h 60) w (fI h 49 6) := by rw [← hg]; simp only [fI_sf_n, fJ_sf_n, fR_sf_n, fI_sf_o, fJ_sf_o, fR_sf_o, iA_sf, jA_sf, rA_sf, fI_si, fJ_si, fR_si, iA_si_n, jA_si, rA_si, fI_sj, fJ_sj, fR_sj, iA_sj, jA_sj_n, rA_sj, fI_sr, fJ_sr, fR_sr, iA_sr, jA_sr, rA_sr_n, ne_eq, not_false_eq_true, Nat.reduceEqDiff, Nat.zero_ne_one, Nat.one_ne_zero, is_60 c]
  have w1 : iA g 57 = iA h 57 := by rw [← hg]; simp only [fI_sf_n, fJ_sf_n, fR_sf_n, fI_sf_o, fJ_sf_o, fR_sf_o, iA_sf, jA_sf, rA_sf, fI_si, fJ_si, fR_si, iA_si_n, jA_si, rA_si, fI_sj, fJ_sj, fR_sj, iA_sj, jA_sj_n, rA_sj, fI_sr, fJ_sr, fR_sr, iA_sr, jA_sr, rA_sr_n, ne_eq, not_false_eq_true, Nat.reduceEqDiff, Nat.zero_ne_one, Nat.one_ne_zero]
  have w2 : iA g 58 = iA h 58 := by rw [← hg]; simp only [fI_sf_n, fJ_sf_n, fR_sf_n, fI_sf_o, fJ_sf_o, fR_sf_o, iA_sf, jA_sf, rA_sf, fI_si, fJ_si, fR_si, iA_si_n, jA_si, rA_si, fI_sj, fJ_sj, fR_sj, iA_sj, jA_sj_n, rA_sj, fI_sr, fJ_sr, fR_sr, iA_sr, jA_sr, rA_sr_n, ne_eq, not_false_eq_true, Nat.reduceEqDiff, Nat.zero_ne_one, Nat.one_ne_zero]
  have w3 : iA g 59 = iA h 59 := by rw [← hg]; simp only [fI_sf_n, fJ_sf_n, fR_sf_n, fI_sf_o, fJ_sf_o, fR_sf_o, iA_sf, jA_sf, rA_sf, fI_si, fJ_si, fR_si, iA_si_n, jA_si, rA_si, fI_sj, fJ_sj, fR_sj, iA_sj, jA_sj_n, rA_sj, fI_sr, fJ_sr, fR_sr, iA_sr, jA_sr, rA_sr_n, ne_eq, not_false_eq_true, Nat.reduceEqDiff, Nat.zero_ne_one, Nat.one_ne_zero]
  refine ⟨g, k1, c1, ⟨?_, ?_, ?_, ?_, ?_, ?_, ?_⟩, fun a ha => ?_, v2, w1, w2, w3, v4⟩
  · simp only [JT, fI_sf_n, fJ_sf_n, fR_sf_n, fI_sf_o, fJ_sf_o, fR_sf_o, iA_sf, jA_sf, rA_sf, fI_si, fJ_si, fR_si, iA_si_n, jA_si, rA_si, fI_sj, fJ_sj, fR_sj, iA_sj, jA_sj_n, rA_sj, fI_sr, fJ_sr, fR_sr, iA_sr, jA_sr, rA_sr_n, ne_eq, not_false_eq_true, Nat.reduceEqDiff, Nat.zero_ne_one, Nat.one_ne_zero, ← hg]; exact uT
  · simp only [JF, fI_sf_n, fJ_sf_n, fR_sf_n, fI_sf_o, fJ_sf_o, fR_sf_o, iA_sf, jA_sf, rA_sf, fI_si, fJ_si, fR_si, iA_si_n, jA_si, rA_si, fI_sj, fJ_sj, fR_sj, iA_sj, jA_sj_n, rA_sj, fI_sr, fJ_sr, fR_sr, iA_sr, jA_sr, rA_sr_n, ne_eq, not_false_eq_true, Nat.reduceEqDiff, Nat.zero_ne_one, Nat.one_ne_zero, ← hg]; exact uF
  · simp only [JA, fI_sf_n, fJ_sf_n, fR_sf_n, fI_sf_o, fJ_sf_o, fR_sf_o, iA_sf, jA_sf, rA_sf, fI_si, fJ_si, fR_si, iA_si_n, jA_si, rA_si, fI_sj, fJ_sj, fR_sj, iA_sj, jA_sj_n, rA_sj, fI_sr, fJ_sr, fR_sr, iA_sr, jA_sr, rA_sr_n, ne_eq, not_false_eq_true, Nat.reduceEqDiff, Nat.zero_ne_one, Nat.one_ne_zero, ← hg]; exact uA
  · simp only [JW, v1, v2, v4, w1, w2, w3]
    refine ⟨rfl, rfl, rfl, rfl, m', rfl, hm40, ?_, fun i hi => ?_⟩
    · rw [nDone_in hd (by rw [ht0]; exact ni_n1 (by omega)) m' hw, hd', ni_1]
    · refine ⟨(hD i hi).1, ?_⟩
      by_cases hiw : i = w
      · subst hiw
        simp only [upd_s]
        exact Or.inr ⟨t0, ht0, ht1, by rw [ht0, if_neg (ni_n1 (by omega))]⟩
      · simp only [upd_n hiw]
        exact (hD i hi).2
  · simp only [JB, fI_sf_n, fJ_sf_n, fR_sf_n, fI_sf_o, fJ_sf_o, fR_sf_o, iA_sf, jA_sf, rA_sf, fI_si, fJ_si, fR_si, iA_si_n, jA_si, rA_si, fI_sj, fJ_sj, fR_sj, iA_sj, jA_sj_n, rA_sj, fI_sr, fJ_sr, fR_sr, iA_sr, jA_sr, rA_sr_n, ne_eq, not_false_eq_true, Nat.reduceEqDiff, Nat.zero_ne_one, Nat.one_ne_zero, ← hg]; exact uB
  · simp only [JL, fI_sf_n, fJ_sf_n, fR_sf_n, fI_sf_o, fJ_sf_o, fR_sf_o, iA_sf, jA_sf, rA_sf, fI_si, fJ_si, fR_si, iA_si_n, jA_si, rA_si, fI_sj, fJ_sj, fR_sj, iA_sj, jA_sj_n, rA_sj, fI_sr, fJ_sr, fR_sr, iA_sr, jA_sr, rA_sr_n, ne_eq, not_false_eq_true, Nat.reduceEqDiff, Nat.zero_ne_one, Nat.one_ne_zero, ← hg]; exact uL
  · simp only [JP, fI_sf_n, fJ_sf_n, fR_sf_n, fI_sf_o, fJ_sf_o, fR_sf_o, iA_sf, jA_sf, rA_sf, fI_si, fJ_si, fR_si, iA_si_n, jA_si, rA_si, fI_sj, fJ_sj, fR_sj, iA_sj, jA_sj_n, rA_sj, fI_sr, fJ_sr, fR_sr, iA_sr, jA_sr, rA_sr_n, ne_eq, not_false_eq_true, Nat.reduceEqDiff, Nat.zero_ne_one, Nat.one_ne_zero, ← hg]; exact uP
  · rw [← hg, mm_sf_n (by omega), mm_si_n (by omega)]
theorem r_again (c : PS h) (hn : 159 ≤ n) (j : JR h) {m w t : Nat} (hm : fI h 56 4 = ni m) (hm40 : m ≤ 40) (hw : w < m) (ht : t ≤ 1499) (hd : iA h 60 w = ni t) : q_X10_done K h n 48 (ni w) = some (0, h) := by
  have z0 : ckz 0 = some () := rfl
  have n10 : ¬ (1 : Int32) = 0 := by decide
  have e1 : ¬ mm_in (ni w) 0 (ni m - 1) = 0 := r_in hm40 hw
  have iw : inb (ni w) 40 = true := ni_inb (by omega) (by omega)
  have tw : (ni w).toNatClampNeg = w := ni_tn (by omega)
  have n1 : ¬ ni t = -1 := ni_n1 (by omega)
  unfold q_X10_done q_X9_finish
  simp (maxDischargeDepth := 40) only [gq_48, g_48_0, g_48_1, g_48_2, g_48_3, g_48_4, g_48_5, p_48_5, ps_48_5, fs_48_5, g_48_6, g_48_7, p_48_7, ps_48_7, fs_48_7, g_48_8, p_48_8, ps_48_8, fs_48_8, g_48_9, g_48_10, p_48_10, ps_48_10, fs_48_10, g_48_11, gq_49, g_49_0, g_49_1, g_49_2, g_49_3, g_49_4, g_49_5, p_49_5, ps_49_5, fs_49_5, g_49_6, p_49_6, ps_49_6, fs_49_6, gq_56, g_56_0, g_56_1, g_56_2, g_56_3, g_56_4, p_56_4, ps_56_4, fs_56_4, g_56_5, p_56_5, ps_56_5, fs_56_5, gl_60, ge_60, pe_60, ps_60, is_60, c, hn, Option.bind_some, z_X9_isThere c hn hm hm40, e1, n10, if_false, iw, tw, hd, n1, if_true, z0]
end REG

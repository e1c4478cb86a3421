/-! ===== the call twice ===== -/
section CALLK
variable {K n : Nat} {h : mm_H}
def twF (h : mm_H) (a b : Nat) : Int32 := if iA h 57 a = iA h 57 b then if iA h 58 a = iA h 58 b then if 1 < i_abs (iA h 59 a - iA h 59 b) then 0 else 1 else 0 else 0
theorem z_X9_isTwice (c : PS h) (hn : 208 ≤ n) {m : Nat} (hm : fI h 56 4 = ni m) (hm40 : m ≤ 40) {a b : Nat} (ha : a < m) (hb : b < m) : q_X9_isTwice K h n 56 (ni a) (ni b) = some (twF h a b) := by
  have e : ∀ w, w < m → mm_in (ni w) 0 (ni m - 1) = 1 := fun w hw => by
    rcases in_cnt (m := m) (by omega) (ni w) with ⟨-, e2⟩ | ⟨e1, -⟩
    · exact absurd rfl (e2 w hw)
    · exact e1
  have n10 : ¬ (1 : Int32) = 0 := by decide
  have ia : inb (ni a) 40 = true := ni_inb (by omega) (by omega)
  have ta : (ni a).toNatClampNeg = a := ni_tn (by omega)
  have ib : inb (ni b) 40 = true := ni_inb (by omega) (by omega)
  have tb : (ni b).toNatClampNeg = b := ni_tn (by omega)
  unfold q_X9_isTwice twF
  simp (maxDischargeDepth := 40) only [gq_56, g_56_0, g_56_1, g_56_2, g_56_3, g_56_4, p_56_4, ps_56_4, fs_56_4, g_56_5, p_56_5, ps_56_5, fs_56_5, gl_57, ge_57, pe_57, ps_57, is_57, gl_58, ge_58, pe_58, ps_58, is_58, gl_59, ge_59, pe_59, ps_59, is_59, c, hn, Option.bind_some, z_X9_isThere c hn hm hm40, e a ha, e b hb, n10, if_false, ia, ta, ib, tb, if_true]
  split
  · split
    · split <;> rfl
    · rfl
  · rfl
theorem tw_step (k p : Int32) : k - p + -1 = k - (p + 1) := by grind
theorem tw_zero (k p : Int32) : k - p = 0 ↔ p = k := by
  constructor
  · intro e
    have : k = (k - p) + p := by grind
    rw [this, e]
    grind
  · intro e; rw [e]; grind
theorem z_tw_in (c : PS h) (hn : 208 ≤ n) (u : JW h) {m : Nat} (hm : fI h 56 4 = ni m) (hm40 : m ≤ 40) (l1 l2 : Int32) {a : Nat} (ha : a < m) : ∀ (d b : Nat) (k k' : Nat) (p : Int32), b ≤ m → m - b = d → d < k → d < k' → ∃ (t : Nat) (p' : Int32) (j : Int32), (t = 0 ∨ t = 1) ∧ lp_X9_pair_20 K h n 56 l1 l2 (ni a) k p (ni b) = some (t, p', j) ∧ lp_X11_twice_33 K h n 159 l1 l2 (ni a) k' (l1 - p) (ni b) = some (t, l1 - p', j) := by
  intro d
  induction d with
  | zero =>
    intro b k k' p hb hd hk hk'
    obtain ⟨k, rfl⟩ : ∃ q, k = q + 1 := ⟨k - 1, by omega⟩
    obtain ⟨k', rfl⟩ : ∃ q, k' = q + 1 := ⟨k' - 1, by omega⟩
    have e : b = m := by omega
    subst e
    refine ⟨1, p, ni b, Or.inr rfl, ?_, ?_⟩
    · unfold lp_X9_pair_20
      simp only [g_56_4 c hn, hm, Option.bind_some]
      rw [if_pos (Int32.le_refl _)]
    · unfold lp_X11_twice_33
      simp only [g_159_8 c hn, u.1, hm, Option.bind_some]
      rw [if_pos (Int32.le_refl _)]
  | succ d ih =>
    intro b k k' p hb hd hk hk'
    obtain ⟨k, rfl⟩ : ∃ q, k = q + 1 := ⟨k - 1, by omega⟩
    obtain ⟨k', rfl⟩ : ∃ q, k' = q + 1 := ⟨k' - 1, by omega⟩
    have hbm : b < m := by omega
    obtain ⟨q0, q1, q2, q3, -⟩ := id u
    have nb : ¬ ni m ≤ ni b := fun q => by have := (ni_le (by omega) (by omega)).mp q; omega
    have ia : inb (ni a) 40 = true := ni_inb (by omega) (by omega)
    have ta : (ni a).toNatClampNeg = a := ni_tn (by omega)
    have ib : inb (ni b) 40 = true := ni_inb (by omega) (by omega)
    have tb : (ni b).toNatClampNeg = b := ni_tn (by omega)
    unfold lp_X9_pair_20 lp_X11_twice_33
    simp (maxDischargeDepth := 40) only [gq_159, g_159_0, p_159_0, ps_159_0, fs_159_0, g_159_1, p_159_1, ps_159_1, fs_159_1, g_159_2, p_159_2, ps_159_2, fs_159_2, g_159_3, g_159_4, g_159_5, g_159_6, g_159_7, g_159_8, p_159_8, ps_159_8, fs_159_8, g_159_9, p_159_9, ps_159_9, fs_159_9, g_159_10, p_159_10, ps_159_10, fs_159_10, g_159_11, g_159_12, g_159_13, g_159_14, g_159_15, g_159_16, g_159_17, g_159_18, g_159_19, g_159_20, g_159_21, g_159_22, g_159_23, g_159_24, p_159_24, ps_159_24, fs_159_24, g_159_25, p_159_25, ps_159_25, fs_159_25, g_159_26, p_159_26, ps_159_26, fs_159_26, g_159_27, p_159_27, ps_159_27, fs_159_27, g_159_28, p_159_28, ps_159_28, fs_159_28, g_159_29, p_159_29, ps_159_29, fs_159_29, g_159_30, p_159_30, ps_159_30, fs_159_30, g_159_31, p_159_31, ps_159_31, fs_159_31, g_159_32, g_159_33, g_159_34, g_159_35, g_159_36, g_159_37, g_159_38, g_159_39, g_159_40, g_159_41, g_159_42, g_159_43, g_159_44, g_159_45, g_159_46, g_159_47, g_159_48, g_159_49, g_159_50, g_159_51, g_159_52, g_159_53, g_159_54, p_159_54, ps_159_54, fs_159_54, g_159_55, p_159_55, ps_159_55, fs_159_55, g_159_56, p_159_56, ps_159_56, fs_159_56, g_159_57, p_159_57, ps_159_57, fs_159_57, g_159_58, g_159_59, g_159_60, g_159_61, g_159_62, g_159_63, g_159_64, g_159_65, p_159_65, ps_159_65, fs_159_65, g_159_66, p_159_66, ps_159_66, fs_159_66, g_159_67, gl_165, ge_165, pe_165, ps_165, is_165, gl_166, ge_166, pe_166, ps_166, is_166, gl_167, ge_167, pe_167, ps_167, is_167, g_56_4 c hn, gq_56 c hn, c, hn, q0, q1, q2, q3, hm, Option.bind_some, nb, if_false, z_X9_isTwice c hn hm hm40 ha hbm, ia, ta, ib, tb, if_true, ni_1, tw_step, tw_zero]
    have n10 : ¬ (1 : Int32) = 0 := by decide
    unfold twF
    by_cases e1 : iA h 57 a = iA h 57 b
    · by_cases e2 : iA h 58 a = iA h 58 b
      · by_cases e3 : 1 < i_abs (iA h 59 a - iA h 59 b)
        · have e4 : ¬ i_abs (iA h 59 a - iA h 59 b) ≤ 1 := Int32.not_le.mpr e3
          simp only [e1, e2, e3, e4, if_true, if_false]
          exact ih (b + 1) k k' p (by omega) (by omega) (by omega) (by omega)
        · have e4 : i_abs (iA h 59 a - iA h 59 b) ≤ 1 := Int32.not_lt.mp e3
          simp only [e1, e2, e3, e4, n10, if_true, if_false]
          by_cases e5 : p = l1
          · simp only [e5, if_true]
            exact ⟨0, l1, ni b, Or.inl rfl, rfl, rfl⟩
          · simp only [e5, if_false]
            exact ih (b + 1) k k' (p + 1) (by omega) (by omega) (by omega) (by omega)
      · simp only [e1, e2, if_true, if_false]
        exact ih (b + 1) k k' p (by omega) (by omega) (by omega) (by omega)
    · simp only [e1, if_true, if_false]
      exact ih (b + 1) k k' p (by omega) (by omega) (by omega) (by omega)
theorem z_tw_out (hK : 3000 ≤ K) (c : PS h) (hn : 208 ≤ n) (u : JW h) {m : Nat} (hm : fI h 56 4 = ni m) (hm40 : m ≤ 40) {l1 l2 : Int32} (h1 : ¬ l1 < 0) (h2 : ¬ mm_in l2 0 1 = 0) : ∀ (d a : Nat) (k k' : Nat) (p : Int32), a ≤ m → m - a = d → d < k → d < k' → ∃ (t : Nat) (i j i' j' : Int32), (t = 0 ∧ i' = i ∧ j' = j ∨ t = 1) ∧ lp_X9_pair_5 K h n 56 l1 l2 k p (ni a) = some (t, i, j) ∧ lp_X11_twice_5 K h n 159 l1 l2 k' (l1 - p) (ni a) = some (t, i', j') := by
  intro d
  induction d with
  | zero =>
    intro a k k' p ha hd hk hk'
    obtain ⟨k, rfl⟩ : ∃ q, k = q + 1 := ⟨k - 1, by omega⟩
    obtain ⟨k', rfl⟩ : ∃ q, k' = q + 1 := ⟨k' - 1, by omega⟩
    have e : a = m := by omega
    subst e
    refine ⟨1, ni a, 0, ni a, 0, Or.inr rfl, ?_, ?_⟩
    · unfold lp_X9_pair_5
      simp only [g_56_4 c hn, hm, Option.bind_some]
      rw [if_pos (Int32.le_refl _)]
    · unfold lp_X11_twice_5
      simp only [g_159_8 c hn, u.1, hm, Option.bind_some]
      rw [if_pos (Int32.le_refl _)]
  | succ d ih =>
    intro a k k' p ha hd hk hk'
    obtain ⟨k, rfl⟩ : ∃ q, k = q + 1 := ⟨k - 1, by omega⟩
    obtain ⟨k', rfl⟩ : ∃ q, k' = q + 1 := ⟨k' - 1, by omega⟩
    have ham : a < m := by omega
    have na : ¬ ni m ≤ ni a := fun q => by have := (ni_le (by omega) (by omega)).mp q; omega
    obtain ⟨t, p', j, ht, e1, e2⟩ := z_tw_in (K := K) (n := n) c hn u hm hm40 l1 l2 ham (m - (a + 1)) (a + 1) K K p (by omega) rfl (by omega) (by omega)
    unfold lp_X9_pair_5 lp_X11_twice_5
    simp only [g_56_4 c hn, g_159_8 c hn, u.1, hm, Option.bind_some, na, if_false, h1, z_X11_isIn, h2, ni_1, e1, e2]
    rcases ht with rfl | rfl
    · simp only [if_true]
      exact ⟨0, ni a, j, ni a, j, Or.inl ⟨rfl, rfl, rfl⟩, rfl, rfl⟩
    · simp only [Nat.one_ne_zero, if_false, if_true]
      exact ih (a + 1) k k' p' (by omega) (by omega) (by omega) (by omega)
theorem S_30 (hK : 3000 ≤ K) {l3 : Int32} {kc ks : Nat} {x : Nat → Int32} (c : PS h) (hn : 208 ≤ n) (j : JR h) (sc : SCR (h 0) n l3 x) : st_law_30 K h n l3 kc ks = some (h, n, kc, ks) := by
  obtain ⟨s1, s2, -⟩ := sc h rfl
  obtain ⟨uT, uF, uA, uW, uB, uL, uP⟩ := id j
  obtain ⟨q0, -, -, -, m, hm, hm40, -⟩ := id uW
  obtain ⟨k, hk⟩ : ∃ k, K = k + 1 := ⟨K - 1, by omega⟩
  have key : ∃ v, q_X10_twice K h n 48 (x 1) (x 2) = some v ∧ q_X11_twice K h n 159 (x 1) (x 2) = some v := by
    have m1 : (x 1 < 0 ∨ mm_in (x 2) 0 1 = 0) → q_X11_twice K h n 159 (x 1) (x 2) = some (-1) := by
      intro hh
      have e : ∃ a b, lp_X11_twice_5 K h n 159 (x 1) (x 2) K (x 1) 0 = some (1, a, b) := by
        rw [hk]
        unfold lp_X11_twice_5
        simp only [g_159_8 c hn, Option.bind_some, z_X11_isIn]
        by_cases e1 : fI h 159 8 ≤ 0
        · rw [if_pos e1]; exact ⟨_, _, rfl⟩
        · rw [if_neg e1]
          by_cases e2 : x 1 < 0
          · rw [if_pos e2]; exact ⟨_, _, rfl⟩
          · rw [if_neg e2, if_pos (hh.resolve_left e2)]; exact ⟨_, _, rfl⟩
      obtain ⟨a, b, e⟩ := e
      unfold q_X11_twice
      simp only [e, Option.bind_some, Nat.one_ne_zero, if_false, if_true]
    by_cases h1 : x 1 < 0
    · refine ⟨-1, ?_, m1 (Or.inl h1)⟩
      unfold q_X10_twice
      rw [if_pos h1]
    by_cases h2 : mm_in (x 2) 0 1 = 0
    · refine ⟨-1, ?_, m1 (Or.inr h2)⟩
      unfold q_X10_twice
      simp only [if_neg h1, z_X10_isWithin, Option.bind_some, if_pos h2]
    · obtain ⟨t, i, j, i', j', ht, e1, e2⟩ := z_tw_out hK c hn uW hm hm40 h1 h2 m 0 K K 0 (by omega) (by omega) (by omega) (by omega)
      have e1' : lp_X9_pair_5 K h n 56 (x 1) (x 2) K 0 0 = some (t, i, j) := e1
      have e2' : lp_X11_twice_5 K h n 159 (x 1) (x 2) K (x 1) 0 = some (t, i', j') := by
        have := e2
        rw [Int32.sub_zero] at this
        exact this
      unfold q_X10_twice q_X11_twice q_X9_pair
      simp only [if_neg h1, z_X10_isWithin, Option.bind_some, if_neg h2, g_48_0 c hn, g_49_2 c hn, gq_56 c hn, e1', e2']
      rcases ht with ⟨rfl, rfl, rfl⟩ | rfl
      · simp only [if_true]
        by_cases h3 : x 2 = 0
        · simp only [if_pos h3, Option.bind_some]; exact ⟨_, rfl, rfl⟩
        · simp only [if_neg h3, Option.bind_some]; exact ⟨_, rfl, rfl⟩
      · simp only [Nat.one_ne_zero, if_false, if_true, Option.bind_some]
        exact ⟨_, rfl, rfl⟩
  obtain ⟨v, k1, k2⟩ := key
  unfold st_law_30
  simp only [s1, s2, gq_48 c hn, gq_159 c hn, Option.bind_some, k1, k2, if_true]
end CALLK

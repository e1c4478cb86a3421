/-! ===== fact, known ===== -/
section CALLF
variable {K n : Nat} {h : mm_H}
/-- what is known of a thing by a day: from the fact at i on, as they lead to each other -/
def chase (V T B : Nat → Int32) (d : Int32) : Nat → Int32 → Int32
  | 0, _ => -1
  | k + 1, i => if i = -1 then -1 else if T i.toNatClampNeg ≤ d then V i.toNatClampNeg else chase V T B d k (B i.toNatClampNeg)
def kn (h : mm_H) (f y w : Nat) (d : Int32) : Int32 := chase (iA h 52) (iA h 53) (iA h 54) d 501 (iA h 55 (keyF f y w))
theorem chase_fuel {V T B : Nat → Int32} {d : Int32} {m : Nat} (hm : m ≤ 500) (hB : ∀ i, i < m → B i = -1 ∨ ∃ j, j < i ∧ B i = ni j) : ∀ (i k k' : Nat), i < m → i < k → i < k' → chase V T B d k (ni i) = chase V T B d k' (ni i) := by
  intro i
  induction i using Nat.strongRecOn with
  | ind i ih =>
    intro k k' h1 h2 h3
    obtain ⟨k, rfl⟩ : ∃ q, k = q + 1 := ⟨k - 1, by omega⟩
    obtain ⟨k', rfl⟩ : ∃ q, k' = q + 1 := ⟨k' - 1, by omega⟩
    unfold chase
    rw [if_neg (ni_n1 (by omega)), if_neg (ni_n1 (by omega)), ni_tn (by omega)]
    by_cases ht : T i ≤ d
    · rw [if_pos ht, if_pos ht]
    · rw [if_neg ht, if_neg ht]
      rcases hB i h1 with e | ⟨j, hj, e⟩
      · rw [e]
        obtain ⟨k, rfl⟩ | rfl : (∃ q, k = q + 1) ∨ k = 0 := by
          rcases Nat.eq_zero_or_pos k with q | q
          · exact Or.inr q
          · exact Or.inl ⟨k - 1, by omega⟩
        · obtain ⟨k', rfl⟩ | rfl : (∃ q, k' = q + 1) ∨ k' = 0 := by
            rcases Nat.eq_zero_or_pos k' with q | q
            · exact Or.inr q
            · exact Or.inl ⟨k' - 1, by omega⟩
          · rfl
          · rfl
        · obtain ⟨k', rfl⟩ | rfl : (∃ q, k' = q + 1) ∨ k' = 0 := by
            rcases Nat.eq_zero_or_pos k' with q | q
            · exact Or.inr q
            · exact Or.inl ⟨k' - 1, by omega⟩
          · rfl
          · rfl
      · rw [e]
        exact ih j hj k k' (by omega) (by omega) (by omega)
/-- the program's loop: it comes to a fact that is known, or to none -/
theorem z_lp_knownBy (c : PS h) (hn : 208 ≤ n) (u : JA h) (d : Int32) : ∀ (k : Nat) (s : Nat) (i : Int32), s + k ≤ 501 → 0 < k → (i = -1 ∨ ∃ a, a + s ≤ 499 ∧ i = ni a ∧ ∃ m, fI h 51 4 = ni m ∧ m ≤ 500 ∧ a < m) → (k = 501 - s) →
    (∃ a : Nat, a < 500 ∧ lp_X0_knownBy_31 K h n 51 d k i (ni s) = some (0, ni a) ∧ chase (iA h 52) (iA h 53) (iA h 54) d k i = iA h 52 a) ∨ (∃ z, lp_X0_knownBy_31 K h n 51 d k i (ni s) = some (1, z) ∧ chase (iA h 52) (iA h 53) (iA h 54) d k i = -1) := by
  intro k
  induction k with
  | zero => intro s i _ q; omega
  | succ k ih =>
    intro s i hs _ hi hk
    obtain ⟨-, -, -, -, -, m0, hm0, hm500, hB, -⟩ := u
    rcases hi with rfl | ⟨a, ha, rfl, m, hm, hm5, ham⟩
    · right
      refine ⟨-1, ?_, ?_⟩
      · unfold lp_X0_knownBy_31
        by_cases h1 : (500 : Int32) ≤ ni s
        · rw [if_pos h1]
        · rw [if_neg h1, if_pos (by decide)]
      · unfold chase
        rw [if_pos rfl]
    · have h1 : ¬ (500 : Int32) ≤ ni s := fun q => by have := (ni_le (a := 500) (by omega) (by omega)).mp q; omega
      have h2 : ¬ (500 : Int32) ≤ ni a := fun q => by have := (ni_le (a := 500) (by omega) (by omega)).mp q; omega
      have i2 : inb (ni a) 500 = true := ni_inb (by omega) (by omega)
      have ta : (ni a).toNatClampNeg = a := ni_tn (by omega)
      have hmm : m0 = m := (ni_inj (by omega) (by omega)).mp (hm0.symm.trans hm)
      unfold lp_X0_knownBy_31 chase
      rw [if_neg h1, if_neg (ni_pos (by omega)), if_neg h2, if_neg (ni_n1 (by omega))]
      simp (maxDischargeDepth := 40) only [gq_51, g_51_0, g_51_1, g_51_2, g_51_3, g_51_4, p_51_4, ps_51_4, fs_51_4, gl_53, ge_53, pe_53, ps_53, is_53, gl_54, ge_54, pe_54, ps_54, is_54, c, hn, Option.bind_some, i2, if_true, ta]
      by_cases ht : iA h 53 a ≤ d
      · left
        refine ⟨a, by omega, ?_, ?_⟩
        · rw [if_neg (Int32.not_lt.mpr ht)]
        · rw [if_pos ht]
      · rw [if_pos (Int32.not_le.mp ht), if_neg ht, ni_1]
        have hb := (hB a (by omega)).1
        by_cases hk0 : k = 0
        · omega
        · refine ih (s + 1) _ (by omega) (by omega) ?_ (by omega)
          rcases hb with e | ⟨b, hb1, e⟩
          · exact Or.inl e
          · exact Or.inr ⟨b, by omega, e, m, hm, by omega, by omega⟩
theorem z_X0_knownBy (hK : 3000 ≤ K) (c : PS h) (hn : 208 ≤ n) (u : JA h) {f y w : Nat} (hf : f ≤ 10) (hy : y ≤ 14) (hw : w ≤ 16) (d : Int32) : q_X0_knownBy K h n 51 (ni f) (ni y) (ni w) d = some (kn h f y w d) := by
  have hk := keyF_lt hf hy hw
  obtain ⟨-, -, -, -, -, m, hm, hm500, hB, hL⟩ := id u
  have e0 := z_lp_knownBy (K := K) (n := n) c hn u d 501 0 (iA h 55 (keyF f y w)) (by omega) (by omega) (by
    rcases hL _ hk with e | ⟨j, hj, e⟩
    · exact Or.inl e
    · exact Or.inr ⟨j, by omega, e, m, hm, hm500, hj⟩) rfl
  have lpK : ∀ (k : Nat) (k' s : Nat) (i : Int32) (r : Nat × Int32), lp_X0_knownBy_31 K h n 51 d k i (ni s) = some r → k ≤ k' → lp_X0_knownBy_31 K h n 51 d k' i (ni s) = some r := by
    intro k
    induction k with
    | zero => intro k' s i r q; cases q
    | succ k ih =>
      intro k' s i r q hk'
      obtain ⟨k', rfl⟩ : ∃ z, k' = z + 1 := ⟨k' - 1, by omega⟩
      unfold lp_X0_knownBy_31 at q ⊢
      by_cases h1 : (500 : Int32) ≤ ni s
      · rw [if_pos h1] at q ⊢; exact q
      · rw [if_neg h1] at q ⊢
        by_cases h2 : i < 0
        · rw [if_pos h2] at q ⊢; exact q
        · rw [if_neg h2] at q ⊢
          by_cases h3 : (500 : Int32) ≤ i
          · rw [if_pos h3] at q ⊢; exact q
          · rw [if_neg h3] at q ⊢
            simp (maxDischargeDepth := 40) only [gq_51, g_51_0, g_51_1, g_51_2, g_51_3, g_51_4, p_51_4, ps_51_4, fs_51_4, gl_53, ge_53, pe_53, ps_53, is_53, gl_54, ge_54, pe_54, ps_54, is_54, c, hn, Option.bind_some, ni_1] at q ⊢
            cases hb : inb i 500 with
            | false => simp only [hb] at q; cases q
            | true =>
              simp only [hb, if_true, Option.bind_some] at q ⊢
              by_cases h4 : d < iA h 53 i.toNatClampNeg
              · rw [if_pos h4] at q ⊢
                exact ih _ _ _ _ q (by omega)
              · rw [if_neg h4] at q ⊢; exact q
  have ik : inb (ni (keyF f y w)) 2805 = true := ni_inb (by omega) hk
  have tk : (ni (keyF f y w)).toNatClampNeg = keyF f y w := ni_tn (by omega)
  unfold q_X0_knownBy kn
  simp (maxDischargeDepth := 40) only [gq_51, g_51_0, g_51_1, g_51_2, g_51_3, g_51_4, p_51_4, ps_51_4, fs_51_4, gl_55, ge_55, pe_55, ps_55, is_55, c, hn, Option.bind_some, z_X0_placeOf hf hy hw, if_neg (ni_n1 (show keyF f y w < 2147483648 by omega)), ik, if_true, tk]
  rcases e0 with ⟨a, ha, e1, e2⟩ | ⟨z, e1, e2⟩
  · rw [show (0 : Int32) = ni 0 from rfl, lpK _ K _ _ _ e1 (by omega), Option.bind_some, e2]
    have ia : inb (ni a) 500 = true := ni_inb (by omega) ha
    have ta : (ni a).toNatClampNeg = a := ni_tn (by omega)
    simp (maxDischargeDepth := 40) only [gq_51, g_51_0, g_51_1, g_51_2, g_51_3, g_51_4, p_51_4, ps_51_4, fs_51_4, gl_52, ge_52, pe_52, ps_52, is_52, c, hn, Option.bind_some, ia, if_true, ta]
  · rw [show (0 : Int32) = ni 0 from rfl, lpK _ K _ _ _ e1 (by omega), Option.bind_some, e2]
    rfl
theorem z_lp_factBy (c : PS h) (hn : 208 ≤ n) (u : JA h) (d : Int32) : ∀ (k : Nat) (i : Int32), (i = -1 ∨ ∃ a, a < k ∧ i = ni a ∧ ∃ m, fI h 51 4 = ni m ∧ m ≤ 500 ∧ a < m) → 0 < k →
    ∃ z, lp_X11_factBy_13 K h n 159 d (k + 1) i = some z ∧ ((z = -1 ∧ chase (iA h 52) (iA h 53) (iA h 54) d k i = -1) ∨ ∃ a, z = ni a ∧ a < 500 ∧ chase (iA h 52) (iA h 53) (iA h 54) d k i = iA h 52 a) := by
  intro k
  induction k with
  | zero => intro i _ q; omega
  | succ k ih =>
    intro i hi _
    obtain ⟨-, -, e161, e164, -, m0, hm0, hm500, hB, -⟩ := id u
    rcases hi with rfl | ⟨a, ha, rfl, m, hm, hm5, ham⟩
    · refine ⟨-1, ?_, Or.inl ⟨rfl, ?_⟩⟩
      · unfold lp_X11_factBy_13
        rw [if_pos rfl]
      · unfold chase
        rw [if_pos rfl]
    · have hmm : m0 = m := (ni_inj (by omega) (by omega)).mp (hm0.symm.trans hm)
      have i2 : inb (ni a) 500 = true := ni_inb (by omega) (by omega)
      have ta : (ni a).toNatClampNeg = a := ni_tn (by omega)
      unfold lp_X11_factBy_13 chase
      rw [if_neg (ni_n1 (by omega)), if_neg (ni_n1 (by omega))]
      simp (maxDischargeDepth := 40) only [gq_159, g_159_0, p_159_0, ps_159_0, fs_159_0, g_159_1, p_159_1, ps_159_1, fs_159_1, g_159_2, p_159_2, ps_159_2, fs_159_2, g_159_3, g_159_4, g_159_5, g_159_6, g_159_7, g_159_8, p_159_8, ps_159_8, fs_159_8, g_159_9, p_159_9, ps_159_9, fs_159_9, g_159_10, p_159_10, ps_159_10, fs_159_10, g_159_11, g_159_12, g_159_13, g_159_14, g_159_15, g_159_16, g_159_17, g_159_18, g_159_19, g_159_20, g_159_21, g_159_22, g_159_23, g_159_24, p_159_24, ps_159_24, fs_159_24, g_159_25, p_159_25, ps_159_25, fs_159_25, g_159_26, p_159_26, ps_159_26, fs_159_26, g_159_27, p_159_27, ps_159_27, fs_159_27, g_159_28, p_159_28, ps_159_28, fs_159_28, g_159_29, p_159_29, ps_159_29, fs_159_29, g_159_30, p_159_30, ps_159_30, fs_159_30, g_159_31, p_159_31, ps_159_31, fs_159_31, g_159_32, g_159_33, g_159_34, g_159_35, g_159_36, g_159_37, g_159_38, g_159_39, g_159_40, g_159_41, g_159_42, g_159_43, g_159_44, g_159_45, g_159_46, g_159_47, g_159_48, g_159_49, g_159_50, g_159_51, g_159_52, g_159_53, g_159_54, p_159_54, ps_159_54, fs_159_54, g_159_55, p_159_55, ps_159_55, fs_159_55, g_159_56, p_159_56, ps_159_56, fs_159_56, g_159_57, p_159_57, ps_159_57, fs_159_57, g_159_58, g_159_59, g_159_60, g_159_61, g_159_62, g_159_63, g_159_64, g_159_65, p_159_65, ps_159_65, fs_159_65, g_159_66, p_159_66, ps_159_66, fs_159_66, g_159_67, gl_161, ge_161, pe_161, ps_161, is_161, gl_164, ge_164, pe_164, ps_164, is_164, c, hn, Option.bind_some, i2, if_true, ta, e161, e164]
      by_cases ht : iA h 53 a ≤ d
      · refine ⟨ni a, ?_, Or.inr ⟨a, rfl, by omega, ?_⟩⟩
        · rw [if_pos ht]
        · rw [if_pos ht]
      · rw [if_neg ht, if_neg ht]
        rcases (hB a (by omega)).1 with e | ⟨b, hb1, e⟩
        · rw [e]
          refine ⟨-1, ?_, Or.inl ⟨rfl, ?_⟩⟩
          · unfold lp_X11_factBy_13
            rw [if_pos rfl]
          · cases k with
            | zero => rfl
            | succ k => unfold chase; rw [if_pos rfl]
        · exact ih _ (Or.inr ⟨b, by omega, e, m, hm, by omega, by omega⟩) (by omega)
theorem z_X11_factBy (hK : 3000 ≤ K) (c : PS h) (hn : 208 ≤ n) (u : JA h) {f y w : Nat} (hf : f ≤ 10) (hy : y ≤ 14) (hw : w ≤ 16) (d : Int32) : q_X11_factBy K h n 159 (ni f) (ni y) (ni w) d = some (kn h f y w d) := by
  have hk := keyF_lt hf hy hw
  obtain ⟨-, e160, -, -, e163, m, hm, hm500, hB, hL⟩ := id u
  obtain ⟨z, e1, e2⟩ := z_lp_factBy (K := K) (n := n) c hn u d (K - 1) (iA h 55 (keyF f y w)) (by
    rcases hL _ hk with e | ⟨j, hj, e⟩
    · exact Or.inl e
    · exact Or.inr ⟨j, by omega, e, m, hm, hm500, hj⟩) (by omega)
  have ek : chase (iA h 52) (iA h 53) (iA h 54) d (K - 1) (iA h 55 (keyF f y w)) = kn h f y w d := by
    unfold kn
    rcases hL _ hk with e | ⟨j, hj, e⟩
    · rw [e]
      obtain ⟨q, hq⟩ : ∃ q, K - 1 = q + 1 := ⟨K - 2, by omega⟩
      rw [hq]
      unfold chase
      rw [if_pos rfl, if_pos rfl]
    · rw [e]
      exact chase_fuel hm500 (fun i hi => (hB i hi).1) j _ _ hj (by omega) (by omega)
  rw [ek] at e2
  have ik : inb (ni (keyF f y w)) 2805 = true := ni_inb (by omega) hk
  have tk : (ni (keyF f y w)).toNatClampNeg = keyF f y w := ni_tn (by omega)
  unfold q_X11_factBy
  simp (maxDischargeDepth := 40) only [gq_159, g_159_0, p_159_0, ps_159_0, fs_159_0, g_159_1, p_159_1, ps_159_1, fs_159_1, g_159_2, p_159_2, ps_159_2, fs_159_2, g_159_3, g_159_4, g_159_5, g_159_6, g_159_7, g_159_8, p_159_8, ps_159_8, fs_159_8, g_159_9, p_159_9, ps_159_9, fs_159_9, g_159_10, p_159_10, ps_159_10, fs_159_10, g_159_11, g_159_12, g_159_13, g_159_14, g_159_15, g_159_16, g_159_17, g_159_18, g_159_19, g_159_20, g_159_21, g_159_22, g_159_23, g_159_24, p_159_24, ps_159_24, fs_159_24, g_159_25, p_159_25, ps_159_25, fs_159_25, g_159_26, p_159_26, ps_159_26, fs_159_26, g_159_27, p_159_27, ps_159_27, fs_159_27, g_159_28, p_159_28, ps_159_28, fs_159_28, g_159_29, p_159_29, ps_159_29, fs_159_29, g_159_30, p_159_30, ps_159_30, fs_159_30, g_159_31, p_159_31, ps_159_31, fs_159_31, g_159_32, g_159_33, g_159_34, g_159_35, g_159_36, g_159_37, g_159_38, g_159_39, g_159_40, g_159_41, g_159_42, g_159_43, g_159_44, g_159_45, g_159_46, g_159_47, g_159_48, g_159_49, g_159_50, g_159_51, g_159_52, g_159_53, g_159_54, p_159_54, ps_159_54, fs_159_54, g_159_55, p_159_55, ps_159_55, fs_159_55, g_159_56, p_159_56, ps_159_56, fs_159_56, g_159_57, p_159_57, ps_159_57, fs_159_57, g_159_58, g_159_59, g_159_60, g_159_61, g_159_62, g_159_63, g_159_64, g_159_65, p_159_65, ps_159_65, fs_159_65, g_159_66, p_159_66, ps_159_66, fs_159_66, g_159_67, gl_163, ge_163, pe_163, ps_163, is_163, c, hn, Option.bind_some, z_X11_keyOf, ik, if_true, tk, e163]
  rw [show K - 1 + 1 = K by omega] at e1
  rw [e1, Option.bind_some]
  rcases e2 with ⟨rfl, e3⟩ | ⟨a, rfl, ha, e3⟩
  · rw [if_pos rfl, e3]
  · have ia : inb (ni a) 500 = true := ni_inb (by omega) ha
    have ta : (ni a).toNatClampNeg = a := ni_tn (by omega)
    rw [if_neg (ni_n1 (by omega)), e3]
    simp (maxDischargeDepth := 40) only [gq_159, g_159_0, p_159_0, ps_159_0, fs_159_0, g_159_1, p_159_1, ps_159_1, fs_159_1, g_159_2, p_159_2, ps_159_2, fs_159_2, g_159_3, g_159_4, g_159_5, g_159_6, g_159_7, g_159_8, p_159_8, ps_159_8, fs_159_8, g_159_9, p_159_9, ps_159_9, fs_159_9, g_159_10, p_159_10, ps_159_10, fs_159_10, g_159_11, g_159_12, g_159_13, g_159_14, g_159_15, g_159_16, g_159_17, g_159_18, g_159_19, g_159_20, g_159_21, g_159_22, g_159_23, g_159_24, p_159_24, ps_159_24, fs_159_24, g_159_25, p_159_25, ps_159_25, fs_159_25, g_159_26, p_159_26, ps_159_26, fs_159_26, g_159_27, p_159_27, ps_159_27, fs_159_27, g_159_28, p_159_28, ps_159_28, fs_159_28, g_159_29, p_159_29, ps_159_29, fs_159_29, g_159_30, p_159_30, ps_159_30, fs_159_30, g_159_31, p_159_31, ps_159_31, fs_159_31, g_159_32, g_159_33, g_159_34, g_159_35, g_159_36, g_159_37, g_159_38, g_159_39, g_159_40, g_159_41, g_159_42, g_159_43, g_159_44, g_159_45, g_159_46, g_159_47, g_159_48, g_159_49, g_159_50, g_159_51, g_159_52, g_159_53, g_159_54, p_159_54, ps_159_54, fs_159_54, g_159_55, p_159_55, ps_159_55, fs_159_55, g_159_56, p_159_56, ps_159_56, fs_159_56, g_159_57, p_159_57, ps_159_57, fs_159_57, g_159_58, g_159_59, g_159_60, g_159_61, g_159_62, g_159_63, g_159_64, g_159_65, p_159_65, ps_159_65, fs_159_65, g_159_66, p_159_66, ps_159_66, fs_159_66, g_159_67, gl_160, ge_160, pe_160, ps_160, is_160, c, hn, Option.bind_some, ia, if_true, ta, e160]
end CALLF

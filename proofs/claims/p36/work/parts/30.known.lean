/-! ===== fact, known ===== -/
section CALLF
variable {K n : Nat} {h : mm_H}
/-- what is known of a thing by a day: from the fact at i on, as they lead to each other -/
def chase (V T B : Nat → Int32) (d : Int32) : Nat → Int32 → Int32
  | 0, _ => -1
  | k + 1, i => if i = -1 then -1 else if T i.toNatClampNeg ≤ d then V i.toNatClampNeg else chase V T B d k (B i.toNatClampNeg)
def kn (h : mm_H) (f y w : Nat) (d : Int32) : Int32 := chase (iA h 52) (iA h 53) (iA h 54) d 501 (iA h 55 (keyF f y w))
theorem chase_fuel {V T B : Nat → Int32} {d : Int32} {m : Nat} (hm : m ≤ 500) (hB : ∀ i, i < m → B i = -1 ∨ ∃ j, j < i ∧ B i = ni j) : ∀ (i k k' : Nat), i < m → i < k → i < k' → chase V T B d k (ni i) = chase V T B d k' (ni i) := by
  intro i
  induction i using Nat.strongRecOn with
  | ind i ih =>
    intro k k' h1 h2 h3
    obtain ⟨k, rfl⟩ : ∃ q, k = q + 1 := ⟨k - 1, by omega⟩
    obtain ⟨k', rfl⟩ : ∃ q, k' = q + 1 := ⟨k' - 1, by omega⟩
    unfold chase
    rw [if_neg (ni_n1 (by omega)), if_neg (ni_n1 (by omega)), ni_tn (by omega)]
    by_cases ht : T i ≤ d
    · rw [if_pos ht, if_pos ht]
    · rw [if_neg ht, if_neg ht]
      rcases hB i h1 with e | ⟨j, hj, e⟩
      · rw [e]
        obtain ⟨k, rfl⟩ | rfl : (∃ q, k = q + 1) ∨ k = 0 := by
          rcases Nat.eq_zero_or_pos k with q | q
          · exact Or.inr q
          · exact Or.inl ⟨k - 1, by omega⟩
        · obtain ⟨k', rfl⟩ | rfl : (∃ q, k' = q + 1) ∨ k' = 0 := by
            rcases Nat.eq_zero_or_pos k' with q | q
            · exact Or.inr q
            · exact Or.inl ⟨k' - 1, by omega⟩
          · rfl
          · rfl
        · obtain ⟨k', rfl⟩ | rfl : (∃ q, k' = q + 1) ∨ k' = 0 := by
            rcases Nat.eq_zero_or_pos k' with q | q
            · exact Or.inr q
            · exact Or.inl ⟨k' - 1, by omega⟩
          · rfl
          · rfl
      · rw [e]
        exact ih j hj k k' (by omega) (by omega) (by omega)
/-- the program's loop: it comes to a fact that is known, or to none -/
theorem z_lp_knownBy (c : PS h) (hn : 159 ≤ n) (u : JA h) (d : Int32) : ∀ (k : Nat) (s : Nat) (i : Int32), s + k ≤ 501 → 0 < k → (i = -1 ∨ ∃ a, a + s ≤ 499 ∧ i = ni a ∧ ∃ m, fI h 51 4 = ni m ∧ m ≤ 500 ∧ a < m) → (k = 501 - s) →
    (∃ a : Nat, a < 500 ∧ lp_X0_knownBy_31 K h n 51 d k i (ni s) = some (0, ni a) ∧ chase (iA h 52) (iA h 53) (iA h 54) d k i = iA h 52 a) ∨ (∃ z, lp_X0_knownBy_31 K h n 51 d k i (ni s) = some (1, z) ∧ chase (iA h 52) (iA h 53) (iA h 54) d k i = -1) := by
  intro k
  induction k with
  | zero => intro s i _ q; omega
  | succ k ih =>
    intro s i hs _ hi hk
    obtain ⟨-, -, -, -, -, m0, hm0, hm500, hB, -⟩ := u
    rcases hi with rfl | ⟨a, ha, rfl, m, hm, hm5, ham⟩
    · right
      refine ⟨-1, ?_, ?_⟩
      · unfold lp_X0_knownBy_31
        by_cases h1 : (500 : Int32) ≤ ni s
        · rw [if_pos h1]
        · rw [if_neg h1, if_pos (by decide)]
      · unfold chase
        rw [if_pos rfl]
    · have h1 : ¬ (500 : Int32) ≤ ni s := fun q => by have := (ni_le (a := 500) (by omega) (by omega)).mp q; omega
      have h2 : ¬ (500 : Int32) ≤ ni a := fun q => by have := (ni_le (a := 500) (by omega) (by omega)).mp q; omega
      have i2 : inb (ni a) 500 = true := ni_inb (by omega) (by omega)
      have ta : (ni a).toNatClampNeg = a := ni_tn (by omega)
      have hmm : m0 = m := (ni_inj (by omega) (by omega)).mp (hm0.symm.trans hm)
      unfold lp_X0_knownBy_31 chase
      rw [if_neg h1, if_neg (ni_pos (by omega)), if_neg h2, if_neg (ni_n1 (by omega))]
      simp (maxDischargeDepth := 40) only [gq_51, g_51_0, g_51_1, g_51_2, g_51_3, g_51_4, p_51_4, ps_51_4, fs_51_4, gl_53, ge_53, pe_53, ps_53, is_53, gl_54, ge_54, pe_54, ps_54, is_54, c, hn, Option.bind_some, i2, if_true, ta]
      by_cases ht : iA h 53 a ≤ d
      · left
        refine ⟨a, by omega, ?_, ?_⟩
        · rw [if_neg (Int32.not_lt.mpr ht)]
        · rw [if_pos ht]
      · rw [if_pos (Int32.not_le.mp ht), if_neg ht, ni_1]
        have hb := (hB a (by omega)).1
        by_cases hk0 : k = 0
        · omega
        · refine ih (s + 1) _ (by omega) (by omega) ?_ (by omega)
          rcases hb with e | ⟨b, hb1, e⟩
          · exact Or.inl e
          · exact Or.inr ⟨b, by omega, e, m, hm, by omega, by omega⟩
theorem z_X0_knownBy (hK : 3000 ≤ K) (c : PS h) (hn : 159 ≤ n) (u : JA h) {f y w : Nat} (hf : f ≤ 10) (hy : y ≤ 14) (hw : w ≤ 16) (d : Int32) : q_X0_knownBy K h n 51 (ni f) (ni y) (ni w) d = some (kn h f y w d) := by
  have hk := keyF_lt hf hy hw
  obtain ⟨-, -, -, -, -, m, hm, hm500, hB, hL⟩ := id u
  have e0 := z_lp_knownBy (K := K) (n := n) c hn u d 501 0 (iA h 55 (keyF f y w)) (by omega) (by omega) (by
    rcases hL _ hk with e | ⟨j, hj, e⟩
    · exact Or.inl e
    · exact Or.inr ⟨j, by omega, e, m, hm, hm500, hj⟩) rfl
  have lpK : ∀ (k : Nat) (k' s : Nat) (i : Int32) (r : Nat × Int32), lp_X0_knownBy_31 K h n 51 d k i (ni s) = some r → k ≤ k' → lp_X0_knownBy_31 K h n 51 d k' i (ni s) = some r := by
    intro k
    induction k with
    | zero => intro k' s i r q; cases q
    | succ k ih =>
      intro k' s i r q hk'
      obtain ⟨k', rfl⟩ : ∃ z, k' = z + 1 := ⟨k' - 1, by omega⟩
      unfold lp_X0_knownBy_31 at q ⊢
      by_cases h1 : (500 : Int32) ≤ ni s
      · rw [if_pos h1] at q ⊢; exact q
      · rw [if_neg h1] at q ⊢
        by_cases h2 : i < 0
        · rw [if_pos h2] at q ⊢; exact q
        · rw [if_neg h2] at q ⊢
          by_cases h3 : (500 : Int32) ≤ i
          · rw [if_pos h3] at q ⊢; exact q
          · rw [if_neg h3] at q ⊢
            simp (maxDischargeDepth := 40) only [gq_51, g_51_0, g_51_1, g_51_2, g_51_3, g_51_4, p_51_4, ps_51_4, fs_51_4, gl_53, ge_53, pe_53, ps_53, is_53, gl_54, ge_54, pe_54, ps_54, is_54, c, hn, Option.bind_some, ni_1] at q ⊢
            cases hb : inb i 500 with
            | false => simp only [hb] at q; cases q
            | true =>
              simp only [hb, if_true, Option.bind_some] at q ⊢
              by_cases h4 : d < iA h 53 i.toNatClampNeg
              · rw [if_pos h4] at q ⊢
                exact ih _ _ _ _ q (by omega)
              · rw [if_neg h4] at q ⊢; exact q
  have ik : inb (ni (keyF f y w)) 2805 = true := ni_inb (by omega) hk
  have tk : (ni (keyF f y w)).toNatClampNeg = keyF f y w := ni_tn (by omega)
  unfold q_X0_knownBy kn
  simp (maxDischargeDepth := 40) only [gq_51, g_51_0, g_51_1, g_51_2, g_51_3, g_51_4, p_51_4, ps_51_4, fs_51_4, gl_55, ge_55, pe_55, ps_55, is_55, c, hn, Option.bind_some, z_X0_placeOf hf hy hw, if_neg (ni_n1 (show keyF f y w < 2147483648 by omega)), ik, if_true, tk]
  rcases e0 with ⟨a, ha, e1, e2⟩ | ⟨z, e1, e2⟩
  · rw [show (0 : Int32) = ni 0 from rfl, lpK _ K _ _ _ e1 (by omega), Option.bind_some, e2]
    have ia : inb (ni a) 500 = true := ni_inb (by omega) ha
    have ta : (ni a).toNatClampNeg = a := ni_tn (by omega)
    simp (maxDischargeDepth := 40) only [gq_51, g_51_0, g_51_1, g_51_2, g_51_3, g_51_4, p_51_4, ps_51_4, fs_51_4, gl_52, ge_52, pe_52, ps_52, is_52, c, hn, Option.bind_some, ia, if_true, ta]
  · rw [show (0 : Int32) = ni 0 from rfl, lpK _ K _ _ _ e1 (by omega), Option.bind_some, e2]
    rfl
end CALLF

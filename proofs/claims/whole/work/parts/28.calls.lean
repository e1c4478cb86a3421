/-! ===== the calls that write the register: helpers, day, firm, fact ===== -/
section CALLA
variable {K n : Nat} {h : mm_H}
/-- the script's cell, and what a call reads of it -/
def SCR (e0 : mm_E) (n : Nat) (l3 : Int32) (x : Nat → Int32) : Prop := ∀ g : mm_H, g 0 = e0 → ldI g n 0 (l3 + 1) = some (x 1) ∧ ldI g n 0 (l3 + 2) = some (x 2) ∧ ldI g n 0 (l3 + 3) = some (x 3) ∧ ldI g n 0 (l3 + 4) = some (x 4) ∧ ldI g n 0 (l3 + 5) = some (x 5) ∧ ldI g n 0 (l3 + 6) = some (x 6)
theorem isF_eq {a F : Int32} (hF : cN F 11) : (if a < 0 then (0 : Int32) else if F ≤ a then 0 else 1) = mm_in a 0 (F - 1) := by
  obtain ⟨m, rfl, hm⟩ := hF
  unfold mm_in
  by_cases h1 : a < 0
  · rw [if_pos h1, if_pos h1]
  · rw [if_neg h1, if_neg h1]
    obtain ⟨k, hk, rfl⟩ := ni_of h1
    cases m with
    | zero =>
      rw [if_pos (show ni 0 ≤ ni k from (ni_le (by omega) hk).mpr (Nat.zero_le _)), if_pos]
      show (-1 : Int32) < ni k
      rw [Int32.lt_iff_toInt_lt, ni_int hk]
      show (-1 : Int) < k
      omega
    | succ m =>
      rw [ni_sub1]
      by_cases h2 : m + 1 ≤ k
      · rw [if_pos ((ni_le (by omega) hk).mpr h2), if_pos ((ni_lt (by omega) hk).mpr (by omega))]
      · rw [if_neg (fun q => h2 ((ni_le (by omega) hk).mp q)), if_neg (fun q => h2 ((ni_lt (by omega) hk).mp q))]
theorem y_X10_isFirm (c : PS h) (hn : 208 ≤ n) (j : JF h) (a : Int32) : q_X10_isFirm K h n 48 a = some (mm_in a 0 (fI h 49 5 - 1)) := by
  rw [z_X10_isFirm c hn, isF_eq j.1]
theorem y_X11_isFirm (c : PS h) (hn : 208 ≤ n) (j : JF h) (a : Int32) : q_X11_isFirm K h n 159 a = some (mm_in a 0 (fI h 49 5 - 1)) := by
  rw [z_X11_isFirm c hn, j.2.1]
theorem y_X10_isFirmsYear (c : PS h) (hn : 208 ≤ n) (j : JF h) (a b : Int32) : q_X10_isFirmsYear K h n 48 a b = some (if mm_in a 0 (fI h 49 5 - 1) = 0 then 0 else if mm_in b 0 14 = 0 then 0 else 1) := by
  unfold q_X10_isFirmsYear
  simp only [gq_48 c hn, y_X10_isFirm c hn j, z_X10_isWithin, Option.bind_some]
  split
  · rfl
  · split <;> rfl
theorem z_X10_isHead (a : Int32) : q_X10_isHead K h n a = some (mm_in a 0 3) := by
  unfold q_X10_isHead
  simp only [z_X10_isWithin, Option.bind_some, ckz_in]
theorem z_X10_isDriver (a : Int32) : q_X10_isDriver K h n a = some (mm_in a 0 2) := by
  unfold q_X10_isDriver
  simp only [z_X10_isWithin, Option.bind_some, ckz_in]
theorem z_X11_isHead (a : Int32) : q_X11_isHead K h n a = some (mm_in a 0 3) := by
  unfold q_X11_isHead
  simp only [z_X11_isIn, Option.bind_some, ckz_in]
theorem z_X11_isReview (a : Int32) : q_X11_isReview K h n a = some (mm_in a 0 2) := by
  unfold q_X11_isReview
  simp only [z_X11_isIn, Option.bind_some, ckz_in]
def mostF (w : Int32) : Int32 := if 3 ≤ w then if 11 ≤ w then 9999 else 99999 else 999
theorem z_X10_mostOfFact (a : Int32) : q_X10_mostOfFact K h n a = some (mostF a) := by
  unfold q_X10_mostOfFact mostF
  split
  · split <;> rfl
  · rfl
theorem z_X11_mostOf (a : Int32) : q_X11_mostOf K h n a = some (mostF a) := by
  unfold q_X11_mostOf mostF
  split
  · split <;> rfl
  · rfl
theorem mostF_le (w : Int32) : ∃ m : Nat, mostF w = ni m ∧ m ≤ 99999 := by
  unfold mostF
  split
  · split
    · exact ⟨9999, rfl, by omega⟩
    · exact ⟨99999, rfl, by omega⟩
  · exact ⟨999, rfl, by omega⟩
/-- a fact's place -/
def keyF (f y w : Nat) : Nat := (f * 15 + y) * 17 + w
theorem keyF_lt {f y w : Nat} (hf : f ≤ 10) (hy : y ≤ 14) (hw : w ≤ 16) : keyF f y w < 2805 := by unfold keyF; omega
theorem z_X0_placeOf {f y w a : Nat} (hf : f ≤ 10) (hy : y ≤ 14) (hw : w ≤ 16) : q_X0_placeOf K h n a (ni f) (ni y) (ni w) = some (ni (keyF f y w)) := by
  unfold q_X0_placeOf
  rw [if_neg (ni_pos (by omega)), if_neg (fun q => by have := (ni_le (a := 11) (b := f) (by omega) (by omega)).mp q; omega), if_neg (ni_pos (by omega)), if_neg (fun q => by have := (ni_le (a := 15) (b := y) (by omega) (by omega)).mp q; omega), if_neg (ni_pos (by omega)), if_pos (show ni w < 17 from (ni_lt (a := w) (b := 17) (by omega) (by omega)).mpr (by omega))]
  rw [show (15 : Int32) = ni 15 from rfl, show (17 : Int32) = ni 17 from rfl, ni_mul, ni_add, ni_mul, ni_add]
  rfl
theorem z_X11_keyOf {f y w : Nat} : q_X11_keyOf K h n (ni f) (ni y) (ni w) = some (ni (keyF f y w)) := by
  unfold q_X11_keyOf
  rw [show (15 : Int32) = ni 15 from rfl, show (17 : Int32) = ni 17 from rfl, ni_mul, ni_add, ni_mul, ni_add]
  congr 2
  unfold keyF
  omega
theorem day_1500 (d : Int32) : d < 1500 ↔ d ≤ 1499 := by
  rw [Int32.lt_iff_toInt_lt, Int32.le_iff_toInt_le]
  show d.toInt < 1500 ↔ d.toInt ≤ 1499
  omega
theorem S_0 {l3 : Int32} {kc ks : Nat} {x : Nat → Int32} (c : PS h) (hn : 208 ≤ n) (j : JR h) (sc : SCR (h 0) n l3 x) : ∃ g, st_law_0 K h n l3 kc ks = some (g, n, kc, ks) ∧ PS g ∧ JR g ∧ FB h g := by
  obtain ⟨s1, -⟩ := sc h rfl
  obtain ⟨uT, uF, uA, uW, uB, uL, uP⟩ := id j
  unfold st_law_0
  simp only [s1, gq_48 c hn, Option.bind_some, z_X10_day c hn]
  by_cases h1 : x 1 ≤ fI h 49 6
  · simp only [if_pos h1, s1, gq_159 c hn, Option.bind_some, z_X11_day c hn, uT.2.1, if_true]
    exact ⟨h, rfl, c, j, FB.id_⟩
  · by_cases h2 : x 1 ≤ 1499
    · have h3 := (day_1500 _).mpr h2
      have c1 : PS (mm_sf h 49 6 (.int (x 1))) := ps_49_6 c _
      obtain ⟨t1, -⟩ := sc (mm_sf h 49 6 (.int (x 1))) (mm_sf_n (by decide))
      simp only [if_neg h1, if_pos h3, t1, gq_159 c1 hn, Option.bind_some, z_X11_day c1 hn, fI_sf_n (show (159 : Nat) ≠ 49 by decide), uT.2.1, if_pos h2, if_true]
      refine ⟨_, rfl, ps_159_0 c1 _, ?_, ?_⟩
      · refine ⟨?_, ?_, ?_, ?_, ?_, ?_, ?_⟩
        · simp only [JT, fs_159_0 c1, fs_49_6 c, fI_sf_n, fJ_sf_n, fR_sf_n, fI_sf_o, fJ_sf_o, fR_sf_o, iA_sf, jA_sf, rA_sf, fI_si, fJ_si, fR_si, iA_si_n, jA_si, rA_si, fI_sj, fJ_sj, fR_sj, iA_sj, jA_sj_n, rA_sj, fI_sr, fJ_sr, fR_sr, iA_sr, jA_sr, rA_sr_n, ne_eq, not_false_eq_true, Nat.reduceEqDiff, Nat.zero_ne_one, Nat.one_ne_zero]
          refine ⟨?_, rfl, uT.2.2⟩
          obtain ⟨m, hm, hm2⟩ := uT.1
          rw [hm] at h1
          obtain ⟨k, hk, hk2⟩ := ni_of (x := x 1) (fun q => h1 (by
            rw [Int32.le_iff_toInt_le, ni_int (by omega)]
            have := Int32.lt_iff_toInt_lt.mp q
            have e : (0 : Int32).toInt = 0 := rfl
            omega))
          rw [hk2] at h2
          exact ⟨k, hk2, (ni_le (b := 1499) hk (by omega)).mp h2⟩
        · simpa only [JF, fI_sf_n, fJ_sf_n, fR_sf_n, fI_sf_o, fJ_sf_o, fR_sf_o, iA_sf, jA_sf, rA_sf, fI_si, fJ_si, fR_si, iA_si_n, jA_si, rA_si, fI_sj, fJ_sj, fR_sj, iA_sj, jA_sj_n, rA_sj, fI_sr, fJ_sr, fR_sr, iA_sr, jA_sr, rA_sr_n, ne_eq, not_false_eq_true, Nat.reduceEqDiff, Nat.zero_ne_one, Nat.one_ne_zero] using uF
        · simpa only [JA, fI_sf_n, fJ_sf_n, fR_sf_n, fI_sf_o, fJ_sf_o, fR_sf_o, iA_sf, jA_sf, rA_sf, fI_si, fJ_si, fR_si, iA_si_n, jA_si, rA_si, fI_sj, fJ_sj, fR_sj, iA_sj, jA_sj_n, rA_sj, fI_sr, fJ_sr, fR_sr, iA_sr, jA_sr, rA_sr_n, ne_eq, not_false_eq_true, Nat.reduceEqDiff, Nat.zero_ne_one, Nat.one_ne_zero] using uA
        · simpa only [JW, fI_sf_n, fJ_sf_n, fR_sf_n, fI_sf_o, fJ_sf_o, fR_sf_o, iA_sf, jA_sf, rA_sf, fI_si, fJ_si, fR_si, iA_si_n, jA_si, rA_si, fI_sj, fJ_sj, fR_sj, iA_sj, jA_sj_n, rA_sj, fI_sr, fJ_sr, fR_sr, iA_sr, jA_sr, rA_sr_n, ne_eq, not_false_eq_true, Nat.reduceEqDiff, Nat.zero_ne_one, Nat.one_ne_zero] using uW
        · simpa only [JB, fI_sf_n, fJ_sf_n, fR_sf_n, fI_sf_o, fJ_sf_o, fR_sf_o, iA_sf, jA_sf, rA_sf, fI_si, fJ_si, fR_si, iA_si_n, jA_si, rA_si, fI_sj, fJ_sj, fR_sj, iA_sj, jA_sj_n, rA_sj, fI_sr, fJ_sr, fR_sr, iA_sr, jA_sr, rA_sr_n, ne_eq, not_false_eq_true, Nat.reduceEqDiff, Nat.zero_ne_one, Nat.one_ne_zero] using uB
        · simpa only [JL, fI_sf_n, fJ_sf_n, fR_sf_n, fI_sf_o, fJ_sf_o, fR_sf_o, iA_sf, jA_sf, rA_sf, fI_si, fJ_si, fR_si, iA_si_n, jA_si, rA_si, fI_sj, fJ_sj, fR_sj, iA_sj, jA_sj_n, rA_sj, fI_sr, fJ_sr, fR_sr, iA_sr, jA_sr, rA_sr_n, ne_eq, not_false_eq_true, Nat.reduceEqDiff, Nat.zero_ne_one, Nat.one_ne_zero] using uL
        · simpa only [JP, fI_sf_n, fJ_sf_n, fR_sf_n, fI_sf_o, fJ_sf_o, fR_sf_o, iA_sf, jA_sf, rA_sf, fI_si, fJ_si, fR_si, iA_si_n, jA_si, rA_si, fI_sj, fJ_sj, fR_sj, iA_sj, jA_sj_n, rA_sj, fI_sr, fJ_sr, fR_sr, iA_sr, jA_sr, rA_sr_n, ne_eq, not_false_eq_true, Nat.reduceEqDiff, Nat.zero_ne_one, Nat.one_ne_zero] using uP
      · refine ⟨fun a ha => ?_, ?_⟩
        · rw [mm_sf_n (by omega), mm_sf_n (by omega)]
        · simp only [fI_sf_n, fJ_sf_n, fR_sf_n, fI_sf_o, fJ_sf_o, fR_sf_o, iA_sf, jA_sf, rA_sf, fI_si, fJ_si, fR_si, iA_si_n, jA_si, rA_si, fI_sj, fJ_sj, fR_sj, iA_sj, jA_sj_n, rA_sj, fI_sr, fJ_sr, fR_sr, iA_sr, jA_sr, rA_sr_n, ne_eq, not_false_eq_true, Nat.reduceEqDiff, Nat.zero_ne_one, Nat.one_ne_zero, and_self]
    · have h3 : ¬ x 1 < 1500 := fun q => h2 ((day_1500 _).mp q)
      simp only [if_neg h1, if_neg h3, s1, gq_159 c hn, Option.bind_some, z_X11_day c hn, uT.2.1, if_neg h2, if_true]
      exact ⟨h, rfl, c, j, FB.id_⟩
end CALLA

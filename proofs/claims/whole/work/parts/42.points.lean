/-! ===== the calls points, moves ===== -/
section CALLP
variable {K n : Nat} {h : mm_H}
theorem SE_FB {g : mm_H} (s : SE h g) : FB h g :=
  ⟨fun a ha => s.1 a (by omega), fI_c (s.1 48 (by omega)) 7, fR_c (s.1 48 (by omega)) 8, fI_c (s.1 48 (by omega)) 10, s.2.1 24 (by decide) (by decide) (by decide) (by decide), s.2.1 25 (by decide) (by decide) (by decide) (by decide), s.2.1 31 (by decide) (by decide) (by decide) (by decide), s.2.1 56 (by decide) (by decide) (by decide) (by decide), fI_c (s.1 151 (by omega)) 5, s.2.1 30 (by decide) (by decide) (by decide) (by decide), fI_c (s.1 48 (by omega)) 5⟩
theorem SE_JF {g : mm_H} (s : SE h g) (j : JF h) : JF g := by
  unfold JF at j ⊢
  rw [s.2.1 1 (by decide) (by decide) (by decide) (by decide), fI_c (s.1 49 (by omega)), iA_c (s.1 50 (by omega)), jA_c (s.1 162 (by omega))]
  exact j
theorem PtL_flt {g : mm_H} (u : JA g) {F fm hd r dr : Nat} (hF : F ≤ 11) (hhd : hd ≤ 3) (hdr : dr ≤ 2) (hr : r ≤ 2) {bt : Int32} : flt (-1) (PtL g F fm bt hd r dr) = PtL g F fm bt hd r dr := flt_none fun p hp => by
  have := (PtL_ok u hF hhd hdr hr p hp).1
  omega
theorem S_15 (hK : 3000 ≤ K) {l3 : Int32} {kc ks : Nat} {x : Nat → Int32} (c : PS h) (hn : 208 ≤ n) (j : JR h) (sc : SCR (h 0) n l3 x) : ∃ g, st_law_15 K h n l3 kc ks = some (g, n, kc, ks) ∧ PS g ∧ JR g ∧ FB h g := by
  obtain ⟨s1, s2, s3, s4, s5, -⟩ := sc h rfl
  obtain ⟨uT, uF, uA, uW, uB, uL, uP⟩ := id j
  have n10 : ¬ (1 : Int32) = 0 := by decide
  have fin : ∀ (v : Int32) (f w : mm_H), q_X10_points K h n 48 (x 1) (x 2) (x 3) (x 4) (x 5) = some (v, f) → PS f → SE h f → q_X11_points K f n 159 (x 1) (x 2) (x 3) (x 4) (x 5) = some (v, w) → PS w → SE h w → ∃ g, st_law_15 K h n l3 kc ks = some (g, n, kc, ks) ∧ PS g ∧ JR g ∧ FB h g := by
    intro v f w k1 p1 e1 k2 p2 e2
    obtain ⟨t1, t2, t3, t4, t5, -⟩ := sc f (e1.1 0 (by omega))
    refine ⟨w, ?_, p2, SE_JR e2 j, SE_FB e2⟩
    unfold st_law_15
    simp only [s1, s2, s3, s4, s5, gq_48 c hn, Option.bind_some, k1, t1, t2, t3, t4, t5, gq_159 p1 hn, k2, if_true]
  have noM : ∀ f, PS f → SE h f → (mm_in (x 1) 0 (fI h 49 5 - 1) = 0 ∨ mm_in (x 2) 0 3 = 0 ∨ mm_in (x 3) 0 2 = 0 ∨ mm_in (x 4) 0 2 = 0 ∨ mm_in (x 5) 0 2 = 0) → q_X11_points K f n 159 (x 1) (x 2) (x 3) (x 4) (x 5) = some (-1, f) := by
    intro f p e hh
    have ef : fI f 49 5 = fI h 49 5 := fI_c (e.1 49 (by omega)) 5
    unfold q_X11_points
    simp only [gq_159 p hn, y_X11_isFirm p hn (SE_JF e uF), z_X11_isHead, z_X11_isReview, z_X11_isIn, Option.bind_some, ef]
    by_cases b1 : mm_in (x 1) 0 (fI h 49 5 - 1) = 0
    · simp only [b1, if_true]
    by_cases b2 : mm_in (x 2) 0 3 = 0
    · simp only [b1, b2, if_true, if_false]
    by_cases b3 : mm_in (x 3) 0 2 = 0
    · simp only [b1, b2, b3, if_true, if_false]
    by_cases b4 : mm_in (x 4) 0 2 = 0
    · simp only [b1, b2, b3, b4, if_true, if_false]
    by_cases b5 : mm_in (x 5) 0 2 = 0
    · simp only [b1, b2, b3, b4, b5, if_true, if_false]
    · exact absurd hh (by simp only [b1, b2, b3, b4, b5, or_self, not_false_eq_true])
  have noC : (mm_in (x 1) 0 (fI h 49 5 - 1) = 0 ∨ mm_in (x 2) 0 3 = 0 ∨ mm_in (x 3) 0 2 = 0 ∨ mm_in (x 4) 0 2 = 0) → q_X10_points K h n 48 (x 1) (x 2) (x 3) (x 4) (x 5) = some (-1, h) := by
    intro hh
    unfold q_X10_points
    simp only [gq_48 c hn, y_X10_isFirm c hn uF, z_X10_isHead, z_X10_isReview, z_X10_isDriver, Option.bind_some]
    by_cases b1 : mm_in (x 1) 0 (fI h 49 5 - 1) = 0
    · simp only [b1, if_true]
    by_cases b2 : mm_in (x 2) 0 3 = 0
    · simp only [b1, b2, if_true, if_false]
    by_cases b3 : mm_in (x 3) 0 2 = 0
    · simp only [b1, b2, b3, if_true, if_false]
    by_cases b4 : mm_in (x 4) 0 2 = 0
    · simp only [b1, b2, b3, b4, if_true, if_false]
    · exact absurd hh (by simp only [b1, b2, b3, b4, or_self, not_false_eq_true])
  by_cases a1 : mm_in (x 1) 0 (fI h 49 5 - 1) = 0
  · exact fin (-1) h h (noC (Or.inl a1)) c SE.id_ (noM h c SE.id_ (Or.inl a1)) c SE.id_
  by_cases a2 : mm_in (x 2) 0 3 = 0
  · exact fin (-1) h h (noC (Or.inr (Or.inl a2))) c SE.id_ (noM h c SE.id_ (Or.inr (Or.inl a2))) c SE.id_
  by_cases a3 : mm_in (x 3) 0 2 = 0
  · exact fin (-1) h h (noC (Or.inr (Or.inr (Or.inl a3)))) c SE.id_ (noM h c SE.id_ (Or.inr (Or.inr (Or.inl a3)))) c SE.id_
  by_cases a4 : mm_in (x 4) 0 2 = 0
  · exact fin (-1) h h (noC (Or.inr (Or.inr (Or.inr a4)))) c SE.id_ (noM h c SE.id_ (Or.inr (Or.inr (Or.inr (Or.inl a4))))) c SE.id_
  obtain ⟨fm, hfm, hfm10, hF1, hF2⟩ := in_firm uF a1
  obtain ⟨hd, hhd, hhd2⟩ := mm_in_nat (N := 3) (by omega) a2
  obtain ⟨r, hr, hr2⟩ := mm_in_nat (N := 2) (by omega) a3
  obtain ⟨dr, hdr, hdr2⟩ := mm_in_nat (N := 2) (by omega) a4
  have hF11 : (fI h 49 5).toNatClampNeg ≤ 11 := by
    obtain ⟨⟨m, hm, hm11⟩, -⟩ := uF
    rw [hm, ni_tn (by omega)]; exact hm11
  obtain ⟨f, k1, k2, k3, k4, k5⟩ := z_gather147 hK hn hF1 hF11 hhd hdr hF2 hr uA c SE.id_
  obtain ⟨w, l1, l2, l3', l4⟩ := z_X11_gathers (bt := -1) hK hn uF hF1 hF11 hhd hdr hF2 hr uA k2 k3
  rw [PtL_flt uA hF11 hhd hdr hr] at k5
  have ef : fI f 49 5 = fI h 49 5 := fI_c (k3.1 49 (by omega)) 5
  rw [← hfm, ← hhd2, ← hr2, ← hdr2] at k1 l1
  have C0 : ∀ v, (if x 5 = 0 then some (fI f 147 4, f) else if x 5 = 1 then some (Int64.toInt32 (fJ f 147 6), f) else if x 5 = 2 then some (Int64.toInt32 (fJ f 147 7), f) else some (-1, f)) = some (v, f) → q_X10_points K h n 48 (x 1) (x 2) (x 3) (x 4) (x 5) = some (v, f) := by
    intro v hv
    unfold q_X10_points
    simp only [gq_48 c hn, y_X10_isFirm c hn uF, z_X10_isHead, z_X10_isReview, z_X10_isDriver, Option.bind_some, a1, a2, a3, a4, if_false, g_48_2 c hn, gq_147 c hn, k1, g_48_2 k2 hn, g_147_4 k2 hn, g_147_6 k2 hn, g_147_7 k2 hn]
    exact hv
  have M0 : ∀ v, ¬ mm_in (x 5) 0 2 = 0 → (if x 5 = 0 then some (fI w 159 65, w) else if x 5 = 1 then some (Int64.toInt32 (sm fX (PtL h (fI h 49 5).toNatClampNeg fm (-1) hd r dr) 0), w) else some (Int64.toInt32 (sm fY (PtL h (fI h 49 5).toNatClampNeg fm (-1) hd r dr) 0), w)) = some (v, w) → q_X11_points K f n 159 (x 1) (x 2) (x 3) (x 4) (x 5) = some (v, w) := by
    intro v a5 hv
    unfold q_X11_points
    simp only [gq_159 k2 hn, y_X11_isFirm k2 hn (SE_JF k3 uF), z_X11_isHead, z_X11_isReview, z_X11_isIn, Option.bind_some, ef, a1, a2, a3, a4, a5, if_false, l1, g_159_65 l2 hn, g_159_62 l2 hn, g_159_63 l2 hn, gq_159 l2 hn, z_allX hK l2 hn l4, z_allY hK l2 hn l4]
    exact hv
  by_cases a5 : mm_in (x 5) 0 2 = 0
  · have q0 : ¬ x 5 = 0 := fun q => by rw [q] at a5; exact absurd a5 (by decide)
    have q1 : ¬ x 5 = 1 := fun q => by rw [q] at a5; exact absurd a5 (by decide)
    have q2 : ¬ x 5 = 2 := fun q => by rw [q] at a5; exact absurd a5 (by decide)
    exact fin (-1) f f (C0 _ (by rw [if_neg q0, if_neg q1, if_neg q2])) k2 k3 (noM f k2 k3 (Or.inr (Or.inr (Or.inr (Or.inr a5))))) k2 k3
  · obtain ⟨z, hz, hz2⟩ := mm_in_nat (N := 2) (by omega) a5
    by_cases b0 : x 5 = 0
    · exact fin _ f w (C0 _ (if_pos b0)) k2 k3 (M0 _ a5 (by rw [if_pos b0, l4.1, ← k4.1])) l2 l3'
    by_cases b1 : x 5 = 1
    · exact fin _ f w (C0 _ ((if_neg b0).trans (if_pos b1))) k2 k3 (M0 _ a5 (by rw [if_neg b0, if_pos b1, k5.2.1]; rfl)) l2 l3'
    · have b2 : x 5 = 2 := by
        rw [hz2] at b0 b1 ⊢
        have : z = 0 ∨ z = 1 ∨ z = 2 := by omega
        rcases this with rfl | rfl | rfl
        · exact absurd rfl b0
        · exact absurd rfl b1
        · rfl
      exact fin _ f w (C0 _ ((if_neg b0).trans ((if_neg b1).trans (if_pos b2)))) k2 k3 (M0 _ a5 (by rw [if_neg b0, if_neg b1, k5.2.2.1]; rfl)) l2 l3'
end CALLP

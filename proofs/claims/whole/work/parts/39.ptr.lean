/-! ===== the model's points: gathered ===== -/
section PTR
variable {K n : Nat} {h : mm_H}
def PtR (h : mm_H) (L : List Pt) : Prop := fI h 159 65 = ni L.length ∧ L.length ≤ 50 ∧ ∀ (i : Nat) (p : Pt), L[i]? = some p → iA h 206 i = ni p.1 ∧ iA h 204 i = p.2.1 ∧ iA h 205 i = p.2.2
theorem SE_JA {g : mm_H} (f3 : SE h g) (j : JA h) : JA g := by
  unfold JA at j ⊢
  have e : ∀ x, x < 73 ∨ (151 ≤ x ∧ x ≤ 158) ∨ (160 ≤ x ∧ x ≤ 199) ∨ x = 207 → (∀ k, fI g x k = fI h x k) ∧ iA g x = iA h x := fun x q => ⟨fun k => fI_c (f3.1 x (by omega)) k, iA_c (f3.1 x (by omega))⟩
  rw [f3.2.1 2 (by decide) (by decide) (by decide) (by decide), (e 51 (by omega)).1, (e 52 (by omega)).2, (e 53 (by omega)).2, (e 54 (by omega)).2, (e 55 (by omega)).2, (e 160 (by omega)).2, (e 161 (by omega)).2, (e 163 (by omega)).2, (e 164 (by omega)).2]
  exact j
theorem addR (c : PS h) {L : List Pt} (q : PtR h L) (hl : L.length < 50) (o : Nat) (x y : Int32) : PS (mm_sf (mm_si (mm_si (mm_si h 204 L.length x) 205 L.length y) 206 L.length (ni o)) 159 65 (.int (ni L.length + 1))) ∧ SE h (mm_sf (mm_si (mm_si (mm_si h 204 L.length x) 205 L.length y) 206 L.length (ni o)) 159 65 (.int (ni L.length + 1))) ∧ PtR (mm_sf (mm_si (mm_si (mm_si h 204 L.length x) 205 L.length y) 206 L.length (ni o)) 159 65 (.int (ni L.length + 1))) (L ++ [(o, x, y)]) := by
  obtain ⟨q1, q2, q3⟩ := q
  have b1 : PS (mm_si h 204 L.length x) := ps_204 c _ _
  have b2 : PS (mm_si (mm_si h 204 L.length x) 205 L.length y) := ps_205 b1 _ _
  have b3 : PS (mm_si (mm_si (mm_si h 204 L.length x) 205 L.length y) 206 L.length (ni o)) := ps_206 b2 _ _
  refine ⟨ps_159_65 b3 _, ⟨fun z hz => ?_, fun k _ _ h65 _ => ?_, ?_⟩, ?_, ?_, fun i p hp => ?_⟩
  · rw [mm_sf_n (by omega), mm_si_n (by omega), mm_si_n (by omega), mm_si_n (by omega)]
  · rw [fI_sf_o h65]
    simp only [fI_sf_n, fJ_sf_n, fR_sf_n, fI_sf_o, fJ_sf_o, fR_sf_o, iA_sf, jA_sf, rA_sf, fI_si, fJ_si, fR_si, iA_si_n, jA_si, rA_si, fI_sj, fJ_sj, fR_sj, iA_sj, jA_sj_n, rA_sj, fI_sr, fJ_sr, fR_sr, iA_sr, jA_sr, rA_sr_n, ne_eq, not_false_eq_true, Nat.reduceEqDiff, Nat.zero_ne_one, Nat.one_ne_zero]
  · simp only [fI_sf_n, fJ_sf_n, fR_sf_n, fI_sf_o, fJ_sf_o, fR_sf_o, iA_sf, jA_sf, rA_sf, fI_si, fJ_si, fR_si, iA_si_n, jA_si, rA_si, fI_sj, fJ_sj, fR_sj, iA_sj, jA_sj_n, rA_sj, fI_sr, fJ_sr, fR_sr, iA_sr, jA_sr, rA_sr_n, ne_eq, not_false_eq_true, Nat.reduceEqDiff, Nat.zero_ne_one, Nat.one_ne_zero]
  · rw [fs_159_65 b3, List.length_append, ni_1]
    rfl
  · rw [List.length_append]
    exact hl
  · simp only [is_206 b2, is_205 b1, is_204 c, fI_sf_n, fJ_sf_n, fR_sf_n, fI_sf_o, fJ_sf_o, fR_sf_o, iA_sf, jA_sf, rA_sf, fI_si, fJ_si, fR_si, iA_si_n, jA_si, rA_si, fI_sj, fJ_sj, fR_sj, iA_sj, jA_sj_n, rA_sj, fI_sr, fJ_sr, fR_sr, iA_sr, jA_sr, rA_sr_n, ne_eq, not_false_eq_true, Nat.reduceEqDiff, Nat.zero_ne_one, Nat.one_ne_zero]
    by_cases hi : i < L.length
    · rw [List.getElem?_append_left hi] at hp
      rw [upd_n (by omega), upd_n (by omega), upd_n (by omega)]
      exact q3 i p hp
    · rw [List.getElem?_append_right (by omega)] at hp
      have h2 := (List.getElem?_eq_some_iff.mp hp).1
      rw [List.length_singleton] at h2
      have h3 : i = L.length := by omega
      subst h3
      rw [Nat.sub_self] at hp
      cases hp
      rw [upd_s, upd_s, upd_s]
      exact ⟨rfl, rfl, rfl⟩
theorem gmY (hK : 3000 ≤ K) (hn : 208 ≤ n) {g : mm_H} (u : JA g) {fm hd dr o r : Nat} {bt : Int32} (hhd : hd ≤ 3) (hdr : dr ≤ 2) (ho : o ≤ 10) (hfm : fm ≤ 10) (hr : r ≤ 2) (d : Int32) : ∀ (c : Nat) (y k : Nat) (h : mm_H) (L : List Pt), y + c = 5 * r → c < k → PS h → SE g h → PtR h L → (o = fm ∨ L.length + c ≤ 50) → ∃ f, lp_X11_gathers_35 K n 159 (ni fm) (ni hd) (ni r) (ni dr) bt d (ni o) k (ni y) h = some f ∧ PS f ∧ SE g f ∧ PtR f (L ++ if o = fm ∨ ni o = bt then [] else ptYs g o hd dr d y c) := by
  intro c
  induction c with
  | zero =>
    intro y k h L hy hk p s q hl
    obtain ⟨k, rfl⟩ : ∃ z, k = z + 1 := ⟨k - 1, by omega⟩
    refine ⟨h, ?_, p, s, ?_⟩
    · unfold lp_X11_gathers_35
      rw [show (5 : Int32) * ni r = ni (5 * r) from ni_mul 5 r, if_pos ((ni_le (by omega) (by omega)).mpr (by omega))]
    · unfold ptYs
      rw [ite_self, List.append_nil]
      exact q
  | succ c ih =>
    intro y k h L hy hk p s q hl
    obtain ⟨k, rfl⟩ : ∃ z, k = z + 1 := ⟨k - 1, by omega⟩
    have n1 : ¬ ni (5 * r) ≤ ni y := fun z => by have := (ni_le (by omega) (by omega)).mp z; omega
    have e5 : (5 : Int32) * ni r = ni (5 * r) := ni_mul 5 r
    unfold lp_X11_gathers_35
    by_cases hof : o = fm
    · have e6 : ni o = ni fm := by rw [hof]
      simp only [e5, n1, if_false, e6, if_true, ni_1]
      obtain ⟨w, w1, w2, w3, w4⟩ := ih (y + 1) k h L (by omega) (by omega) p s q (Or.inl hof)
      rw [e6] at w1
      refine ⟨w, w1, w2, w3, ?_⟩
      rw [if_pos (Or.inl hof)] at w4 ⊢
      exact w4
    · have n2 : ¬ ni o = ni fm := fun z => hof ((ni_inj (by omega) (by omega)).mp z)
      by_cases hob : ni o = bt
      · subst hob
        simp only [e5, n1, n2, if_false, if_true, ni_1]
        obtain ⟨w, w1, w2, w3, w4⟩ := ih (y + 1) k h L (by omega) (by omega) p s q (hl.imp id (fun z => by omega))
        refine ⟨w, w1, w2, w3, ?_⟩
        rw [if_pos (Or.inr rfl)] at w4
        rw [if_pos (Or.inr trivial)]
        exact w4
      · have j := SE_JA s u
        have hl2 := hl.resolve_left hof
        have e1 := z_X11_factBy hK p hn j (f := o) (y := y) (w := dr) ho (by omega) (by omega) d
        have e2 := z_X11_factBy hK p hn j (f := o) (y := y) (w := 3 + hd) ho (by omega) (by omega) d
        rw [SE_kn s] at e1 e2
        have e3 : (3 : Int32) + ni hd = ni (3 + hd) := ni_add 3 hd
        have hno : ¬ (o = fm ∨ ni o = bt) := fun z => z.elim hof hob
        rw [if_neg hno]
        simp only [e5, n1, n2, hob, if_false, gq_159 p hn, Option.bind_some, e1, e2, e3, ni_1]
        unfold ptYs ptY
        by_cases a1 : kn g o y dr d = -1
        · simp only [a1, if_true, List.nil_append]
          obtain ⟨w, w1, w2, w3, w4⟩ := ih (y + 1) k h L (by omega) (by omega) p s q (Or.inr (by omega))
          rw [if_neg hno] at w4
          exact ⟨w, w1, w2, w3, w4⟩
        · by_cases a2 : kn g o y (3 + hd) d = -1
          · simp only [a1, a2, if_true, if_false, List.nil_append]
            obtain ⟨w, w1, w2, w3, w4⟩ := ih (y + 1) k h L (by omega) (by omega) p s q (Or.inr (by omega))
            rw [if_neg hno] at w4
            exact ⟨w, w1, w2, w3, w4⟩
          · obtain ⟨f2, f3, f4⟩ := addR p q (by omega) o (kn g o y dr d) (kn g o y (3 + hd) d)
            have i9 : inb (ni L.length) 50 = true := ni_inb (by omega) (by omega)
            have t9 : (ni L.length).toNatClampNeg = L.length := ni_tn (by omega)
            obtain ⟨w, w1, w2, w3, w4⟩ := ih (y + 1) k _ _ (by omega) (by omega) f2 (s.trans f3) f4 (Or.inr (by rw [List.length_append, List.length_singleton]; omega))
            refine ⟨w, ?_, w2, w3, ?_⟩
            · simp (maxDischargeDepth := 40) only [a1, a2, if_false, gq_159, g_159_0, p_159_0, ps_159_0, fs_159_0, g_159_1, p_159_1, ps_159_1, fs_159_1, g_159_2, p_159_2, ps_159_2, fs_159_2, g_159_3, g_159_4, g_159_5, g_159_6, g_159_7, g_159_8, p_159_8, ps_159_8, fs_159_8, g_159_9, p_159_9, ps_159_9, fs_159_9, g_159_10, p_159_10, ps_159_10, fs_159_10, g_159_11, g_159_12, g_159_13, g_159_14, g_159_15, g_159_16, g_159_17, g_159_18, g_159_19, g_159_20, g_159_21, g_159_22, g_159_23, g_159_24, p_159_24, ps_159_24, fs_159_24, g_159_25, p_159_25, ps_159_25, fs_159_25, g_159_26, p_159_26, ps_159_26, fs_159_26, g_159_27, p_159_27, ps_159_27, fs_159_27, g_159_28, p_159_28, ps_159_28, fs_159_28, g_159_29, p_159_29, ps_159_29, fs_159_29, g_159_30, p_159_30, ps_159_30, fs_159_30, g_159_31, p_159_31, ps_159_31, fs_159_31, g_159_32, g_159_33, g_159_34, g_159_35, g_159_36, g_159_37, g_159_38, g_159_39, g_159_40, g_159_41, g_159_42, g_159_43, g_159_44, g_159_45, g_159_46, g_159_47, g_159_48, g_159_49, g_159_50, g_159_51, g_159_52, g_159_53, g_159_54, p_159_54, ps_159_54, fs_159_54, g_159_55, p_159_55, ps_159_55, fs_159_55, g_159_56, p_159_56, ps_159_56, fs_159_56, g_159_57, p_159_57, ps_159_57, fs_159_57, g_159_58, g_159_59, g_159_60, g_159_61, g_159_62, g_159_63, g_159_64, g_159_65, p_159_65, ps_159_65, fs_159_65, g_159_66, p_159_66, ps_159_66, fs_159_66, g_159_67, gl_204, ge_204, pe_204, ps_204, is_204, gl_205, ge_205, pe_205, ps_205, is_205, gl_206, ge_206, pe_206, ps_206, is_206, p, hn, Option.bind_some, q.1, i9, t9, if_true, fI_sf_n, fJ_sf_n, fR_sf_n, fI_sf_o, fJ_sf_o, fR_sf_o, iA_sf, jA_sf, rA_sf, fI_si, fJ_si, fR_si, iA_si_n, jA_si, rA_si, fI_sj, fJ_sj, fR_sj, iA_sj, jA_sj_n, rA_sj, fI_sr, fJ_sr, fR_sr, iA_sr, jA_sr, rA_sr_n, ne_eq, not_false_eq_true, Nat.reduceEqDiff, Nat.zero_ne_one, Nat.one_ne_zero]
              exact w1
            · rw [if_neg hno, List.append_assoc] at w4
              simp only [a1, a2, if_false]
              exact w4
theorem gmO (hK : 3000 ≤ K) (hn : 208 ≤ n) {g : mm_H} {F fm hd dr r : Nat} {bt : Int32} (jF : JF g) (uF : fI g 49 5 = ni F) (hF : F ≤ 11) (hhd : hd ≤ 3) (hdr : dr ≤ 2) (hfm : fm < F) (hr : r ≤ 2) (d : Int32) (jg : JA g) : ∀ (c : Nat) (o k : Nat) (h : mm_H) (L : List Pt), o + c = F → c < k → PS h → SE g h → PtR h L → L.length ≤ 5 * (if o ≤ fm then o else o - 1) → ∃ f, lp_X11_gathers_15 K n 159 (ni fm) (ni hd) (ni r) (ni dr) bt d k (ni o) h = some f ∧ PS f ∧ SE g f ∧ PtR f (L ++ ptOs g fm bt hd dr d (5 * r - 5) (5 * r - (5 * r - 5)) o c) := by
  have e0 : ∀ h, SE g h → fI h 159 1 = ni F := fun h s => by
    rw [s.2.1 1 (by decide) (by decide) (by decide) (by decide), jF.2.1]; exact uF
  have e5 : i_max 0 (5 * ni r - 5) = ni (5 * r - 5) := by
    rw [show (5 : Int32) * ni r = ni (5 * r) from ni_mul 5 r]
    have : r = 0 ∨ r = 1 ∨ r = 2 := by omega
    rcases this with rfl | rfl | rfl <;> decide
  intro c
  induction c with
  | zero =>
    intro o k h L ho hk p s q hl
    obtain ⟨k, rfl⟩ : ∃ z, k = z + 1 := ⟨k - 1, by omega⟩
    refine ⟨h, ?_, p, s, ?_⟩
    · unfold lp_X11_gathers_15
      simp only [g_159_1 p hn, Option.bind_some]
      rw [e0 h s, if_pos ((ni_le (by omega) (by omega)).mpr (by omega))]
    · unfold ptOs
      rw [List.append_nil]
      exact q
  | succ c ih =>
    intro o k h L ho hk p s q hl
    obtain ⟨k, rfl⟩ : ∃ z, k = z + 1 := ⟨k - 1, by omega⟩
    have n1 : ¬ ni F ≤ ni o := fun z => by have := (ni_le (by omega) (by omega)).mp z; omega
    have hl2 : (o = fm ∨ L.length + (5 * r - (5 * r - 5)) ≤ 50) ∧ (o = fm → L.length ≤ 5 * (if o + 1 ≤ fm then o + 1 else o + 1 - 1)) ∧ (o ≠ fm → L.length + 5 ≤ 5 * (if o + 1 ≤ fm then o + 1 else o + 1 - 1)) := by
      by_cases z : o ≤ fm
      · rw [if_pos z] at hl
        by_cases z2 : o = fm
        · exact ⟨Or.inl z2, fun _ => by rw [if_neg (by omega)]; omega, fun q => absurd z2 q⟩
        · exact ⟨Or.inr (by omega), fun q => absurd q z2, fun _ => by rw [if_pos (by omega)]; omega⟩
      · rw [if_neg z] at hl
        exact ⟨Or.inr (by omega), fun q => by omega, fun _ => by rw [if_neg (by omega)]; omega⟩
    obtain ⟨f, f1, f2, f3, f4⟩ := gmY (bt := bt) hK hn jg hhd hdr (show o ≤ 10 by omega) (show fm ≤ 10 by omega) hr d (5 * r - (5 * r - 5)) (5 * r - 5) K h L (by omega) (by omega) p s q hl2.1
    have hlen := ptYs_len g o hd dr d (5 * r - (5 * r - 5)) (5 * r - 5)
    obtain ⟨w, w1, w2, w3, w4⟩ := ih (o + 1) k f _ (by omega) (by omega) f2 f3 f4 (by
      rw [List.length_append]
      by_cases z : o = fm
      · rw [if_pos (Or.inl z)]
        exact hl2.2.1 z
      · have := hl2.2.2 z
        by_cases z3 : o = fm ∨ ni o = bt
        · rw [if_pos z3, List.length_nil]; omega
        · rw [if_neg z3]; omega)
    refine ⟨w, ?_, w2, w3, ?_⟩
    · unfold lp_X11_gathers_15
      simp only [g_159_1 p hn, Option.bind_some, e0 h s, n1, if_false, e5]
      rw [f1, Option.bind_some, ni_1]
      exact w1
    · unfold ptOs
      rw [← List.append_assoc]
      exact w4
/-- the points of a question: a firm, without another one, a head, a review, a driver -/
def PtL (g : mm_H) (F fm : Nat) (bt : Int32) (hd r dr : Nat) : List Pt := ptOs g fm bt hd dr (ni (500 * r)) (5 * r - 5) (5 * r - (5 * r - 5)) 0 F
theorem z_X11_gathers (hK : 3000 ≤ K) (hn : 208 ≤ n) {g : mm_H} {F fm hd dr r : Nat} {bt : Int32} (jF : JF g) (uF : fI g 49 5 = ni F) (hF : F ≤ 11) (hhd : hd ≤ 3) (hdr : dr ≤ 2) (hfm : fm < F) (hr : r ≤ 2) (jg : JA g) (p : PS h) (s : SE g h) : ∃ f, q_X11_gathers K h n 159 (ni fm) (ni hd) (ni r) (ni dr) bt = some f ∧ PS f ∧ SE g f ∧ PtR f (PtL g F fm bt hd r dr) := by
  have b1 : PS (mm_sf h 159 65 (.int 0)) := ps_159_65 p _
  have s1 : SE g (mm_sf h 159 65 (.int 0)) := s.trans ⟨fun z hz => mm_sf_n (by omega), fun k _ _ h65 _ => fI_sf_o h65 _, fJ_sf_o (by decide) _⟩
  obtain ⟨f, f1, f2, f3, f4⟩ := gmO (bt := bt) hK hn jF uF hF hhd hdr hfm hr (ni (500 * r)) jg F 0 K (mm_sf h 159 65 (.int 0)) [] (by omega) (by omega) b1 s1 ⟨fs_159_65 p _, Nat.zero_le _, fun i p q => by cases q⟩ (by simp)
  refine ⟨f, ?_, f2, f3, f4⟩
  unfold q_X11_gathers
  rw [p_159_65 p hn, Option.bind_some, show (500 : Int32) * ni r = ni (500 * r) from ni_mul 500 r]
  exact (by rw [f1]; rfl : (lp_X11_gathers_15 K n 159 (ni fm) (ni hd) (ni r) (ni dr) bt (ni (500 * r)) K (ni 0) (mm_sf h 159 65 (.int 0))).bind (fun v45 => some v45) = some f)
end PTR

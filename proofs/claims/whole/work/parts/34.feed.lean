/-! ===== the call feed ===== -/
section CALLJ
variable {K n : Nat} {h : mm_H}
def bY (v s : Int32) : Int32 := ((Int32.toUInt32 v) >>> ((Int32.toUInt32 s) &&& Int32.toUInt32 31)).toInt32 &&& 255
def bZ (v s : Int32) : Int32 := vp_nar .byte ((Int32.toInt8 (v >>> (s &&& 31))).toInt32)
theorem b255 : ∀ i, i < 32 → (255#32 : BitVec 32).getLsbD i = decide (i < 8) := by decide
theorem byte_bv (x : BitVec 32) (s : Nat) (hs : s ≤ 24) : (x >>> s) &&& 255#32 = (((x.sshiftRight s).setWidth 8).signExtend 32) &&& 255#32 := by
  apply BitVec.eq_of_getLsbD_eq
  intro i hi
  rw [BitVec.getLsbD_and, BitVec.getLsbD_and, b255 i hi]
  by_cases h8 : i < 8
  · have h1 : s + i < 32 := by omega
    rw [BitVec.getLsbD_ushiftRight, BitVec.getLsbD_signExtend, BitVec.getLsbD_setWidth, BitVec.getLsbD_sshiftRight]
    simp only [h8, h1, hi, decide_true, if_true, Bool.and_true, Bool.true_and]
    have h2 : ¬ 32 ≤ i := by omega
    simp only [h2, decide_false, Bool.not_false, Bool.true_and]
  · simp only [h8, decide_false, Bool.and_false]
theorem se8 (y : BitVec 32) : y.signExtend 8 = y.setWidth 8 := by
  apply BitVec.eq_of_getLsbD_eq
  intro i hi
  have h1 : i < 32 := by omega
  rw [BitVec.getLsbD_signExtend, BitVec.getLsbD_setWidth]
  simp only [hi, h1, decide_true, if_true, Bool.true_and]
theorem bYZ_24 (v : Int32) : bY v 24 = bZ v 24 &&& 255 := by
  refine Int32.toBitVec_inj.mp (Eq.trans ?_ ((byte_bv v.toBitVec 24 (by omega)).trans ?_))
  · unfold bY
    rfl
  · unfold bZ vp_nar
    simp [narrow, se8]
theorem bYZ_16 (v : Int32) : bY v 16 = bZ v 16 &&& 255 := by
  refine Int32.toBitVec_inj.mp (Eq.trans ?_ ((byte_bv v.toBitVec 16 (by omega)).trans ?_))
  · unfold bY
    rfl
  · unfold bZ vp_nar
    simp [narrow, se8]
theorem bYZ_8 (v : Int32) : bY v 8 = bZ v 8 &&& 255 := by
  refine Int32.toBitVec_inj.mp (Eq.trans ?_ ((byte_bv v.toBitVec 8 (by omega)).trans ?_))
  · unfold bY
    rfl
  · unfold bZ vp_nar
    simp [narrow, se8]
theorem bYZ_0 (v : Int32) : bY v 0 = bZ v 0 &&& 255 := by
  refine Int32.toBitVec_inj.mp (Eq.trans ?_ ((byte_bv v.toBitVec 0 (by omega)).trans ?_))
  · unfold bY
    rfl
  · unfold bZ vp_nar
    simp [narrow, se8]
/-- only the program's tape changes -/
def FC (h g : mm_H) : Prop := (∀ a, a ≠ 48 → a ≠ 155 → g a = h a) ∧ fI g 48 7 = fI h 48 7 ∧ fR g 48 8 = fR h 48 8 ∧ fI g 48 10 = fI h 48 10
/-- only the model's tape changes -/
def FM (h g : mm_H) : Prop := (∀ a, a ≠ 159 → a ≠ 198 → g a = h a) ∧ ∀ k, k ≠ 26 → fI g 159 k = fI h 159 k
theorem FC.trans {g f : mm_H} (a : FC h g) (b : FC g f) : FC h f := ⟨fun x p q => (b.1 x p q).trans (a.1 x p q), b.2.1.trans a.2.1, b.2.2.1.trans a.2.2.1, b.2.2.2.trans a.2.2.2⟩
theorem FM.trans {g f : mm_H} (a : FM h g) (b : FM g f) : FM h f := ⟨fun x p q => (b.1 x p q).trans (a.1 x p q), fun k q => (b.2 k q).trans (a.2 k q)⟩
def tpC (t : Nat) (s v : Int32) (h : mm_H) : mm_H := mm_sf (mm_si h 155 t (bY v s)) 48 5 (.int (ni t + 1))
def tpM (t : Nat) (s v : Int32) (h : mm_H) : mm_H := mm_sf (mm_si h 198 t (bZ v s)) 159 26 (.int (ni t + 1))
theorem tpC_ok (c : PS h) (t : Nat) (s v : Int32) : PS (tpC t s v h) ∧ fI (tpC t s v h) 48 5 = ni (t + 1) ∧ iA (tpC t s v h) 155 = upd (iA h 155) t (bY v s) ∧ FC h (tpC t s v h) := by
  have b1 : PS (mm_si h 155 t (bY v s)) := ps_155 c _ _
  unfold tpC
  refine ⟨ps_48_5 b1 _, ?_, ?_, fun a p q => ?_, ?_, ?_, ?_⟩
  · rw [fs_48_5 b1, ni_1]
  · simp only [fI_sf_n, fJ_sf_n, fR_sf_n, fI_sf_o, fJ_sf_o, fR_sf_o, iA_sf, jA_sf, rA_sf, fI_si, fJ_si, fR_si, iA_si_n, jA_si, rA_si, fI_sj, fJ_sj, fR_sj, iA_sj, jA_sj_n, rA_sj, fI_sr, fJ_sr, fR_sr, iA_sr, jA_sr, rA_sr_n, ne_eq, not_false_eq_true, Nat.reduceEqDiff, Nat.zero_ne_one, Nat.one_ne_zero, is_155 c]
  · rw [mm_sf_n p, mm_si_n q]
  · simp only [fI_sf_n, fJ_sf_n, fR_sf_n, fI_sf_o, fJ_sf_o, fR_sf_o, iA_sf, jA_sf, rA_sf, fI_si, fJ_si, fR_si, iA_si_n, jA_si, rA_si, fI_sj, fJ_sj, fR_sj, iA_sj, jA_sj_n, rA_sj, fI_sr, fJ_sr, fR_sr, iA_sr, jA_sr, rA_sr_n, ne_eq, not_false_eq_true, Nat.reduceEqDiff, Nat.zero_ne_one, Nat.one_ne_zero]
  · simp only [fI_sf_n, fJ_sf_n, fR_sf_n, fI_sf_o, fJ_sf_o, fR_sf_o, iA_sf, jA_sf, rA_sf, fI_si, fJ_si, fR_si, iA_si_n, jA_si, rA_si, fI_sj, fJ_sj, fR_sj, iA_sj, jA_sj_n, rA_sj, fI_sr, fJ_sr, fR_sr, iA_sr, jA_sr, rA_sr_n, ne_eq, not_false_eq_true, Nat.reduceEqDiff, Nat.zero_ne_one, Nat.one_ne_zero]
  · simp only [fI_sf_n, fJ_sf_n, fR_sf_n, fI_sf_o, fJ_sf_o, fR_sf_o, iA_sf, jA_sf, rA_sf, fI_si, fJ_si, fR_si, iA_si_n, jA_si, rA_si, fI_sj, fJ_sj, fR_sj, iA_sj, jA_sj_n, rA_sj, fI_sr, fJ_sr, fR_sr, iA_sr, jA_sr, rA_sr_n, ne_eq, not_false_eq_true, Nat.reduceEqDiff, Nat.zero_ne_one, Nat.one_ne_zero]
theorem tpM_ok (c : PS h) (t : Nat) (s v : Int32) : PS (tpM t s v h) ∧ fI (tpM t s v h) 159 26 = ni (t + 1) ∧ iA (tpM t s v h) 198 = upd (iA h 198) t (bZ v s) ∧ FM h (tpM t s v h) := by
  have b1 : PS (mm_si h 198 t (bZ v s)) := ps_198 c _ _
  unfold tpM
  refine ⟨ps_159_26 b1 _, ?_, ?_, fun a p q => ?_, fun k q => ?_⟩
  · rw [fs_159_26 b1, ni_1]
  · simp only [fI_sf_n, fJ_sf_n, fR_sf_n, fI_sf_o, fJ_sf_o, fR_sf_o, iA_sf, jA_sf, rA_sf, fI_si, fJ_si, fR_si, iA_si_n, jA_si, rA_si, fI_sj, fJ_sj, fR_sj, iA_sj, jA_sj_n, rA_sj, fI_sr, fJ_sr, fR_sr, iA_sr, jA_sr, rA_sr_n, ne_eq, not_false_eq_true, Nat.reduceEqDiff, Nat.zero_ne_one, Nat.one_ne_zero, is_198 c]
  · rw [mm_sf_n p, mm_si_n q]
  · rw [fI_sf_o q, fI_si]
theorem tpC_step (c : PS h) (hn : 208 ≤ n) {t : Nat} (ht : fI h 48 5 = ni t) (h9 : t < 900) (v s : Int32) (hs : ¬ s < 0) (k : Nat) : lp_X10_tapeNumber_3 K n 48 v (k + 1) s h = lp_X10_tapeNumber_3 K n 48 v k (s + (-8)) (tpC t s v h) := by
  have i9 : inb (ni t) 900 = true := ni_inb (by omega) h9
  have t9 : (ni t).toNatClampNeg = t := ni_tn (by omega)
  have n9 : ¬ (900 : Int32) ≤ ni t := fun q => by have := (ni_le (a := 900) (by omega) (by omega)).mp q; omega
  conv => lhs; unfold lp_X10_tapeNumber_3
  simp (maxDischargeDepth := 40) only [gq_48, g_48_0, g_48_1, g_48_2, g_48_3, g_48_4, g_48_5, p_48_5, ps_48_5, fs_48_5, g_48_6, g_48_7, p_48_7, ps_48_7, fs_48_7, g_48_8, p_48_8, ps_48_8, fs_48_8, g_48_9, g_48_10, p_48_10, ps_48_10, fs_48_10, g_48_11, gl_155, ge_155, pe_155, ps_155, is_155, c, hn, Option.bind_some, if_neg hs, ht, n9, if_false, i9, t9, if_true, fI_sf_n, fJ_sf_n, fR_sf_n, fI_sf_o, fJ_sf_o, fR_sf_o, iA_sf, jA_sf, rA_sf, fI_si, fJ_si, fR_si, iA_si_n, jA_si, rA_si, fI_sj, fJ_sj, fR_sj, iA_sj, jA_sj_n, rA_sj, fI_sr, fJ_sr, fR_sr, iA_sr, jA_sr, rA_sr_n, ne_eq, not_false_eq_true, Nat.reduceEqDiff, Nat.zero_ne_one, Nat.one_ne_zero]
  rfl
theorem tpM_step (c : PS h) (hn : 208 ≤ n) {t : Nat} (ht : fI h 159 26 = ni t) (h9 : t < 900) (v s : Int32) (hs : ¬ s < 0) (k : Nat) : lp_X11_four_3 K n 159 v (k + 1) s h = lp_X11_four_3 K n 159 v k (s + (-8)) (tpM t s v h) := by
  have i9 : inb (ni t) 900 = true := ni_inb (by omega) h9
  have t9 : (ni t).toNatClampNeg = t := ni_tn (by omega)
  conv => lhs; unfold lp_X11_four_3
  simp (maxDischargeDepth := 40) only [gq_159, g_159_0, p_159_0, ps_159_0, fs_159_0, g_159_1, p_159_1, ps_159_1, fs_159_1, g_159_2, p_159_2, ps_159_2, fs_159_2, g_159_3, g_159_4, g_159_5, g_159_6, g_159_7, g_159_8, p_159_8, ps_159_8, fs_159_8, g_159_9, p_159_9, ps_159_9, fs_159_9, g_159_10, p_159_10, ps_159_10, fs_159_10, g_159_11, g_159_12, g_159_13, g_159_14, g_159_15, g_159_16, g_159_17, g_159_18, g_159_19, g_159_20, g_159_21, g_159_22, g_159_23, g_159_24, p_159_24, ps_159_24, fs_159_24, g_159_25, p_159_25, ps_159_25, fs_159_25, g_159_26, p_159_26, ps_159_26, fs_159_26, g_159_27, p_159_27, ps_159_27, fs_159_27, g_159_28, p_159_28, ps_159_28, fs_159_28, g_159_29, p_159_29, ps_159_29, fs_159_29, g_159_30, p_159_30, ps_159_30, fs_159_30, g_159_31, p_159_31, ps_159_31, fs_159_31, g_159_32, g_159_33, g_159_34, g_159_35, g_159_36, g_159_37, g_159_38, g_159_39, g_159_40, g_159_41, g_159_42, g_159_43, g_159_44, g_159_45, g_159_46, g_159_47, g_159_48, g_159_49, g_159_50, g_159_51, g_159_52, g_159_53, g_159_54, p_159_54, ps_159_54, fs_159_54, g_159_55, p_159_55, ps_159_55, fs_159_55, g_159_56, p_159_56, ps_159_56, fs_159_56, g_159_57, p_159_57, ps_159_57, fs_159_57, g_159_58, g_159_59, g_159_60, g_159_61, g_159_62, g_159_63, g_159_64, g_159_65, p_159_65, ps_159_65, fs_159_65, g_159_66, p_159_66, ps_159_66, fs_159_66, g_159_67, gl_198, ge_198, pe_198, ps_198, is_198, c, hn, Option.bind_some, if_neg hs, ht, i9, t9, if_true, fI_sf_n, fJ_sf_n, fR_sf_n, fI_sf_o, fJ_sf_o, fR_sf_o, iA_sf, jA_sf, rA_sf, fI_si, fJ_si, fR_si, iA_si_n, jA_si, rA_si, fI_sj, fJ_sj, fR_sj, iA_sj, jA_sj_n, rA_sj, fI_sr, fJ_sr, fR_sr, iA_sr, jA_sr, rA_sr_n, ne_eq, not_false_eq_true, Nat.reduceEqDiff, Nat.zero_ne_one, Nat.one_ne_zero]
  rfl
def upC (f : Nat → Int32) (t : Nat) (v : Int32) : Nat → Int32 := upd (upd (upd (upd f t (bY v 24)) (t + 1) (bY v 16)) (t + 1 + 1) (bY v 8)) (t + 1 + 1 + 1) (bY v 0)
def upM (f : Nat → Int32) (t : Nat) (v : Int32) : Nat → Int32 := upd (upd (upd (upd f t (bZ v 24)) (t + 1) (bZ v 16)) (t + 1 + 1) (bZ v 8)) (t + 1 + 1 + 1) (bZ v 0)
theorem up_rel {f g : Nat → Int32} (r : ∀ i, f i = g i &&& 255) (t : Nat) {x y : Int32} (e : x = y &&& 255) : ∀ i, upd f t x i = upd g t y i &&& 255 := by
  intro i
  by_cases q : i = t
  · subst q; rw [upd_s, upd_s]; exact e
  · rw [upd_n q, upd_n q]; exact r i
theorem upCM {f g : Nat → Int32} (r : ∀ i, f i = g i &&& 255) (t : Nat) (v : Int32) : ∀ i, upC f t v i = upM g t v i &&& 255 :=
  up_rel (up_rel (up_rel (up_rel r _ (bYZ_24 v)) _ (bYZ_16 v)) _ (bYZ_8 v)) _ (bYZ_0 v)
theorem z_tapeNumber (hK : 3000 ≤ K) (c : PS h) (hn : 208 ≤ n) {t : Nat} (ht : fI h 48 5 = ni t) (h9 : t + 4 ≤ 900) (v : Int32) : ∃ g, q_X10_tapeNumber K h n 48 v = some g ∧ PS g ∧ fI g 48 5 = ni (t + 4) ∧ iA g 155 = upC (iA h 155) t v ∧ FC h g := by
  obtain ⟨k, rfl⟩ : ∃ k, K = k + 1 + 1 + 1 + 1 + 1 := ⟨K - 5, by omega⟩
  obtain ⟨a1, a2, a3, a4⟩ := tpC_ok c t 24 v
  obtain ⟨b1, b2, b3, b4⟩ := tpC_ok a1 (t + 1) 16 v
  obtain ⟨c1, c2, c3, c4⟩ := tpC_ok b1 (t + 1 + 1) 8 v
  obtain ⟨d1, d2, d3, d4⟩ := tpC_ok c1 (t + 1 + 1 + 1) 0 v
  refine ⟨_, ?_, d1, d2, ?_, ((a4.trans b4).trans c4).trans d4⟩
  · unfold q_X10_tapeNumber
    rw [tpC_step c hn ht (by omega) v 24 (by decide), show (24 : Int32) + (-8) = 16 by decide, tpC_step a1 hn a2 (by omega) v 16 (by decide), show (16 : Int32) + (-8) = 8 by decide, tpC_step b1 hn b2 (by omega) v 8 (by decide), show (8 : Int32) + (-8) = 0 by decide, tpC_step c1 hn c2 (by omega) v 0 (by decide), show (0 : Int32) + (-8) = -8 by decide]
    conv => lhs; unfold lp_X10_tapeNumber_3
    rw [if_pos (by decide)]
    rfl
  · rw [d3, c3, b3, a3]
    rfl
theorem z_four (hK : 3000 ≤ K) (c : PS h) (hn : 208 ≤ n) {t : Nat} (ht : fI h 159 26 = ni t) (h9 : t + 4 ≤ 900) (v : Int32) : ∃ g, q_X11_four K h n 159 v = some g ∧ PS g ∧ fI g 159 26 = ni (t + 4) ∧ iA g 198 = upM (iA h 198) t v ∧ FM h g := by
  obtain ⟨k, rfl⟩ : ∃ k, K = k + 1 + 1 + 1 + 1 + 1 := ⟨K - 5, by omega⟩
  obtain ⟨a1, a2, a3, a4⟩ := tpM_ok c t 24 v
  obtain ⟨b1, b2, b3, b4⟩ := tpM_ok a1 (t + 1) 16 v
  obtain ⟨c1, c2, c3, c4⟩ := tpM_ok b1 (t + 1 + 1) 8 v
  obtain ⟨d1, d2, d3, d4⟩ := tpM_ok c1 (t + 1 + 1 + 1) 0 v
  refine ⟨_, ?_, d1, d2, ?_, ((a4.trans b4).trans c4).trans d4⟩
  · unfold q_X11_four
    rw [tpM_step c hn ht (by omega) v 24 (by decide), show (24 : Int32) + (-8) = 16 by decide, tpM_step a1 hn a2 (by omega) v 16 (by decide), show (16 : Int32) + (-8) = 8 by decide, tpM_step b1 hn b2 (by omega) v 8 (by decide), show (8 : Int32) + (-8) = 0 by decide, tpM_step c1 hn c2 (by omega) v 0 (by decide), show (0 : Int32) + (-8) = -8 by decide]
    conv => lhs; unfold lp_X11_four_3
    rw [if_pos (by decide)]
    rfl
  · rw [d3, c3, b3, a3]
    rfl
theorem J6 {g f : mm_H} (a : FC h g) (b : FM g f) (j : JR h) : JT f ∧ JF f ∧ JA f ∧ JW f ∧ JB f ∧ JL f := by
  have hc : ∀ x, x ≠ 48 → x ≠ 155 → x ≠ 159 → x ≠ 198 → f x = h x := fun x p q r s => (b.1 x r s).trans (a.1 x p q)
  have hf : ∀ k, k ≠ 26 → fI f 159 k = fI h 159 k := fun k q => (b.2 k q).trans (fI_c (a.1 159 (by decide) (by decide)) k)
  have e : ∀ x, x ≠ 48 → x ≠ 155 → x ≠ 159 → x ≠ 198 → (∀ k, fI f x k = fI h x k) ∧ iA f x = iA h x ∧ jA f x = jA h x := fun x p q r s => ⟨fun k => fI_c (hc x p q r s) k, iA_c (hc x p q r s), jA_c (hc x p q r s)⟩
  obtain ⟨uT, uF, uA, uW, uB, uL, -⟩ := j
  refine ⟨?_, ?_, ?_, ?_, ?_, ?_⟩
  · unfold JT
    rw [hf 0 (by decide), (e 49 (by decide) (by decide) (by decide) (by decide)).1, (e 158 (by decide) (by decide) (by decide) (by decide)).2.1, (e 207 (by decide) (by decide) (by decide) (by decide)).2.1]
    exact uT
  · unfold JF
    rw [hf 1 (by decide), (e 49 (by decide) (by decide) (by decide) (by decide)).1, (e 50 (by decide) (by decide) (by decide) (by decide)).2.1, (e 162 (by decide) (by decide) (by decide) (by decide)).2.2]
    exact uF
  · unfold JA
    rw [hf 2 (by decide), (e 51 (by decide) (by decide) (by decide) (by decide)).1, (e 52 (by decide) (by decide) (by decide) (by decide)).2.1, (e 53 (by decide) (by decide) (by decide) (by decide)).2.1, (e 54 (by decide) (by decide) (by decide) (by decide)).2.1, (e 55 (by decide) (by decide) (by decide) (by decide)).2.1, (e 160 (by decide) (by decide) (by decide) (by decide)).2.1, (e 161 (by decide) (by decide) (by decide) (by decide)).2.1, (e 163 (by decide) (by decide) (by decide) (by decide)).2.1, (e 164 (by decide) (by decide) (by decide) (by decide)).2.1]
    exact uA
  · unfold JW
    rw [hf 8 (by decide), (e 56 (by decide) (by decide) (by decide) (by decide)).1, (e 56 (by decide) (by decide) (by decide) (by decide)).1, (e 57 (by decide) (by decide) (by decide) (by decide)).2.1, (e 58 (by decide) (by decide) (by decide) (by decide)).2.1, (e 59 (by decide) (by decide) (by decide) (by decide)).2.1, (e 60 (by decide) (by decide) (by decide) (by decide)).2.1, (e 165 (by decide) (by decide) (by decide) (by decide)).2.1, (e 166 (by decide) (by decide) (by decide) (by decide)).2.1, (e 167 (by decide) (by decide) (by decide) (by decide)).2.1, (e 168 (by decide) (by decide) (by decide) (by decide)).2.1]
    exact uW
  · unfold JB
    rw [hf 9 (by decide), (e 61 (by decide) (by decide) (by decide) (by decide)).1, (e 62 (by decide) (by decide) (by decide) (by decide)).2.1, (e 63 (by decide) (by decide) (by decide) (by decide)).2.1, (e 64 (by decide) (by decide) (by decide) (by decide)).2.1, (e 65 (by decide) (by decide) (by decide) (by decide)).2.1, (e 66 (by decide) (by decide) (by decide) (by decide)).2.1, (e 169 (by decide) (by decide) (by decide) (by decide)).2.1, (e 170 (by decide) (by decide) (by decide) (by decide)).2.1, (e 171 (by decide) (by decide) (by decide) (by decide)).2.1, (e 172 (by decide) (by decide) (by decide) (by decide)).2.1, (e 173 (by decide) (by decide) (by decide) (by decide)).2.1]
    exact uB
  · unfold JL
    rw [hf 10 (by decide), (e 67 (by decide) (by decide) (by decide) (by decide)).1, (e 68 (by decide) (by decide) (by decide) (by decide)).2.1, (e 69 (by decide) (by decide) (by decide) (by decide)).2.1, (e 70 (by decide) (by decide) (by decide) (by decide)).2.1, (e 71 (by decide) (by decide) (by decide) (by decide)).2.1, (e 72 (by decide) (by decide) (by decide) (by decide)).2.1, (e 174 (by decide) (by decide) (by decide) (by decide)).2.1, (e 175 (by decide) (by decide) (by decide) (by decide)).2.1, (e 176 (by decide) (by decide) (by decide) (by decide)).2.1, (e 177 (by decide) (by decide) (by decide) (by decide)).2.1]
    exact uL
theorem FB_of {g f : mm_H} (a : FC h g) (b : FM g f) : FB0 h f := by
  have hc : ∀ x, x ≠ 48 → x ≠ 155 → x ≠ 159 → x ≠ 198 → f x = h x := fun x p q r s => (b.1 x r s).trans (a.1 x p q)
  have hf : ∀ k, k ≠ 26 → fI f 159 k = fI h 159 k := fun k q => (b.2 k q).trans (fI_c (a.1 159 (by decide) (by decide)) k)
  have e48 := b.1 48 (by decide) (by decide)
  refine ⟨fun x hx => hc x (by omega) (by omega) (by omega) (by omega), ?_, ?_, ?_, hf 24 (by decide), hf 25 (by decide), hf 31 (by decide), hf 56 (by decide), ?_, hf 30 (by decide)⟩
  · rw [fI_c e48]; exact a.2.1
  · rw [fR_c e48]; exact a.2.2.1
  · rw [fI_c e48]; exact a.2.2.2
  · exact fI_c (hc 151 (by decide) (by decide) (by decide) (by decide)) 5
theorem S_8 (hK : 3000 ≤ K) {l3 : Int32} {kc ks : Nat} {x : Nat → Int32} (c : PS h) (hn : 208 ≤ n) (j : JR h) (sc : SCR (h 0) n l3 x) : ∃ g, st_law_8 K h n l3 kc ks = some (g, n, kc, ks) ∧ PS g ∧ JR g ∧ FB0 h g ∧ ∃ d : Nat, d ≤ 20 ∧ ∀ t : Nat, t ≤ 900 → fI h 48 5 = ni t → fI g 48 5 = ni (t + d) := by
  obtain ⟨s1, s2, s3, s4, s5, -⟩ := sc h rfl
  obtain ⟨uT, uF, uA, uW, uB, uL, uP⟩ := id j
  obtain ⟨⟨t, ht, ht9⟩, q0, q1⟩ := id uP
  by_cases h9 : t + 20 ≤ 900
  · have e9 : fI h 48 5 + 20 ≤ 900 := by rw [ht, show (20 : Int32) = ni 20 from rfl, ni_add]; exact (ni_le (b := 900) (by omega) (by omega)).mpr h9
    obtain ⟨g1, a1, a2, a3, a4, a5⟩ := z_tapeNumber hK c hn ht (by omega) (x 1)
    obtain ⟨g2, b1, b2, b3, b4, b5⟩ := z_tapeNumber hK a2 hn a3 (by omega) (x 2)
    obtain ⟨g3, c1, c2, c3, c4, c5⟩ := z_tapeNumber hK b2 hn b3 (by omega) (x 3)
    obtain ⟨g4, d1, d2, d3, d4, d5⟩ := z_tapeNumber hK c2 hn c3 (by omega) (x 4)
    obtain ⟨g, e1, e2, e3, e4, e5⟩ := z_tapeNumber hK d2 hn d3 (by omega) (x 5)
    have fc : FC h g := (((a5.trans b5).trans c5).trans d5).trans e5
    have k1 : q_X10_feed K h n 48 (x 1) (x 2) (x 3) (x 4) (x 5) = some (ni (t + 4 + 4 + 4 + 4 + 4), g) := by
      unfold q_X10_feed
      simp only [g_48_5 c hn, gq_48 c hn, gq_48 a2 hn, gq_48 b2 hn, gq_48 c2 hn, gq_48 d2 hn, g_48_5 e2 hn, Option.bind_some, if_pos e9, a1, b1, c1, d1, e1, e3]
    have m0 : fI g 159 26 = ni t := by rw [fI_c (fc.1 159 (by decide) (by decide)), q0]; exact ht
    obtain ⟨s1', s2', s3', s4', s5', -⟩ := sc g (fc.1 0 (by decide) (by decide))
    obtain ⟨f1, A1, A2, A3, A4, A5⟩ := z_four hK e2 hn m0 (by omega) (x 1)
    obtain ⟨f2, B1, B2, B3, B4, B5⟩ := z_four hK A2 hn A3 (by omega) (x 2)
    obtain ⟨f3, C1, C2, C3, C4, C5⟩ := z_four hK B2 hn B3 (by omega) (x 3)
    obtain ⟨f4, D1, D2, D3, D4, D5⟩ := z_four hK C2 hn C3 (by omega) (x 4)
    obtain ⟨f, E1, E2, E3, E4, E5⟩ := z_four hK D2 hn D3 (by omega) (x 5)
    have fm : FM g f := (((A5.trans B5).trans C5).trans D5).trans E5
    have e9' : fI g 159 26 + 20 ≤ 900 := by rw [m0, ← ht]; exact e9
    have k2 : q_X11_feed K g n 159 (x 1) (x 2) (x 3) (x 4) (x 5) = some (ni (t + 4 + 4 + 4 + 4 + 4), f) := by
      unfold q_X11_feed
      simp only [g_159_26 e2 hn, gq_159 e2 hn, gq_159 A2 hn, gq_159 B2 hn, gq_159 C2 hn, gq_159 D2 hn, g_159_26 E2 hn, Option.bind_some, if_pos e9', A1, B1, C1, D1, E1, E3]
    refine ⟨f, ?_, E2, ?_, FB_of fc fm, 20, Nat.le_refl _, fun t' ht' e' => by rw [fI_c (fm.1 48 (by decide) (by decide)), e3, (ni_inj (by omega) (by omega)).mp (e'.symm.trans ht)]⟩
    · unfold st_law_8
      simp only [s1, s2, s3, s4, s5, gq_48 c hn, Option.bind_some, k1, s1', s2', s3', s4', s5', gq_159 e2 hn, k2, if_true]
    · obtain ⟨v1, v2, v3, v4, v5, v6⟩ := J6 fc fm j
      refine ⟨v1, v2, v3, v4, v5, v6, ?_⟩
      unfold JP
      rw [fI_c (fm.1 48 (by decide) (by decide)), e3, E3, iA_c (fm.1 155 (by decide) (by decide)), e4, d4, c4, b4, a4, E4, D4, C4, B4, A4, iA_c (fc.1 198 (by decide) (by decide))]
      exact ⟨⟨t + 4 + 4 + 4 + 4 + 4, rfl, by omega⟩, rfl, upCM (upCM (upCM (upCM (upCM q1 _ _) _ _) _ _) _ _) _ _⟩
  · have e9 : ¬ fI h 48 5 + 20 ≤ 900 := by rw [ht, show (20 : Int32) = ni 20 from rfl, ni_add]; exact fun q => h9 ((ni_le (b := 900) (by omega) (by omega)).mp q)
    have e9' : ¬ fI h 159 26 + 20 ≤ 900 := by rw [q0]; exact e9
    have k1 : q_X10_feed K h n 48 (x 1) (x 2) (x 3) (x 4) (x 5) = some (-1, h) := by
      unfold q_X10_feed
      simp only [g_48_5 c hn, Option.bind_some, if_neg e9]
    have k2 : q_X11_feed K h n 159 (x 1) (x 2) (x 3) (x 4) (x 5) = some (-1, h) := by
      unfold q_X11_feed
      simp only [g_159_26 c hn, Option.bind_some, if_neg e9']
    unfold st_law_8
    simp only [s1, s2, s3, s4, s5, gq_48 c hn, gq_159 c hn, Option.bind_some, k1, k2, if_true]
    exact ⟨h, rfl, c, j, FB.id_.o, 0, Nat.zero_le _, fun t _ e => e⟩
end CALLJ

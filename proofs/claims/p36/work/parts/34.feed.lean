/-! ===== the call feed ===== -/
section CALLJ
variable {K n : Nat} {h : mm_H}
def bY (v s : Int32) : Int32 := ((Int32.toUInt32 v) >>> ((Int32.toUInt32 s) &&& Int32.toUInt32 31)).toInt32 &&& 255
def bZ (v s : Int32) : Int32 := vp_nar .byte ((Int32.toInt8 (v >>> (s &&& 31))).toInt32)
theorem b255 : ∀ i, i < 32 → (255#32 : BitVec 32).getLsbD i = decide (i < 8) := by decide
theorem byte_bv (x : BitVec 32) (s : Nat) (hs : s ≤ 24) : (x >>> s) &&& 255#32 = (((x.sshiftRight s).setWidth 8).signExtend 32) &&& 255#32 := by
  apply BitVec.eq_of_getLsbD_eq
  intro i hi
  rw [BitVec.getLsbD_and, BitVec.getLsbD_and, b255 i hi]
  by_cases h8 : i < 8
  · have h1 : s + i < 32 := by omega
    rw [BitVec.getLsbD_ushiftRight, BitVec.getLsbD_signExtend, BitVec.getLsbD_setWidth, BitVec.getLsbD_sshiftRight]
    simp only [h8, h1, hi, decide_true, if_true, Bool.and_true, Bool.true_and]
    have h2 : ¬ 32 ≤ i := by omega
    simp only [h2, decide_false, Bool.not_false, Bool.true_and]
  · simp only [h8, decide_false, Bool.and_false]
theorem se8 (y : BitVec 32) : y.signExtend 8 = y.setWidth 8 := by
  apply BitVec.eq_of_getLsbD_eq
  intro i hi
  have h1 : i < 32 := by omega
  rw [BitVec.getLsbD_signExtend, BitVec.getLsbD_setWidth]
  simp only [hi, h1, decide_true, if_true, Bool.true_and]
theorem bYZ_24 (v : Int32) : bY v 24 = bZ v 24 &&& 255 := by
  refine Int32.toBitVec_inj.mp (Eq.trans ?_ ((byte_bv v.toBitVec 24 (by omega)).trans ?_))
  · unfold bY
    rfl
  · unfold bZ vp_nar
    simp [narrow, se8]
theorem bYZ_16 (v : Int32) : bY v 16 = bZ v 16 &&& 255 := by
  refine Int32.toBitVec_inj.mp (Eq.trans ?_ ((byte_bv v.toBitVec 16 (by omega)).trans ?_))
  · unfold bY
    rfl
  · unfold bZ vp_nar
    simp [narrow, se8]
theorem bYZ_8 (v : Int32) : bY v 8 = bZ v 8 &&& 255 := by
  refine Int32.toBitVec_inj.mp (Eq.trans ?_ ((byte_bv v.toBitVec 8 (by omega)).trans ?_))
  · unfold bY
    rfl
  · unfold bZ vp_nar
    simp [narrow, se8]
theorem bYZ_0 (v : Int32) : bY v 0 = bZ v 0 &&& 255 := by
  refine Int32.toBitVec_inj.mp (Eq.trans ?_ ((byte_bv v.toBitVec 0 (by omega)).trans ?_))
  · unfold bY
    rfl
  · unfold bZ vp_nar
    simp [narrow, se8]
/-- only the program's tape changes -/
def FC (h g : mm_H) : Prop := (∀ a, a ≠ 48 → a ≠ 155 → g a = h a) ∧ fI g 48 7 = fI h 48 7 ∧ fR g 48 8 = fR h 48 8 ∧ fI g 48 10 = fI h 48 10
theorem FC.trans {g f : mm_H} (a : FC h g) (b : FC g f) : FC h f := ⟨fun x p q => (b.1 x p q).trans (a.1 x p q), b.2.1.trans a.2.1, b.2.2.1.trans a.2.2.1, b.2.2.2.trans a.2.2.2⟩
def tpC (t : Nat) (s v : Int32) (h : mm_H) : mm_H := mm_sf (mm_si h 155 t (bY v s)) 48 5 (.int (ni t + 1))
def tpM (t : Nat) (s v : Int32) (h : mm_H) : mm_H := mm_sf (mm_si h 198 t (bZ v s)) 159 26 (.int (ni t + 1))
theorem tpC_ok (c : PS h) (t : Nat) (s v : Int32) : PS (tpC t s v h) ∧ fI (tpC t s v h) 48 5 = ni (t + 1) ∧ iA (tpC t s v h) 155 = upd (iA h 155) t (bY v s) ∧ FC h (tpC t s v h) := by
  have b1 : PS (mm_si h 155 t (bY v s)) := ps_155 c _ _
  unfold tpC
  refine ⟨ps_48_5 b1 _, ?_, ?_, fun a p q => ?_, ?_, ?_, ?_⟩
  · rw [fs_48_5 b1, ni_1]
  · simp only [fI_sf_n, fJ_sf_n, fR_sf_n, fI_sf_o, fJ_sf_o, fR_sf_o, iA_sf, jA_sf, rA_sf, fI_si, fJ_si, fR_si, iA_si_n, jA_si, rA_si, fI_sj, fJ_sj, fR_sj, iA_sj, jA_sj_n, rA_sj, fI_sr, fJ_sr, fR_sr, iA_sr, jA_sr, rA_sr_n, ne_eq, not_false_eq_true, Nat.reduceEqDiff, Nat.zero_ne_one, Nat.one_ne_zero, is_155 c]
  · rw [mm_sf_n p, mm_si_n q]
  · simp only [fI_sf_n, fJ_sf_n, fR_sf_n, fI_sf_o, fJ_sf_o, fR_sf_o, iA_sf, jA_sf, rA_sf, fI_si, fJ_si, fR_si, iA_si_n, jA_si, rA_si, fI_sj, fJ_sj, fR_sj, iA_sj, jA_sj_n, rA_sj, fI_sr, fJ_sr, fR_sr, iA_sr, jA_sr, rA_sr_n, ne_eq, not_false_eq_true, Nat.reduceEqDiff, Nat.zero_ne_one, Nat.one_ne_zero]
  · simp only [fI_sf_n, fJ_sf_n, fR_sf_n, fI_sf_o, fJ_sf_o, fR_sf_o, iA_sf, jA_sf, rA_sf, fI_si, fJ_si, fR_si, iA_si_n, jA_si, rA_si, fI_sj, fJ_sj, fR_sj, iA_sj, jA_sj_n, rA_sj, fI_sr, fJ_sr, fR_sr, iA_sr, jA_sr, rA_sr_n, ne_eq, not_false_eq_true, Nat.reduceEqDiff, Nat.zero_ne_one, Nat.one_ne_zero]
  · simp only [fI_sf_n, fJ_sf_n, fR_sf_n, fI_sf_o, fJ_sf_o, fR_sf_o, iA_sf, jA_sf, rA_sf, fI_si, fJ_si, fR_si, iA_si_n, jA_si, rA_si, fI_sj, fJ_sj, fR_sj, iA_sj, jA_sj_n, rA_sj, fI_sr, fJ_sr, fR_sr, iA_sr, jA_sr, rA_sr_n, ne_eq, not_false_eq_true, Nat.reduceEqDiff, Nat.zero_ne_one, Nat.one_ne_zero]
theorem tpC_step (c : PS h) (hn : 159 ≤ n) {t : Nat} (ht : fI h 48 5 = ni t) (h9 : t < 900) (v s : Int32) (hs : ¬ s < 0) (k : Nat) : lp_X10_tapeNumber_3 K n 48 v (k + 1) s h = lp_X10_tapeNumber_3 K n 48 v k (s + (-8)) (tpC t s v h) := by
  have i9 : inb (ni t) 900 = true := ni_inb (by omega) h9
  have t9 : (ni t).toNatClampNeg = t := ni_tn (by omega)
  have n9 : ¬ (900 : Int32) ≤ ni t := fun q => by have := (ni_le (a := 900) (by omega) (by omega)).mp q; omega
  conv => lhs; unfold lp_X10_tapeNumber_3
  simp (maxDischargeDepth := 40) only [gq_48, g_48_0, g_48_1, g_48_2, g_48_3, g_48_4, g_48_5, p_48_5, ps_48_5, fs_48_5, g_48_6, g_48_7, p_48_7, ps_48_7, fs_48_7, g_48_8, p_48_8, ps_48_8, fs_48_8, g_48_9, g_48_10, p_48_10, ps_48_10, fs_48_10, g_48_11, gl_155, ge_155, pe_155, ps_155, is_155, c, hn, Option.bind_some, if_neg hs, ht, n9, if_false, i9, t9, if_true, fI_sf_n, fJ_sf_n, fR_sf_n, fI_sf_o, fJ_sf_o, fR_sf_o, iA_sf, jA_sf, rA_sf, fI_si, fJ_si, fR_si, iA_si_n, jA_si, rA_si, fI_sj, fJ_sj, fR_sj, iA_sj, jA_sj_n, rA_sj, fI_sr, fJ_sr, fR_sr, iA_sr, jA_sr, rA_sr_n, ne_eq, not_false_eq_true, Nat.reduceEqDiff, Nat.zero_ne_one, Nat.one_ne_zero]
  rfl
def upC (f : Nat → Int32) (t : Nat) (v : Int32) : Nat → Int32 := upd (upd (upd (upd f t (bY v 24)) (t + 1) (bY v 16)) (t + 1 + 1) (bY v 8)) (t + 1 + 1 + 1) (bY v 0)
def upM (f : Nat → Int32) (t : Nat) (v : Int32) : Nat → Int32 := upd (upd (upd (upd f t (bZ v 24)) (t + 1) (bZ v 16)) (t + 1 + 1) (bZ v 8)) (t + 1 + 1 + 1) (bZ v 0)
theorem up_rel {f g : Nat → Int32} (r : ∀ i, f i = g i &&& 255) (t : Nat) {x y : Int32} (e : x = y &&& 255) : ∀ i, upd f t x i = upd g t y i &&& 255 := by
  intro i
  by_cases q : i = t
  · subst q; rw [upd_s, upd_s]; exact e
  · rw [upd_n q, upd_n q]; exact r i
theorem upCM {f g : Nat → Int32} (r : ∀ i, f i = g i &&& 255) (t : Nat) (v : Int32) : ∀ i, upC f t v i = upM g t v i &&& 255 :=
  up_rel (up_rel (up_rel (up_rel r _ (bYZ_24 v)) _ (bYZ_16 v)) _ (bYZ_8 v)) _ (bYZ_0 v)
theorem z_tapeNumber (hK : 3000 ≤ K) (c : PS h) (hn : 159 ≤ n) {t : Nat} (ht : fI h 48 5 = ni t) (h9 : t + 4 ≤ 900) (v : Int32) : ∃ g, q_X10_tapeNumber K h n 48 v = some g ∧ PS g ∧ fI g 48 5 = ni (t + 4) ∧ iA g 155 = upC (iA h 155) t v ∧ FC h g := by
  obtain ⟨k, rfl⟩ : ∃ k, K = k + 1 + 1 + 1 + 1 + 1 := ⟨K - 5, by omega⟩
  obtain ⟨a1, a2, a3, a4⟩ := tpC_ok c t 24 v
  obtain ⟨b1, b2, b3, b4⟩ := tpC_ok a1 (t + 1) 16 v
  obtain ⟨c1, c2, c3, c4⟩ := tpC_ok b1 (t + 1 + 1) 8 v
  obtain ⟨d1, d2, d3, d4⟩ := tpC_ok c1 (t + 1 + 1 + 1) 0 v
  refine ⟨_, ?_, d1, d2, ?_, ((a4.trans b4).trans c4).trans d4⟩
  · unfold q_X10_tapeNumber
    rw [tpC_step c hn ht (by omega) v 24 (by decide), show (24 : Int32) + (-8) = 16 by decide, tpC_step a1 hn a2 (by omega) v 16 (by decide), show (16 : Int32) + (-8) = 8 by decide, tpC_step b1 hn b2 (by omega) v 8 (by decide), show (8 : Int32) + (-8) = 0 by decide, tpC_step c1 hn c2 (by omega) v 0 (by decide), show (0 : Int32) + (-8) = -8 by decide]
    conv => lhs; unfold lp_X10_tapeNumber_3
    rw [if_pos (by decide)]
    rfl
  · rw [d3, c3, b3, a3]
    rfl
end CALLJ

/-! ===== a set of the model's is copied ===== -/
section COPIES
variable {K n : Nat} {h : mm_H}
def shV (v sh : Int32) : Int32 := if v = -1 then -1 else v + sh
theorem z_shifts (c : PS h) (hn : 208 ≤ n) {a b : Nat} (ha : a < 4200) (hb : b < 4200) (sh : Int32) : ∃ g, q_X11_shifts K h n 159 (ni a) (ni b) sh = some g ∧ PS g ∧ (∀ x, x < 182 ∨ 190 < x → g x = h x) ∧ (∀ x, 182 ≤ x → x ≤ 189 → iA g x = upd (iA h x) b (iA h x a)) ∧ iA g 190 = upd (iA h 190) b (shV (iA h 190 a) sh) := by
  have ia : inb (ni a) 4200 = true := ni_inb (by omega) ha
  have ib : inb (ni b) 4200 = true := ni_inb (by omega) hb
  have ta : (ni a).toNatClampNeg = a := ni_tn (by omega)
  have tb : (ni b).toNatClampNeg = b := ni_tn (by omega)
  have p1 : PS (mm_si h 182 b (iA h 182 a)) := ps_182 c _ _
  have p2 : PS (mm_si (mm_si h 182 b (iA h 182 a)) 183 b (iA h 183 a)) := ps_183 p1 _ _
  have p3 : PS (mm_si (mm_si (mm_si h 182 b (iA h 182 a)) 183 b (iA h 183 a)) 184 b (iA h 184 a)) := ps_184 p2 _ _
  have p4 : PS (mm_si (mm_si (mm_si (mm_si h 182 b (iA h 182 a)) 183 b (iA h 183 a)) 184 b (iA h 184 a)) 185 b (iA h 185 a)) := ps_185 p3 _ _
  have p5 : PS (mm_si (mm_si (mm_si (mm_si (mm_si h 182 b (iA h 182 a)) 183 b (iA h 183 a)) 184 b (iA h 184 a)) 185 b (iA h 185 a)) 186 b (iA h 186 a)) := ps_186 p4 _ _
  have p6 : PS (mm_si (mm_si (mm_si (mm_si (mm_si (mm_si h 182 b (iA h 182 a)) 183 b (iA h 183 a)) 184 b (iA h 184 a)) 185 b (iA h 185 a)) 186 b (iA h 186 a)) 187 b (iA h 187 a)) := ps_187 p5 _ _
  have p7 : PS (mm_si (mm_si (mm_si (mm_si (mm_si (mm_si (mm_si h 182 b (iA h 182 a)) 183 b (iA h 183 a)) 184 b (iA h 184 a)) 185 b (iA h 185 a)) 186 b (iA h 186 a)) 187 b (iA h 187 a)) 188 b (iA h 188 a)) := ps_188 p6 _ _
  have p8 : PS (mm_si (mm_si (mm_si (mm_si (mm_si (mm_si (mm_si (mm_si h 182 b (iA h 182 a)) 183 b (iA h 183 a)) 184 b (iA h 184 a)) 185 b (iA h 185 a)) 186 b (iA h 186 a)) 187 b (iA h 187 a)) 188 b (iA h 188 a)) 189 b (iA h 189 a)) := ps_189 p7 _ _
  refine ⟨mm_si (mm_si (mm_si (mm_si (mm_si (mm_si (mm_si (mm_si (mm_si h 182 b (iA h 182 a)) 183 b (iA h 183 a)) 184 b (iA h 184 a)) 185 b (iA h 185 a)) 186 b (iA h 186 a)) 187 b (iA h 187 a)) 188 b (iA h 188 a)) 189 b (iA h 189 a)) 190 b (shV (iA h 190 a) sh), ?_, ps_190 p8 _ _, fun x hx => ?_, fun x h1 h2 => ?_, ?_⟩
  · unfold q_X11_shifts shV
    simp (maxDischargeDepth := 40) only [gq_159, g_159_0, p_159_0, ps_159_0, fs_159_0, g_159_1, p_159_1, ps_159_1, fs_159_1, g_159_2, p_159_2, ps_159_2, fs_159_2, g_159_3, g_159_4, g_159_5, g_159_6, g_159_7, g_159_8, p_159_8, ps_159_8, fs_159_8, g_159_9, p_159_9, ps_159_9, fs_159_9, g_159_10, p_159_10, ps_159_10, fs_159_10, g_159_11, g_159_12, g_159_13, g_159_14, g_159_15, g_159_16, g_159_17, g_159_18, g_159_19, g_159_20, g_159_21, g_159_22, g_159_23, g_159_24, p_159_24, ps_159_24, fs_159_24, g_159_25, p_159_25, ps_159_25, fs_159_25, g_159_26, p_159_26, ps_159_26, fs_159_26, g_159_27, p_159_27, ps_159_27, fs_159_27, g_159_28, p_159_28, ps_159_28, fs_159_28, g_159_29, p_159_29, ps_159_29, fs_159_29, g_159_30, p_159_30, ps_159_30, fs_159_30, g_159_31, p_159_31, ps_159_31, fs_159_31, g_159_32, g_159_33, g_159_34, g_159_35, g_159_36, g_159_37, g_159_38, g_159_39, g_159_40, g_159_41, g_159_42, g_159_43, g_159_44, g_159_45, g_159_46, g_159_47, g_159_48, g_159_49, g_159_50, g_159_51, g_159_52, g_159_53, g_159_54, p_159_54, ps_159_54, fs_159_54, g_159_55, p_159_55, ps_159_55, fs_159_55, g_159_56, p_159_56, ps_159_56, fs_159_56, g_159_57, p_159_57, ps_159_57, fs_159_57, g_159_58, g_159_59, g_159_60, g_159_61, g_159_62, g_159_63, g_159_64, g_159_65, p_159_65, ps_159_65, fs_159_65, g_159_66, p_159_66, ps_159_66, fs_159_66, g_159_67, gl_182, ge_182, pe_182, ps_182, is_182, gl_183, ge_183, pe_183, ps_183, is_183, gl_184, ge_184, pe_184, ps_184, is_184, gl_185, ge_185, pe_185, ps_185, is_185, gl_186, ge_186, pe_186, ps_186, is_186, gl_187, ge_187, pe_187, ps_187, is_187, gl_188, ge_188, pe_188, ps_188, is_188, gl_189, ge_189, pe_189, ps_189, is_189, gl_190, ge_190, pe_190, ps_190, is_190, c, hn, Option.bind_some, ia, ib, ta, tb, if_true, fI_sf_n, fJ_sf_n, fR_sf_n, fI_sf_o, fJ_sf_o, fR_sf_o, iA_sf, jA_sf, rA_sf, fI_si, fJ_si, fR_si, iA_si_n, jA_si, rA_si, fI_sj, fJ_sj, fR_sj, iA_sj, jA_sj_n, rA_sj, fI_sr, fJ_sr, fR_sr, iA_sr, jA_sr, rA_sr_n, ne_eq, not_false_eq_true, Nat.reduceEqDiff, Nat.zero_ne_one, Nat.one_ne_zero]
    by_cases q : iA h 190 a = -1
    · rw [if_pos q, if_pos q]
    · rw [if_neg q, if_neg q]
  · rw [mm_si_n (by omega), mm_si_n (by omega), mm_si_n (by omega), mm_si_n (by omega), mm_si_n (by omega), mm_si_n (by omega), mm_si_n (by omega), mm_si_n (by omega), mm_si_n (by omega)]
  · rcases (by omega : x = 182 ∨ x = 183 ∨ x = 184 ∨ x = 185 ∨ x = 186 ∨ x = 187 ∨ x = 188 ∨ x = 189) with rfl | rfl | rfl | rfl | rfl | rfl | rfl | rfl
    · simp only [fI_sf_n, fJ_sf_n, fR_sf_n, fI_sf_o, fJ_sf_o, fR_sf_o, iA_sf, jA_sf, rA_sf, fI_si, fJ_si, fR_si, iA_si_n, jA_si, rA_si, fI_sj, fJ_sj, fR_sj, iA_sj, jA_sj_n, rA_sj, fI_sr, fJ_sr, fR_sr, iA_sr, jA_sr, rA_sr_n, ne_eq, not_false_eq_true, Nat.reduceEqDiff, Nat.zero_ne_one, Nat.one_ne_zero, is_182 c]
    · simp only [fI_sf_n, fJ_sf_n, fR_sf_n, fI_sf_o, fJ_sf_o, fR_sf_o, iA_sf, jA_sf, rA_sf, fI_si, fJ_si, fR_si, iA_si_n, jA_si, rA_si, fI_sj, fJ_sj, fR_sj, iA_sj, jA_sj_n, rA_sj, fI_sr, fJ_sr, fR_sr, iA_sr, jA_sr, rA_sr_n, ne_eq, not_false_eq_true, Nat.reduceEqDiff, Nat.zero_ne_one, Nat.one_ne_zero, is_183 p1]
    · simp only [fI_sf_n, fJ_sf_n, fR_sf_n, fI_sf_o, fJ_sf_o, fR_sf_o, iA_sf, jA_sf, rA_sf, fI_si, fJ_si, fR_si, iA_si_n, jA_si, rA_si, fI_sj, fJ_sj, fR_sj, iA_sj, jA_sj_n, rA_sj, fI_sr, fJ_sr, fR_sr, iA_sr, jA_sr, rA_sr_n, ne_eq, not_false_eq_true, Nat.reduceEqDiff, Nat.zero_ne_one, Nat.one_ne_zero, is_184 p2]
    · simp only [fI_sf_n, fJ_sf_n, fR_sf_n, fI_sf_o, fJ_sf_o, fR_sf_o, iA_sf, jA_sf, rA_sf, fI_si, fJ_si, fR_si, iA_si_n, jA_si, rA_si, fI_sj, fJ_sj, fR_sj, iA_sj, jA_sj_n, rA_sj, fI_sr, fJ_sr, fR_sr, iA_sr, jA_sr, rA_sr_n, ne_eq, not_false_eq_true, Nat.reduceEqDiff, Nat.zero_ne_one, Nat.one_ne_zero, is_185 p3]
    · simp only [fI_sf_n, fJ_sf_n, fR_sf_n, fI_sf_o, fJ_sf_o, fR_sf_o, iA_sf, jA_sf, rA_sf, fI_si, fJ_si, fR_si, iA_si_n, jA_si, rA_si, fI_sj, fJ_sj, fR_sj, iA_sj, jA_sj_n, rA_sj, fI_sr, fJ_sr, fR_sr, iA_sr, jA_sr, rA_sr_n, ne_eq, not_false_eq_true, Nat.reduceEqDiff, Nat.zero_ne_one, Nat.one_ne_zero, is_186 p4]
    · simp only [fI_sf_n, fJ_sf_n, fR_sf_n, fI_sf_o, fJ_sf_o, fR_sf_o, iA_sf, jA_sf, rA_sf, fI_si, fJ_si, fR_si, iA_si_n, jA_si, rA_si, fI_sj, fJ_sj, fR_sj, iA_sj, jA_sj_n, rA_sj, fI_sr, fJ_sr, fR_sr, iA_sr, jA_sr, rA_sr_n, ne_eq, not_false_eq_true, Nat.reduceEqDiff, Nat.zero_ne_one, Nat.one_ne_zero, is_187 p5]
    · simp only [fI_sf_n, fJ_sf_n, fR_sf_n, fI_sf_o, fJ_sf_o, fR_sf_o, iA_sf, jA_sf, rA_sf, fI_si, fJ_si, fR_si, iA_si_n, jA_si, rA_si, fI_sj, fJ_sj, fR_sj, iA_sj, jA_sj_n, rA_sj, fI_sr, fJ_sr, fR_sr, iA_sr, jA_sr, rA_sr_n, ne_eq, not_false_eq_true, Nat.reduceEqDiff, Nat.zero_ne_one, Nat.one_ne_zero, is_188 p6]
    · simp only [fI_sf_n, fJ_sf_n, fR_sf_n, fI_sf_o, fJ_sf_o, fR_sf_o, iA_sf, jA_sf, rA_sf, fI_si, fJ_si, fR_si, iA_si_n, jA_si, rA_si, fI_sj, fJ_sj, fR_sj, iA_sj, jA_sj_n, rA_sj, fI_sr, fJ_sr, fR_sr, iA_sr, jA_sr, rA_sr_n, ne_eq, not_false_eq_true, Nat.reduceEqDiff, Nat.zero_ne_one, Nat.one_ne_zero, is_189 p7]
  · rw [is_190 p8]
    simp only [fI_sf_n, fJ_sf_n, fR_sf_n, fI_sf_o, fJ_sf_o, fR_sf_o, iA_sf, jA_sf, rA_sf, fI_si, fJ_si, fR_si, iA_si_n, jA_si, rA_si, fI_sj, fJ_sj, fR_sj, iA_sj, jA_sj_n, rA_sj, fI_sr, fJ_sr, fR_sr, iA_sr, jA_sr, rA_sr_n, ne_eq, not_false_eq_true, Nat.reduceEqDiff, Nat.zero_ne_one, Nat.one_ne_zero]
/-- one node put down at another place -/
def cpN (g : mm_H) (a b : Nat) (sh : Int32) : mm_H := mm_si (mm_si (mm_si (mm_si (mm_si (mm_si g 191 b (iA g 191 a)) 192 b (shV (iA g 192 a) sh)) 193 b (shV (iA g 193 a) sh)) 194 b (iA g 194 a)) 195 b (iA g 195 a)) 196 b (iA g 196 a)
theorem cpN_1 (c : PS h) (a b : Nat) (sh : Int32) : PS (cpN h a b sh) ∧ (∀ x, x < 191 ∨ 196 < x → cpN h a b sh x = h x) ∧ iA (cpN h a b sh) 191 = upd (iA h 191) b (iA h 191 a) ∧ iA (cpN h a b sh) 192 = upd (iA h 192) b (shV (iA h 192 a) sh) ∧ iA (cpN h a b sh) 193 = upd (iA h 193) b (shV (iA h 193 a) sh) ∧ iA (cpN h a b sh) 194 = upd (iA h 194) b (iA h 194 a) ∧ iA (cpN h a b sh) 195 = upd (iA h 195) b (iA h 195 a) ∧ iA (cpN h a b sh) 196 = upd (iA h 196) b (iA h 196 a) := by
  have p1 : PS (mm_si h 191 b (iA h 191 a)) := ps_191 c _ _
  have p2 : PS (mm_si (mm_si h 191 b (iA h 191 a)) 192 b (shV (iA h 192 a) sh)) := ps_192 p1 _ _
  have p3 : PS (mm_si (mm_si (mm_si h 191 b (iA h 191 a)) 192 b (shV (iA h 192 a) sh)) 193 b (shV (iA h 193 a) sh)) := ps_193 p2 _ _
  have p4 : PS (mm_si (mm_si (mm_si (mm_si h 191 b (iA h 191 a)) 192 b (shV (iA h 192 a) sh)) 193 b (shV (iA h 193 a) sh)) 194 b (iA h 194 a)) := ps_194 p3 _ _
  have p5 : PS (mm_si (mm_si (mm_si (mm_si (mm_si h 191 b (iA h 191 a)) 192 b (shV (iA h 192 a) sh)) 193 b (shV (iA h 193 a) sh)) 194 b (iA h 194 a)) 195 b (iA h 195 a)) := ps_195 p4 _ _
  unfold cpN
  refine ⟨ps_196 p5 _ _, fun x hx => ?_, ?_, ?_, ?_, ?_, ?_, ?_⟩
  · rw [mm_si_n (by omega), mm_si_n (by omega), mm_si_n (by omega), mm_si_n (by omega), mm_si_n (by omega), mm_si_n (by omega)]
  · simp only [fI_sf_n, fJ_sf_n, fR_sf_n, fI_sf_o, fJ_sf_o, fR_sf_o, iA_sf, jA_sf, rA_sf, fI_si, fJ_si, fR_si, iA_si_n, jA_si, rA_si, fI_sj, fJ_sj, fR_sj, iA_sj, jA_sj_n, rA_sj, fI_sr, fJ_sr, fR_sr, iA_sr, jA_sr, rA_sr_n, ne_eq, not_false_eq_true, Nat.reduceEqDiff, Nat.zero_ne_one, Nat.one_ne_zero, is_191 c]
  · simp only [fI_sf_n, fJ_sf_n, fR_sf_n, fI_sf_o, fJ_sf_o, fR_sf_o, iA_sf, jA_sf, rA_sf, fI_si, fJ_si, fR_si, iA_si_n, jA_si, rA_si, fI_sj, fJ_sj, fR_sj, iA_sj, jA_sj_n, rA_sj, fI_sr, fJ_sr, fR_sr, iA_sr, jA_sr, rA_sr_n, ne_eq, not_false_eq_true, Nat.reduceEqDiff, Nat.zero_ne_one, Nat.one_ne_zero, is_192 p1]
  · simp only [fI_sf_n, fJ_sf_n, fR_sf_n, fI_sf_o, fJ_sf_o, fR_sf_o, iA_sf, jA_sf, rA_sf, fI_si, fJ_si, fR_si, iA_si_n, jA_si, rA_si, fI_sj, fJ_sj, fR_sj, iA_sj, jA_sj_n, rA_sj, fI_sr, fJ_sr, fR_sr, iA_sr, jA_sr, rA_sr_n, ne_eq, not_false_eq_true, Nat.reduceEqDiff, Nat.zero_ne_one, Nat.one_ne_zero, is_193 p2]
  · simp only [fI_sf_n, fJ_sf_n, fR_sf_n, fI_sf_o, fJ_sf_o, fR_sf_o, iA_sf, jA_sf, rA_sf, fI_si, fJ_si, fR_si, iA_si_n, jA_si, rA_si, fI_sj, fJ_sj, fR_sj, iA_sj, jA_sj_n, rA_sj, fI_sr, fJ_sr, fR_sr, iA_sr, jA_sr, rA_sr_n, ne_eq, not_false_eq_true, Nat.reduceEqDiff, Nat.zero_ne_one, Nat.one_ne_zero, is_194 p3]
  · simp only [fI_sf_n, fJ_sf_n, fR_sf_n, fI_sf_o, fJ_sf_o, fR_sf_o, iA_sf, jA_sf, rA_sf, fI_si, fJ_si, fR_si, iA_si_n, jA_si, rA_si, fI_sj, fJ_sj, fR_sj, iA_sj, jA_sj_n, rA_sj, fI_sr, fJ_sr, fR_sr, iA_sr, jA_sr, rA_sr_n, ne_eq, not_false_eq_true, Nat.reduceEqDiff, Nat.zero_ne_one, Nat.one_ne_zero, is_195 p4]
  · rw [is_196 p5]
    simp only [fI_sf_n, fJ_sf_n, fR_sf_n, fI_sf_o, fJ_sf_o, fR_sf_o, iA_sf, jA_sf, rA_sf, fI_si, fJ_si, fR_si, iA_si_n, jA_si, rA_si, fI_sj, fJ_sj, fR_sj, iA_sj, jA_sj_n, rA_sj, fI_sr, fJ_sr, fR_sr, iA_sr, jA_sr, rA_sr_n, ne_eq, not_false_eq_true, Nat.reduceEqDiff, Nat.zero_ne_one, Nat.one_ne_zero]
theorem z_cpN (c : PS h) (hn : 208 ≤ n) {a b : Nat} {l1 sh : Int32} (ha : a < 91000) (hb : b < 91000) (eb : ni a + sh = ni b) {z N : Nat} (hz : z < 14) (el : l1 = ni z) (e181 : iA h 181 z = ni N) (lt : ¬ 6500 * ni z + ni N ≤ ni a) (k : Nat) : lp_X11_copies_80 K n 159 l1 sh (k + 1) (ni a) h = lp_X11_copies_80 K n 159 l1 sh k (ni (a + 1)) (cpN h a b sh) := by
  have ia : inb (ni a) 91000 = true := ni_inb (by omega) ha
  have ib : inb (ni b) 91000 = true := ni_inb (by omega) hb
  have ta : (ni a).toNatClampNeg = a := ni_tn (by omega)
  have tb : (ni b).toNatClampNeg = b := ni_tn (by omega)
  have iz : inb (ni z) 14 = true := ni_inb (by omega) hz
  have tz : (ni z).toNatClampNeg = z := ni_tn (by omega)
  subst el
  have q1 : ∀ x, PS (mm_si h 191 b x) := fun x => ps_191 c _ _
  have q2 : ∀ x y, PS (mm_si (mm_si h 191 b x) 192 b y) := fun x y => ps_192 (q1 x) _ _
  have q3 : ∀ x y z, PS (mm_si (mm_si (mm_si h 191 b x) 192 b y) 193 b z) := fun x y z => ps_193 (q2 x y) _ _
  have q4 : ∀ x y z w, PS (mm_si (mm_si (mm_si (mm_si h 191 b x) 192 b y) 193 b z) 194 b w) := fun x y z w => ps_194 (q3 x y z) _ _
  have q5 : ∀ x y z w v, PS (mm_si (mm_si (mm_si (mm_si (mm_si h 191 b x) 192 b y) 193 b z) 194 b w) 195 b v) := fun x y z w v => ps_195 (q4 x y z w) _ _
  conv => lhs; unfold lp_X11_copies_80
  simp only [g_159_35 c hn, ge_181 c hn, iz, tz, if_true, e181, Option.bind_some]
  rw [if_neg lt]
  unfold cpN shV
  simp only [g_159_45 c hn, ge_191 c hn, ia, ta, if_true, Option.bind_some, eb, pe_191 c hn, ib, tb, g_159_46 (q1 _) hn, ge_192 (q1 _) hn, pe_192 (q1 _) hn, fI_sf_n, fJ_sf_n, fR_sf_n, fI_sf_o, fJ_sf_o, fR_sf_o, iA_sf, jA_sf, rA_sf, fI_si, fJ_si, fR_si, iA_si_n, jA_si, rA_si, fI_sj, fJ_sj, fR_sj, iA_sj, jA_sj_n, rA_sj, fI_sr, fJ_sr, fR_sr, iA_sr, jA_sr, rA_sr_n, ne_eq, not_false_eq_true, Nat.reduceEqDiff, Nat.zero_ne_one, Nat.one_ne_zero, ni_1]
  by_cases h1 : iA h 192 a = -1
  · rw [if_pos h1, if_pos h1]
    simp only [Option.bind_some, g_159_47 (q2 _ _) hn, ge_193 (q2 _ _) hn, pe_193 (q2 _ _) hn, ia, ta, ib, tb, if_true, fI_sf_n, fJ_sf_n, fR_sf_n, fI_sf_o, fJ_sf_o, fR_sf_o, iA_sf, jA_sf, rA_sf, fI_si, fJ_si, fR_si, iA_si_n, jA_si, rA_si, fI_sj, fJ_sj, fR_sj, iA_sj, jA_sj_n, rA_sj, fI_sr, fJ_sr, fR_sr, iA_sr, jA_sr, rA_sr_n, ne_eq, not_false_eq_true, Nat.reduceEqDiff, Nat.zero_ne_one, Nat.one_ne_zero]
    by_cases h2 : iA h 193 a = -1
    · rw [if_pos h2, if_pos h2]
      simp only [Option.bind_some, g_159_48 (q3 _ _ _) hn, ge_194 (q3 _ _ _) hn, pe_194 (q3 _ _ _) hn, g_159_49 (q4 _ _ _ _) hn, ge_195 (q4 _ _ _ _) hn, pe_195 (q4 _ _ _ _) hn, g_159_50 (q5 _ _ _ _ _) hn, ge_196 (q5 _ _ _ _ _) hn, pe_196 (q5 _ _ _ _ _) hn, ia, ta, ib, tb, if_true, fI_sf_n, fJ_sf_n, fR_sf_n, fI_sf_o, fJ_sf_o, fR_sf_o, iA_sf, jA_sf, rA_sf, fI_si, fJ_si, fR_si, iA_si_n, jA_si, rA_si, fI_sj, fJ_sj, fR_sj, iA_sj, jA_sj_n, rA_sj, fI_sr, fJ_sr, fR_sr, iA_sr, jA_sr, rA_sr_n, ne_eq, not_false_eq_true, Nat.reduceEqDiff, Nat.zero_ne_one, Nat.one_ne_zero]
    · rw [if_neg h2, if_neg h2]
      simp only [Option.bind_some, g_159_48 (q3 _ _ _) hn, ge_194 (q3 _ _ _) hn, pe_194 (q3 _ _ _) hn, g_159_49 (q4 _ _ _ _) hn, ge_195 (q4 _ _ _ _) hn, pe_195 (q4 _ _ _ _) hn, g_159_50 (q5 _ _ _ _ _) hn, ge_196 (q5 _ _ _ _ _) hn, pe_196 (q5 _ _ _ _ _) hn, ia, ta, ib, tb, if_true, fI_sf_n, fJ_sf_n, fR_sf_n, fI_sf_o, fJ_sf_o, fR_sf_o, iA_sf, jA_sf, rA_sf, fI_si, fJ_si, fR_si, iA_si_n, jA_si, rA_si, fI_sj, fJ_sj, fR_sj, iA_sj, jA_sj_n, rA_sj, fI_sr, fJ_sr, fR_sr, iA_sr, jA_sr, rA_sr_n, ne_eq, not_false_eq_true, Nat.reduceEqDiff, Nat.zero_ne_one, Nat.one_ne_zero]
  · rw [if_neg h1, if_neg h1]
    simp only [Option.bind_some, g_159_47 (q2 _ _) hn, ge_193 (q2 _ _) hn, pe_193 (q2 _ _) hn, ia, ta, ib, tb, if_true, fI_sf_n, fJ_sf_n, fR_sf_n, fI_sf_o, fJ_sf_o, fR_sf_o, iA_sf, jA_sf, rA_sf, fI_si, fJ_si, fR_si, iA_si_n, jA_si, rA_si, fI_sj, fJ_sj, fR_sj, iA_sj, jA_sj_n, rA_sj, fI_sr, fJ_sr, fR_sr, iA_sr, jA_sr, rA_sr_n, ne_eq, not_false_eq_true, Nat.reduceEqDiff, Nat.zero_ne_one, Nat.one_ne_zero]
    by_cases h2 : iA h 193 a = -1
    · rw [if_pos h2, if_pos h2]
      simp only [Option.bind_some, g_159_48 (q3 _ _ _) hn, ge_194 (q3 _ _ _) hn, pe_194 (q3 _ _ _) hn, g_159_49 (q4 _ _ _ _) hn, ge_195 (q4 _ _ _ _) hn, pe_195 (q4 _ _ _ _) hn, g_159_50 (q5 _ _ _ _ _) hn, ge_196 (q5 _ _ _ _ _) hn, pe_196 (q5 _ _ _ _ _) hn, ia, ta, ib, tb, if_true, fI_sf_n, fJ_sf_n, fR_sf_n, fI_sf_o, fJ_sf_o, fR_sf_o, iA_sf, jA_sf, rA_sf, fI_si, fJ_si, fR_si, iA_si_n, jA_si, rA_si, fI_sj, fJ_sj, fR_sj, iA_sj, jA_sj_n, rA_sj, fI_sr, fJ_sr, fR_sr, iA_sr, jA_sr, rA_sr_n, ne_eq, not_false_eq_true, Nat.reduceEqDiff, Nat.zero_ne_one, Nat.one_ne_zero]
    · rw [if_neg h2, if_neg h2]
      simp only [Option.bind_some, g_159_48 (q3 _ _ _) hn, ge_194 (q3 _ _ _) hn, pe_194 (q3 _ _ _) hn, g_159_49 (q4 _ _ _ _) hn, ge_195 (q4 _ _ _ _) hn, pe_195 (q4 _ _ _ _) hn, g_159_50 (q5 _ _ _ _ _) hn, ge_196 (q5 _ _ _ _ _) hn, pe_196 (q5 _ _ _ _ _) hn, ia, ta, ib, tb, if_true, fI_sf_n, fJ_sf_n, fR_sf_n, fI_sf_o, fJ_sf_o, fR_sf_o, iA_sf, jA_sf, rA_sf, fI_si, fJ_si, fR_si, iA_si_n, jA_si, rA_si, fI_sj, fJ_sj, fR_sj, iA_sj, jA_sj_n, rA_sj, fI_sr, fJ_sr, fR_sr, iA_sr, jA_sr, rA_sr_n, ne_eq, not_false_eq_true, Nat.reduceEqDiff, Nat.zero_ne_one, Nat.one_ne_zero]
end COPIES

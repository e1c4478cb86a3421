/-! ===== what an output earns, on the model's side ===== -/
section EARNM
variable {K n : Nat} {h : mm_H}
theorem sub64 {a b : Nat} (ha : a ≤ 99999) (hb : b ≤ 99999) : (ni a - ni b).toInt64 = (ni a).toInt64 - (ni b).toInt64 := by
  refine Int64.toInt_inj.mp ?_
  rw [Int32.toInt_toInt64, Int32.toInt_sub, Int64.toInt_sub, Int32.toInt_toInt64, Int32.toInt_toInt64, ni_int (by omega), ni_int (by omega)]
  rw [Int.bmod_eq_of_le (by omega) (by omega), Int.bmod_eq_of_le (by omega) (by omega)]
theorem abs_eq (v : Int64) : j_abs v = absS v := by
  unfold j_abs absS
  by_cases h0 : 0 < v
  · rw [if_pos h0, if_pos (Int64.le_of_lt h0)]
  · rw [if_neg h0]
    by_cases h1 : 0 ≤ v
    · have : v = 0 := Int64.le_antisymm (Int64.not_lt.mp h0) h1
      subst this
      rfl
    · rw [if_neg h1]
def eaS (h : mm_H) (f y o : Nat) (d : Int32) (w : Nat → Int64) (L : List Stm) : Int64 := match lastS w 2 o L 0 none with
  | none => 0
  | some i => match L[i]? with
    | some s => if kn h f y (14 + o) d = -1 then 0 else erS s (kn h f y (14 + o) d).toInt64
    | none => 0
theorem z_earnedM (hK : 3000 ≤ K) (c : PS h) (hn : 208 ≤ n) (j : JR h) {f y o : Nat} {d z : Int32} {b : Option Nat} {w : Nat → Int64} {L : List Stm} (hf : f ≤ 10) (hy : y ≤ 14) (ho : o ≤ 2) (so : SO K n h (y / 5) z) (R : RS h n b z L) (hw : ∀ i, i < 5 → wdW (ni y).toInt64 (ni f).toInt64 (iA h 201 y).toInt64 (jA h 200 y) (iA h 202 y).toInt64 i = w i) : ∃ g, q_X11_earned K h n 159 (ni f) (ni o) (ni y) d = some (eaS h f y o d w L, g) ∧ PS g ∧ ∀ a, a ≠ 203 → g a = h a := by
  obtain ⟨g, e, p, os⟩ := z_statement hK c hn (k := 2) (o := o) hy (by omega) (by omega) so R hw
  refine ⟨g, ?_, p, os⟩
  have e' : q_X11_statement K h n 159 (ni f) (ni y) 2 (ni o) = some (bI z.toNatClampNeg (lastS w 2 o L 0 none), g) := e
  have jg : JR g := JR_c (fun a q => os a (by omega)) j
  have e14 : (14 : Int32) + ni o = ni (14 + o) := ni_add 14 _
  have kf := z_X11_factBy hK p hn jg.2.2.1 hf hy (show 14 + o ≤ 16 by omega) d
  rw [kn_c (fun a _ _ => os a (by omega))] at kf
  have kin := kn_in j.2.2.1 hf hy (show 14 + o ≤ 16 by omega) d
  unfold q_X11_earned eaS
  simp only [gq_159 c hn, Option.bind_some, e', gq_159 p hn, e14, kf]
  cases q : lastS w 2 o L 0 none with
  | none => rfl
  | some i =>
    obtain ⟨s, es, k2, o0⟩ := lastS_at w 2 o [] L none (fun j ej => by cases ej) i q
    have es' : L[i]? = some s := es
    have hi := lastS_lt w 2 o L 0 none (fun j ej => by cases ej) i q
    rcases R with ⟨-, -, rfl⟩ | ⟨p', w0, B, a, b', -, rfl, hw0, hB, bk, hL, ok, N, hN, st⟩
    · exact absurd hi (by rw [List.length_nil]; omega)
    · obtain ⟨-, -, r3, r4, r5, r6, -⟩ := st.2.2 i s es'
      have r3' := r3 (Or.inr k2)
      have r5' := r5 (by omega)
      obtain ⟨r7, r8, r9⟩ := r6 k2
      have osk := ok s (List.mem_of_getElem? es')
      obtain ⟨o2, m1, a9, b1, b9, c9, d9, e9⟩ := osk.2.2.2.1 k2
      have ev : bI (ni w0).toNatClampNeg (some i) = ni (300 * w0 + i) := by rw [ni_tn (by omega)]; rfl
      have ir : inb (ni (300 * w0 + i)) 4200 = true := ni_inb (by omega) (by omega)
      have tr : (ni (300 * w0 + i)).toNatClampNeg = 300 * w0 + i := ni_tn (by omega)
      have g184 : iA g 184 (300 * w0 + i) = ni (sM s) := by rw [iA_c (os 184 (by omega))]; exact r3'
      have g185 : iA g 185 (300 * w0 + i) = ni (sA s) := by rw [iA_c (os 185 (by omega))]; exact r4
      have g186 : iA g 186 (300 * w0 + i) = ni (sB s) := by rw [iA_c (os 186 (by omega))]; exact r5'
      have g187 : iA g 187 (300 * w0 + i) = ni (sC s) := by rw [iA_c (os 187 (by omega))]; exact r7
      have g188 : iA g 188 (300 * w0 + i) = ni (sD s) := by rw [iA_c (os 188 (by omega))]; exact r8
      have g189 : iA g 189 (300 * w0 + i) = ni (sE s) := by rw [iA_c (os 189 (by omega))]; exact r9
      have em : (ni (sM s) = 0) = (sM s = 0) := propext (ni_inj (b := 0) (by omega) (by omega))
      have nz : ¬ (ni (sB s)).toInt64 = 0 := fun z => by
        rw [ni_nj (by omega)] at z
        have := congrArg Int64.toInt z
        rw [nj_int (by omega)] at this
        have e0 : (0 : Int64).toInt = 0 := by decide
        omega
      simp only [ev, es']
      rw [if_neg (ni_n1 (by omega))]
      rcases kin with ek | ⟨v, ek, hv⟩
      · rw [if_pos ek, if_pos ek]
      · have nk : ¬ kn h f y (14 + o) d = -1 := by rw [ek]; exact ni_n1 (by omega)
        rw [if_neg nk, if_neg nk]
        simp only [g_159_38 p hn, g_159_39 p hn, g_159_40 p hn, g_159_41 p hn, g_159_42 p hn, g_159_43 p hn, ge_184 p hn, ge_185 p hn, ge_186 p hn, ge_187 p hn, ge_188 p hn, ge_189 p hn, ir, tr, Option.bind_some, if_true, g184, g185, g186, g187, g188, g189, em, nz, if_false, ek, sub64 hv a9, sub64 a9 hv, lg_cmp_ge, abs_eq]
        unfold erS erB
        by_cases h0 : sM s = 0
        · rw [if_pos h0, if_pos h0]
          by_cases hb : 0 ≤ (ni v).toInt64 - (ni (sA s)).toInt64
          · rw [if_pos hb, if_pos hb]
          · rw [if_neg hb, if_neg hb]
        · rw [if_neg h0, if_neg h0]
          by_cases hb : 0 ≤ (ni (sA s)).toInt64 - (ni v).toInt64
          · rw [if_pos hb, if_pos hb]
          · rw [if_neg hb, if_neg hb]
end EARNM

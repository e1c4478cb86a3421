/-! ===== the call allowed ===== -/
section ALLOWED
variable {K n : Nat} {h : mm_H}
theorem z_allowedOf (hK : 3000 ≤ K) (c : PS h) (hn : 208 ≤ n) (j : JR h) {F f y hd : Nat} {d z : Int32} {b : Option Nat} {w : Nat → Int64} {L : List Stm} (uF : fI h 49 5 = ni F) (hF : F ≤ 11) (hf : f < F) (hy : y ≤ 14) (hhd : hd ≤ 3) (so : SO K n h (y / 5) z) (R : RS h n b z L) (hw : ∀ i, i < 5 → wdW (ni y).toInt64 (ni f).toInt64 (iA h 201 y).toInt64 (jA h 200 y) (iA h 202 y).toInt64 i = w i) : ∃ g, q_X11_allowedOf K h n 159 (ni f) (ni hd) (ni y) d = some (Int64.toInt32 (allS h F f y hd d w L), g) ∧ PS g ∧ SX h g := by
  obtain ⟨q0, q1, q2, q3, q4, q5, m, hm, hm20, hB⟩ := id j.2.2.2.2.1
  obtain ⟨v, e1, e2⟩ := z_bnM (K := K) c hn j.2.2.2.2.1 (ni f) (ni hd) (ni y) d m K hm20 (by omega)
  have em : ni m - 1 = ni m + (-1) := by rw [Int32.sub_eq_add_neg]
  unfold q_X11_allowedOf allS
  rw [hm, ni_tn (by omega)]
  simp only [g_159_9 c hn, q0, hm, Option.bind_some, em, e1]
  cases qb : bnS h (ni f) (ni hd) (ni y) d m with
  | some i =>
    rw [qb] at e2
    obtain ⟨v1, v2⟩ : v.1 = 0 ∧ v.2 = ni i := e2
    have hi := bnS_lt h _ _ _ _ m i qb
    have i20 : inb (ni i) 20 = true := ni_inb (by omega) (by omega)
    have ti : (ni i).toNatClampNeg = i := ni_tn (by omega)
    rw [if_pos v1]
    simp only [g_159_18 c hn, ge_172 c hn, v2, i20, ti, if_true, Option.bind_some, q4]
    refine ⟨h, ?_, c, SE.id_.sx⟩
    show some (iA h 65 i, h) = some (Int64.toInt32 (iA h 65 i).toInt64, h)
    rw [i32_64]
  | none =>
    rw [qb] at e2
    have v1 : v.1 = 1 := e2
    rw [if_neg (by rw [v1]; decide), if_pos v1, gq_159 c hn]
    obtain ⟨g, s1, s2, s3⟩ := z_statement hK c hn (k := 0) (o := hd) hy (by omega) (by omega) so R hw
    have s1' : q_X11_statement K h n 159 (ni f) (ni y) 0 (ni hd) = some (bI z.toNatClampNeg (lastS w 0 hd L 0 none), g) := s1
    simp only [Option.bind_some, s1', gq_159 s2 hn]
    cases ql : lastS w 0 hd L 0 none with
    | none =>
      have ab : q_X11_allowedBy K g n 159 (bI z.toNatClampNeg none) (ni f) (ni hd) (ni y) = some (0, g) := by
        unfold q_X11_allowedBy
        rw [if_pos (show bI z.toNatClampNeg none = -1 from rfl)]
      simp only [ab, Option.bind_some]
      exact ⟨g, rfl, s2, SX.of s3⟩
    | some i =>
      obtain ⟨s, es, k0, o0⟩ := lastS_at w 0 hd [] L none (fun j ej => by cases ej) i ql
      have es' : L[i]? = some s := es
      have hi := lastS_lt w 0 hd L 0 none (fun j ej => by cases ej) i ql
      rcases R with ⟨-, -, e⟩ | ⟨p', w0, B, a, b', -, rfl, hw0, hB', bk, hL, ok, N, hN, st⟩
      · rw [e, List.length_nil] at hi; omega
      · have st' : setR g w0 L N := setR_c (fun a l1 l2 => s3 a (by omega)) st
        have jg : JR g := JR_c (fun a q => s3 a (by omega)) j
        obtain ⟨g', a1, a2, a3⟩ := z_allowedBy hK s2 hn jg (F := F) (f := f) (y := y) ((fI_c (s3 49 (by decide)) 5).trans uF) hF hf hy (by omega) (st'.2.2 i s es') (ok s (List.mem_of_getElem? es')) k0 o0
        have eb : bI (ni w0).toNatClampNeg (some i) = ni (300 * w0 + i) := by rw [ni_tn (by omega)]; rfl
        have ts : toldS g F f y s = toldS h F f y s := by
          have ek : kn g = kn h := kn_c (fun a _ _ => s3 a (by omega))
          unfold toldS
          rw [ek, PtL_c ek, drS_c ek]
        rw [ts] at a1
        simp only [eb, a1, Option.bind_some, es']
        exact ⟨g', rfl, a2, (SX.of s3).trans a3.sx⟩
theorem S_14 (hK : 3000 ≤ K) {l3 : Int32} {kc ks : Nat} {x : Nat → Int32} (c : PS h) (hn : 208 ≤ n) (j : JR h) (jn : JN h) (jk : JK h n) (sc : SCR (h 0) n l3 x) : ∃ g, st_law_14 K h n l3 kc ks = some (g, n, kc, ks) ∧ PS g ∧ SW h g := by
  obtain ⟨s1, s2, s3, s4, -⟩ := sc h rfl
  have uF := j.2.1
  have n10 : ¬ (1 : Int32) = 0 := by decide
  have fin : ∀ (v : Int32) (g w : mm_H), q_X10_allowed K h n 48 (x 1) (x 2) (x 3) (x 4) = some (v, g) → PS g → SW h g → q_X11_allowed K g n 159 (x 1) (x 2) (x 3) (x 4) = some (v, w) → PS w → SW h w → ∃ g, st_law_14 K h n l3 kc ks = some (g, n, kc, ks) ∧ PS g ∧ SW h g := by
    intro v g w k1 p1 e1 k2 p2 e2
    obtain ⟨t1, t2, t3, t4, -⟩ := sc g (e1.1 0 (by omega))
    refine ⟨w, ?_, p2, e2⟩
    unfold st_law_14
    simp only [s1, s2, s3, s4, gq_48 c hn, Option.bind_some, k1, t1, t2, t3, t4, gq_159 p1 hn, k2, if_true]
  have no : (mm_in (x 1) 0 (fI h 49 5 - 1) = 0 ∨ mm_in (x 2) 0 3 = 0 ∨ mm_in (x 3) 0 14 = 0 ∨ mm_in (x 4) 0 1499 = 0) → ∃ g, st_law_14 K h n l3 kc ks = some (g, n, kc, ks) ∧ PS g ∧ SW h g := fun hh => by
    refine fin (-2000000000) h h ?_ c SW.id_ ?_ c SW.id_
    · unfold q_X10_allowed q_X10_isFirmsYear
      simp only [gq_48 c hn, y_X10_isFirm c hn uF, Option.bind_some, z_X10_isWithin, z_X10_isHead, z_X10_isDay]
      by_cases b1 : mm_in (x 1) 0 (fI h 49 5 - 1) = 0
      · simp only [b1, if_true, Option.bind_some]
      by_cases b3 : mm_in (x 3) 0 14 = 0
      · simp only [b1, b3, if_true, if_false, Option.bind_some]
      by_cases b2 : mm_in (x 2) 0 3 = 0
      · simp only [b1, b2, b3, n10, if_true, if_false, Option.bind_some]
      by_cases b4 : mm_in (x 4) 0 1499 = 0
      · simp only [b1, b2, b3, b4, n10, if_true, if_false, Option.bind_some]
      · exact absurd hh (by simp only [b1, b2, b3, b4, or_self, not_false_eq_true])
    · unfold q_X11_allowed
      simp only [gq_159 c hn, y_X11_isFirm c hn uF, Option.bind_some, z_X11_isHead, z_X11_isYear, z_X11_isDay]
      by_cases b1 : mm_in (x 1) 0 (fI h 49 5 - 1) = 0
      · simp only [b1, if_true]
      by_cases b2 : mm_in (x 2) 0 3 = 0
      · simp only [b1, b2, if_true, if_false]
      by_cases b3 : mm_in (x 3) 0 14 = 0
      · simp only [b1, b2, b3, if_true, if_false]
      by_cases b4 : mm_in (x 4) 0 1499 = 0
      · simp only [b1, b2, b3, b4, if_true, if_false]
      · exact absurd hh (by simp only [b1, b2, b3, b4, or_self, not_false_eq_true])
  by_cases a1 : mm_in (x 1) 0 (fI h 49 5 - 1) = 0
  · exact no (Or.inl a1)
  by_cases a2 : mm_in (x 2) 0 3 = 0
  · exact no (Or.inr (Or.inl a2))
  by_cases a3 : mm_in (x 3) 0 14 = 0
  · exact no (Or.inr (Or.inr (Or.inl a3)))
  by_cases a4 : mm_in (x 4) 0 1499 = 0
  · exact no (Or.inr (Or.inr (Or.inr a4)))
  obtain ⟨fm, hfm, hfm10, F, hF⟩ := in_firm uF a1
  sorry
end ALLOWED

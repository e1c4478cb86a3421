/-! ===== the call allowed ===== -/
section ALLOWED
variable {K n : Nat} {h : mm_H}
theorem ME.sw {g : mm_H} (m : ME h g) : SW h g := ⟨fun a q => m a (by omega), fun k _ _ _ _ => fI_c (m 159 (by omega)) k⟩
theorem z_allowedOf (hK : 3000 ≤ K) (c : PS h) (hn : 208 ≤ n) (j : JR h) {F f y hd : Nat} {d z : Int32} {b : Option Nat} {w : Nat → Int64} {L : List Stm} (uF : fI h 49 5 = ni F) (hF : F ≤ 11) (hf : f < F) (hy : y ≤ 14) (hhd : hd ≤ 3) (so : SO K n h (y / 5) z) (R : RS h n b z L) (hw : ∀ i, i < 5 → wdW (ni y).toInt64 (ni f).toInt64 (iA h 201 y).toInt64 (jA h 200 y) (iA h 202 y).toInt64 i = w i) : ∃ g, q_X11_allowedOf K h n 159 (ni f) (ni hd) (ni y) d = some (Int64.toInt32 (allS h F f y hd d w L), g) ∧ PS g ∧ SX h g := by
  obtain ⟨q0, q1, q2, q3, q4, q5, m, hm, hm20, hB⟩ := id j.2.2.2.2.1
  obtain ⟨v, e1, e2⟩ := z_bnM (K := K) c hn j.2.2.2.2.1 (ni f) (ni hd) (ni y) d m K hm20 (by omega)
  have em : ni m - 1 = ni m + (-1) := by rw [Int32.sub_eq_add_neg]
  unfold q_X11_allowedOf allS
  rw [hm, ni_tn (by omega)]
  simp only [g_159_9 c hn, q0, hm, Option.bind_some, em, e1]
  cases qb : bnS h (ni f) (ni hd) (ni y) d m with
  | some i =>
    rw [qb] at e2
    obtain ⟨v1, v2⟩ : v.1 = 0 ∧ v.2 = ni i := e2
    have hi := bnS_lt h _ _ _ _ m i qb
    have i20 : inb (ni i) 20 = true := ni_inb (by omega) (by omega)
    have ti : (ni i).toNatClampNeg = i := ni_tn (by omega)
    rw [if_pos v1]
    simp only [g_159_18 c hn, ge_172 c hn, v2, i20, ti, if_true, Option.bind_some, q4]
    refine ⟨h, ?_, c, SE.id_.sx⟩
    show some (iA h 65 i, h) = some (Int64.toInt32 (iA h 65 i).toInt64, h)
    rw [i32_64]
  | none =>
    rw [qb] at e2
    have v1 : v.1 = 1 := e2
    rw [if_neg (by rw [v1]; decide), if_pos v1, gq_159 c hn]
    obtain ⟨g, s1, s2, s3⟩ := z_statement hK c hn (k := 0) (o := hd) hy (by omega) (by omega) so R hw
    have s1' : q_X11_statement K h n 159 (ni f) (ni y) 0 (ni hd) = some (bI z.toNatClampNeg (lastS w 0 hd L 0 none), g) := s1
    simp only [Option.bind_some, s1', gq_159 s2 hn]
    cases ql : lastS w 0 hd L 0 none with
    | none =>
      have ab : q_X11_allowedBy K g n 159 (bI z.toNatClampNeg none) (ni f) (ni hd) (ni y) = some (0, g) := by
        unfold q_X11_allowedBy
        rw [if_pos (show bI z.toNatClampNeg none = -1 from rfl)]
      simp only [ab, Option.bind_some]
      exact ⟨g, rfl, s2, SX.of s3⟩
    | some i =>
      obtain ⟨s, es, k0, o0⟩ := lastS_at w 0 hd [] L none (fun j ej => by cases ej) i ql
      have es' : L[i]? = some s := es
      have hi := lastS_lt w 0 hd L 0 none (fun j ej => by cases ej) i ql
      rcases R with ⟨-, -, e⟩ | ⟨p', w0, B, a, b', -, rfl, hw0, hB', bk, hL, ok, N, hN, st⟩
      · rw [e, List.length_nil] at hi; omega
      · have st' : setR g w0 L N := setR_c (fun a l1 l2 => s3 a (by omega)) st
        have jg : JR g := JR_c (fun a q => s3 a (by omega)) j
        obtain ⟨g', a1, a2, a3⟩ := z_allowedBy hK s2 hn jg (F := F) (f := f) (y := y) ((fI_c (s3 49 (by decide)) 5).trans uF) hF hf hy (by omega) (st'.2.2 i s es') (ok s (List.mem_of_getElem? es')) k0 o0
        have eb : bI (ni w0).toNatClampNeg (some i) = ni (300 * w0 + i) := by rw [ni_tn (by omega)]; rfl
        have ts : toldS g F f y s = toldS h F f y s := by
          have ek : kn g = kn h := kn_c (fun a _ _ => s3 a (by omega))
          unfold toldS
          rw [ek, PtL_c ek, drS_c ek]
        rw [ts] at a1
        simp only [eb, a1, Option.bind_some, es']
        exact ⟨g', rfl, a2, (SX.of s3).trans a3.sx⟩
theorem bnS_c {g : mm_H} (e : ∀ a, a < 73 → g a = h a) (f hd y d : Int32) : ∀ i, bnS g f hd y d i = bnS h f hd y d i
  | 0 => rfl
  | i + 1 => by
    unfold bnS
    rw [bnS_c e f hd y d i, iA_c (e 62 (by omega)), iA_c (e 63 (by omega)), iA_c (e 64 (by omega)), iA_c (e 66 (by omega))]
theorem toldS_c {g : mm_H} (e : ∀ a, a < 73 → g a = h a) (F f y : Nat) (s : Stm) : toldS g F f y s = toldS h F f y s := by
  have ek : kn g = kn h := kn_c (fun a _ _ => e a (by omega))
  unfold toldS
  rw [ek, PtL_c ek, drS_c ek]
theorem allS_c {g : mm_H} (e : ∀ a, a < 73 → g a = h a) (F f y hd : Nat) (d : Int32) (w : Nat → Int64) (L : List Stm) : allS g F f y hd d w L = allS h F f y hd d w L := by
  unfold allS
  rw [bnS_c e, fI_c (e 61 (by omega)) 5, iA_c (e 65 (by omega))]
  cases bnS h (ni f) (ni hd) (ni y) d (fI h 61 5).toNatClampNeg with
  | some i => rfl
  | none =>
    cases lastS w 0 hd L 0 none with
    | none => rfl
    | some i =>
      cases q : L[i]? with
      | none => simp only [q]
      | some s => simp only [q, toldS_c e]
theorem S_14 (hK : 3000 ≤ K) {l3 : Int32} {kc ks : Nat} {x : Nat → Int32} (c : PS h) (hn : 208 ≤ n) (j : JR h) (jn : JN h) (jk : JK h n) (sc : SCR (h 0) n l3 x) : ∃ g, st_law_14 K h n l3 kc ks = some (g, n, kc, ks) ∧ PS g ∧ SW h g := by
  obtain ⟨s1, s2, s3, s4, -⟩ := sc h rfl
  have uF := j.2.1
  have n10 : ¬ (1 : Int32) = 0 := by decide
  have fin : ∀ (v : Int32) (g w : mm_H), q_X10_allowed K h n 48 (x 1) (x 2) (x 3) (x 4) = some (v, g) → PS g → SW h g → q_X11_allowed K g n 159 (x 1) (x 2) (x 3) (x 4) = some (v, w) → PS w → SW h w → ∃ g, st_law_14 K h n l3 kc ks = some (g, n, kc, ks) ∧ PS g ∧ SW h g := by
    intro v g w k1 p1 e1 k2 p2 e2
    obtain ⟨t1, t2, t3, t4, -⟩ := sc g (e1.1 0 (by omega))
    refine ⟨w, ?_, p2, e2⟩
    unfold st_law_14
    simp only [s1, s2, s3, s4, gq_48 c hn, Option.bind_some, k1, t1, t2, t3, t4, gq_159 p1 hn, k2, if_true]
  have no : (mm_in (x 1) 0 (fI h 49 5 - 1) = 0 ∨ mm_in (x 2) 0 3 = 0 ∨ mm_in (x 3) 0 14 = 0 ∨ mm_in (x 4) 0 1499 = 0) → ∃ g, st_law_14 K h n l3 kc ks = some (g, n, kc, ks) ∧ PS g ∧ SW h g := fun hh => by
    refine fin (-2000000000) h h ?_ c SW.id_ ?_ c SW.id_
    · unfold q_X10_allowed q_X10_isFirmsYear
      simp only [gq_48 c hn, y_X10_isFirm c hn uF, Option.bind_some, z_X10_isWithin, z_X10_isHead, z_X10_isDay]
      by_cases b1 : mm_in (x 1) 0 (fI h 49 5 - 1) = 0
      · simp only [b1, if_true, Option.bind_some]
      by_cases b3 : mm_in (x 3) 0 14 = 0
      · simp only [b1, b3, if_true, if_false, Option.bind_some]
      by_cases b2 : mm_in (x 2) 0 3 = 0
      · simp only [b1, b2, b3, n10, if_true, if_false, Option.bind_some]
      by_cases b4 : mm_in (x 4) 0 1499 = 0
      · simp only [b1, b2, b3, b4, n10, if_true, if_false, Option.bind_some]
      · exact absurd hh (by simp only [b1, b2, b3, b4, or_self, not_false_eq_true])
    · unfold q_X11_allowed
      simp only [gq_159 c hn, y_X11_isFirm c hn uF, Option.bind_some, z_X11_isHead, z_X11_isYear, z_X11_isDay]
      by_cases b1 : mm_in (x 1) 0 (fI h 49 5 - 1) = 0
      · simp only [b1, if_true]
      by_cases b2 : mm_in (x 2) 0 3 = 0
      · simp only [b1, b2, if_true, if_false]
      by_cases b3 : mm_in (x 3) 0 14 = 0
      · simp only [b1, b2, b3, if_true, if_false]
      by_cases b4 : mm_in (x 4) 0 1499 = 0
      · simp only [b1, b2, b3, b4, if_true, if_false]
      · exact absurd hh (by simp only [b1, b2, b3, b4, or_self, not_false_eq_true])
  by_cases a1 : mm_in (x 1) 0 (fI h 49 5 - 1) = 0
  · exact no (Or.inl a1)
  by_cases a2 : mm_in (x 2) 0 3 = 0
  · exact no (Or.inr (Or.inl a2))
  by_cases a3 : mm_in (x 3) 0 14 = 0
  · exact no (Or.inr (Or.inr (Or.inl a3)))
  by_cases a4 : mm_in (x 4) 0 1499 = 0
  · exact no (Or.inr (Or.inr (Or.inr a4)))
  obtain ⟨fm, hfm, hfm10, hF1, hF2⟩ := in_firm uF a1
  obtain ⟨hd, hhd, ehd⟩ := mm_in_nat (N := 3) (by omega) a2
  obtain ⟨y, hy, ey⟩ := mm_in_nat (N := 14) (by omega) a3
  obtain ⟨F0, hF0, hF11⟩ := id uF.1
  have hF : (fI h 49 5).toNatClampNeg ≤ 11 := by rw [hF0, ni_tn (by omega)]; exact hF11
  generalize hFF : (fI h 49 5).toNatClampNeg = F at hF1 hF2 hF
  obtain ⟨g, Ls, e1, p1, o1, b11, b12, cy, w1, R1⟩ := z_openOwn hK c hn j jk jn hfm10 hy (x 4)
  have e73 : ∀ a, a < 73 → g a = h a := fun a ha => o1 a (by omega)
  obtain ⟨z, Rz, sz⟩ := R1 (y / 5) (by omega)
  have jg : JR g := JR_c (fun a q => o1 a (by omega)) j
  have uFg : fI g 49 5 = ni F := (fI_c (e73 49 (by omega)) 5).trans hF1
  obtain ⟨g2, f1, f2, f3⟩ := z_allowedFor hK p1 hn jg (F := F) (f := fm) (y := y) (hd := hd) uFg hF hF2 hy hhd b11 b12 (RS_c (fun a q => o1 a (by omega)) Rz) ((cy y (by omega)).1 0 hd (Or.inl ⟨by omega, hhd⟩))
  have o2 : ∀ a, a < 73 ∨ (151 ≤ a ∧ a ≤ 158) ∨ (160 ≤ a ∧ a ≤ 199) ∨ a = 207 ∨ 208 ≤ a → g2 a = h a := fun a q => (f3.1 a (by omega)).trans (o1 a (by omega))
  have q2 : ∀ k, k ≠ 1000 → k ≠ 1001 → k ≠ 65 → k ≠ 66 → fI g2 159 k = fI h 159 k := fun k l1 l2 l3 l4 => (f3.2.1 k l1 l2 l3 l4).trans (fI_c (o1 159 (by omega)) k)
  have sw2 : SW h g2 := ⟨o2, q2⟩
  have j2 : JR g2 := SW_JR sw2 j
  have e73' : ∀ a, a < 73 → g2 a = h a := fun a ha => o2 a (by omega)
  have qe2 : QE h g2 := ⟨fun a _ _ => o2 a (by omega), q2 24 (by decide) (by decide) (by decide) (by decide), q2 56 (by decide) (by decide) (by decide) (by decide), q2 57 (by decide) (by decide) (by decide) (by decide)⟩
  obtain ⟨w, u1, u2, u3, u4⟩ := z_prepares hK f2 hn j2 hfm10 (Ls := Ls) (fun r hr => by
    obtain ⟨z', r1, r2⟩ := R1 r hr
    exact ⟨_, z', RS_c (fun a q => o2 a (by omega)) r1, r2.qe qe2⟩)
  have hw := u4.w (y := y) (by omega)
  rw [wwS_c e73'] at hw
  have jw : JR w := JR_c (fun a q => u3 a (by omega)) j2
  have e73w : ∀ a, a < 73 → w a = h a := fun a ha => (u3 a (by omega)).trans (e73' a ha)
  obtain ⟨w', v1, v2, v3⟩ := z_allowedOf hK u2 hn jw (F := F) (f := fm) (y := y) (hd := hd) (d := x 4) ((fI_c (e73w 49 (by omega)) 5).trans hF1) hF hF2 hy hhd ((sz.qe qe2).me u3) (RS_c (fun a q => by rw [u3 a (by omega)]; exact o2 a (by omega)) Rz) hw
  have sw3 : SW h w' := sw2.trans (SW.trans u3.sw v3.sw)
  have a1' : ¬ mm_in (ni fm) 0 (fI h 49 5 - 1) = 0 := by rw [← hfm]; exact a1
  have a2' : ¬ mm_in (ni hd) 0 3 = 0 := by rw [← ehd]; exact a2
  have a3' : ¬ mm_in (ni y) 0 14 = 0 := by rw [← ey]; exact a3
  have f49 : fI g2 49 5 = fI h 49 5 := fI_c (e73' 49 (by omega)) 5
  rw [allS_c e73] at f1
  rw [allS_c e73w] at v1
  refine fin (Int64.toInt32 (allS h F fm y hd (x 4) (wwS h fm Ls y) (Ls (y / 5)))) g2 w' ?_ f2 sw2 ?_ v2 sw3
  · unfold q_X10_allowed q_X10_isFirmsYear
    rw [hfm, ehd, ey]
    simp only [gq_48 c hn, y_X10_isFirm c hn uF, Option.bind_some, z_X10_isWithin, z_X10_isHead, z_X10_isDay, a1', a2', a3', a4, n10, if_false, e1, g_48_1 p1 hn, gq_73 p1 hn, f1]
  · unfold q_X11_allowed
    rw [hfm, ehd, ey]
    simp only [gq_159 f2 hn, y_X11_isFirm f2 hn j2.2.1, f49, Option.bind_some, z_X11_isHead, z_X11_isYear, z_X11_isDay, a1', a2', a3', a4, if_false, u1, gq_159 u2 hn, v1]
end ALLOWED

/-! ===== the hole of a plan ===== -/
section HOLE
variable {K n : Nat} {h : mm_H}
/-- what a firm keeps by a plan of this many hundredths of its cost -/
def kpS (w : Nat → Int64) (L : List Stm) (hd : Nat) (s : Stm) (v b : Nat) : Int64 := -(brO w L hd (nj v - nj (v * b / 100) * (ni (sB s)).toInt64 / 100))
theorem MF.stm (hK : 3000 ≤ K) (hn : 208 ≤ n) {F f y k o : Nat} {Ls : Nat → List Stm} {g : mm_H} (u : MF K n h F f Ls g) (hy : y ≤ 14) (hk : k ≤ 8) (ho : o ≤ 3) : ∃ g' b z, RS g n b z (Ls (y / 5)) ∧ q_X11_statement K g n 159 (ni f) (ni y) (ni k) (ni o) = some (bI z.toNatClampNeg (lastS (wwS h f Ls y) k o (Ls (y / 5)) 0 none), g') ∧ MF K n h F f Ls g' ∧ SX g g' := by
  obtain ⟨b, z, R, so⟩ := u.2.2.2.2.2.1 (y / 5) (by omega)
  obtain ⟨g', e, p, s⟩ := z_statement hK u.1 hn (k := k) (o := o) hy hk ho so R (u.2.2.2.1 y (by omega))
  exact ⟨g', b, z, R, e, u.sx p (SX.of s), SX.of s⟩
theorem MF.keeps (hK : 3000 ≤ K) (hn : 208 ≤ n) {F f y hd r v b : Nat} {s : Stm} {Ls : Nat → List Stm} {g : mm_H} (u : MF K n h F f Ls g) (hy : y ≤ 14) (hhd : hd ≤ 3) (hr : r < 4200) (er : iA g 186 r = ni (sB s)) (hv : v ≤ 99999) (ev : kn h f y (3 + hd) (fI h 49 6) = ni v) (hb : b ≤ 120) : ∃ g', q_X11_keeps K g n 159 (ni f) (ni hd) (ni y) (ni r) (ni b) = some (kpS (wwS h f Ls y) (Ls (y / 5)) hd s v b, g') ∧ MF K n h F f Ls g' ∧ SX g g' := by
  have e3 : (3 : Int32) + ni hd = ni (3 + hd) := ni_add 3 _
  have kf := u.known hK hn hy (w := 3 + hd) (by omega) (fI h 49 6)
  have ir : inb (ni r) 4200 = true := ni_inb (by omega) hr
  have tr : (ni r).toNatClampNeg = r := ni_tn (by omega)
  have hvb : v * b ≤ 99999 * 120 := Nat.mul_le_mul hv hb
  have e1 : nj v * (ni b).toInt64 / 100 = nj (v * b / 100) := by
    rw [ni_nj (by omega), nj_mul]
    exact nj_div (b := 100) (by omega) (by omega)
  have cl : clampM (nj (v * b / 100)) = nj (v * b / 100) := by
    refine clampM_id ?_ ?_
    · rw [Int64.le_iff_toInt_le, nj_int (by omega)]
      show (0 : Int) ≤ _
      omega
    · rw [Int64.le_iff_toInt_le, nj_int (by omega)]
      show _ ≤ (999999 : Int)
      omega
  obtain ⟨g', b1, v1, s1⟩ := u.bears hK hn hy hhd (nj v - nj (v * b / 100) * (ni (sB s)).toInt64 / 100)
  refine ⟨g', ?_, v1, s1⟩
  unfold q_X11_keeps kpS
  simp only [u.today hn, gq_159 u.1 hn, Option.bind_some, e3, kf, ev, e1, z_X11_moded, cl, g_159_40 u.1 hn, ge_186 u.1 hn, ir, tr, if_true, er, ni_nj (show v < 2147483648 by omega), b1]
theorem CF.kept (hn : 208 ≤ n) {F f Y y hd p : Nat} {d : Int32} {s : Stm} {Ls : Nat → List Stm} {g : mm_H} (u : CF n h F f d Ls Y g) (hY : Y ≤ 15) (hy : y < Y) (hhd : hd ≤ 3) (rr : ruleC g n p s) (k0 : sK s = 0) (ra : q_X7_ruleAt K g n 73 (ni y) 0 (ni hd) = some (some p)) (a b : Int64) : q_X7_keptByPlan K g n 73 (ni y) (ni hd) a b = some (-(brO (wwS h f Ls y) (Ls (y / 5)) hd (a - b * (ni (sB s)).toInt64 / 100))) := by
  obtain ⟨hp, hpn, w, e1, -⟩ := id rr
  have r4 : rdI g n p 5 4 = some (ni (sB s)) := by
    have := rdI_o (n := n) (k := 4) (x := if sK s = 0 then ni (sB s) else ni (sA s)) (by omega) e1 rfl
    rw [if_pos k0] at this
    exact this
  have bp := u.borne hn (K := K) hY hy hhd (a - b * (ni (sB s)).toInt64 / 100)
  unfold q_X7_keptByPlan
  simp only [gq_73 u.1 hn, Option.bind_some, ra, r4, q_X8_hundredths, bp]
theorem z_holeC (hn : 208 ≤ n) {F f Y y hd p v : Nat} {d what : Int32} {s : Stm} {Ls : Nat → List Stm} {g : mm_H} (u : CF n h F f d Ls Y g) (hY : Y ≤ 15) (hy : y < Y) (hhd : hd ≤ 3) (rr : ruleC g n p s) (k0 : sK s = 0) (ra : q_X7_ruleAt K g n 73 (ni y) 0 (ni hd) = some (some p)) (hv : v ≤ 99999) : ∀ (m x b k : Nat), x + 5 * m = 125 → m < k → b ≤ 120 → ∃ b', b' ≤ 120 ∧ lp_X10_hole_146 K g n 48 (ni hd) (ni y) what (ni v) k (ni b) (kpS (wwS h f Ls y) (Ls (y / 5)) hd s v b) (ni x) = some (ni b', kpS (wwS h f Ls y) (Ls (y / 5)) hd s v b') ∧ ∀ (hK : 3000 ≤ K) (w : mm_H) (r : Nat), MF K n h F f Ls w → r < 4200 → iA w 186 r = ni (sB s) → kn h f y (3 + hd) (fI h 49 6) = ni v → ∃ w', lp_X11_hole_115 K n 159 (ni f) (ni hd) (ni y) what (ni r) k (ni b) (ni x) w = some (ni b', w') ∧ MF K n h F f Ls w' ∧ SX w w' := by
  intro m
  induction m with
  | zero =>
    intro x b k hx hk hb
    obtain ⟨k, rfl⟩ : ∃ z, k = z + 1 := ⟨k - 1, by omega⟩
    have : x = 125 := by omega
    subst this
    refine ⟨b, hb, ?_, fun hK w r u' hr er ev => ?_⟩
    · unfold lp_X10_hole_146
      rw [if_pos (by decide)]
    · unfold lp_X11_hole_115
      rw [if_pos (by decide)]
      exact ⟨w, rfl, u', SX.id_⟩
  | succ m ih =>
    intro x b k hx hk hb
    obtain ⟨k, rfl⟩ : ∃ z, k = z + 1 := ⟨k - 1, by omega⟩
    have n1 : ¬ (120 : Int32) < ni x := fun q => by have := (ni_lt (a := 120) (by omega) (by omega)).mp q; omega
    have e5 : ni x + 5 = ni (x + 5) := ni_add x 5
    have ct : q_X8_cut K g n (nj v * (ni x).toInt64) 100 = some (nj (v * x / 100)) := by
      have hvb : v * x ≤ 99999 * 120 := Nat.mul_le_mul hv (by omega)
      unfold q_X8_cut
      rw [if_neg (by decide), if_neg (by decide), ni_nj (by omega), nj_mul]
      exact congrArg some (nj_div (b := 100) (by omega) (by omega))
    have kc := u.kept hn (K := K) hY hy hhd rr k0 ra (ni v).toInt64 (nj (v * x / 100))
    rw [ni_nj (by omega)] at kc
    have kc' : q_X7_keptByPlan K g n 73 (ni y) (ni hd) (nj v) (nj (v * x / 100)) = some (kpS (wwS h f Ls y) (Ls (y / 5)) hd s v x) := kc
    have st : ∀ bb : Nat, bb ≤ 120 → (if kpS (wwS h f Ls y) (Ls (y / 5)) hd s v x ≤ kpS (wwS h f Ls y) (Ls (y / 5)) hd s v b then b else x) = bb → ∃ b', b' ≤ 120 ∧ lp_X10_hole_146 K g n 48 (ni hd) (ni y) what (ni v) (k + 1) (ni b) (kpS (wwS h f Ls y) (Ls (y / 5)) hd s v b) (ni x) = some (ni b', kpS (wwS h f Ls y) (Ls (y / 5)) hd s v b') ∧ ∀ (hK : 3000 ≤ K) (w : mm_H) (r : Nat), MF K n h F f Ls w → r < 4200 → iA w 186 r = ni (sB s) → kn h f y (3 + hd) (fI h 49 6) = ni v → ∃ w', lp_X11_hole_115 K n 159 (ni f) (ni hd) (ni y) what (ni r) (k + 1) (ni b) (ni x) w = some (ni b', w') ∧ MF K n h F f Ls w' ∧ SX w w' := by
      intro bb h1 h3
      obtain ⟨b', i1, i2, i3⟩ := ih (x + 5) bb k (by omega) (by omega) h1
      refine ⟨b', i1, ?_, fun hK w r u' hr er ev => ?_⟩
      · unfold lp_X10_hole_146
        simp only [n1, if_false, g_48_1 u.1 hn, Option.bind_some, ct, gq_73 u.1 hn, ni_nj (show v < 2147483648 by omega), kc', lg_cmp_le, e5]
        by_cases q : kpS (wwS h f Ls y) (Ls (y / 5)) hd s v x ≤ kpS (wwS h f Ls y) (Ls (y / 5)) hd s v b
        · rw [if_pos q] at h3
          rw [← h3] at i2
          rw [if_pos q]
          exact i2
        · rw [if_neg q] at h3
          rw [← h3] at i2
          rw [if_neg q]
          exact i2
      · obtain ⟨w1, k1, m1, x1⟩ := u'.keeps hK hn (y := y) (b := x) (by omega) hhd hr er hv ev (by omega)
        have er1 : iA w1 186 r = ni (sB s) := by rw [iA_c (x1.1 186 (by omega))]; exact er
        obtain ⟨w2, k2, m2, x2⟩ := m1.keeps hK hn (y := y) (b := b) (by omega) hhd hr er1 hv ev hb
        have er2 : iA w2 186 r = ni (sB s) := by rw [iA_c (x2.1 186 (by omega))]; exact er1
        obtain ⟨w', j1, j2, j3⟩ := i3 hK w2 r m2 hr er2 ev
        refine ⟨w', ?_, j2, (x1.trans x2).trans j3⟩
        unfold lp_X11_hole_115
        simp only [n1, if_false, gq_159 u'.1 hn, Option.bind_some, k1, gq_159 m1.1 hn, k2, lg_cmp_le, e5]
        by_cases q : kpS (wwS h f Ls y) (Ls (y / 5)) hd s v x ≤ kpS (wwS h f Ls y) (Ls (y / 5)) hd s v b
        · rw [if_pos q] at h3
          rw [← h3] at j1
          rw [if_pos q]
          exact j1
        · rw [if_neg q] at h3
          rw [← h3] at j1
          rw [if_neg q]
          exact j1
    refine st _ ?_ rfl
    split <;> omega
theorem S_22 (hK : 3000 ≤ K) {l3 : Int32} {kc ks : Nat} {x : Nat → Int32} (c : PS h) (hn : 208 ≤ n) (j : JR h) (jn : JN h) (jk : JK h n) (sc : SCR (h 0) n l3 x) : ∃ g, st_law_22 K h n l3 kc ks = some (g, n, kc, ks) ∧ PS g ∧ SW h g := by
  obtain ⟨s1, s2, s3, s4, -⟩ := sc h rfl
  have uF := j.2.1
  have n10 : ¬ (1 : Int32) = 0 := by decide
  have fin : ∀ (v : Int64) (g w : mm_H), q_X10_hole K h n 48 (x 1) (x 2) (x 3) (x 4) = some (v, g) → PS g → SW h g → q_X11_hole K g n 159 (x 1) (x 2) (x 3) (x 4) = some (v, w) → PS w → SW h w → ∃ g, st_law_22 K h n l3 kc ks = some (g, n, kc, ks) ∧ PS g ∧ SW h g := by
    intro v g w k1 p1 e1 k2 p2 e2
    obtain ⟨t1, t2, t3, t4, -⟩ := sc g (e1.1 0 (by omega))
    refine ⟨w, ?_, p2, e2⟩
    unfold st_law_22
    simp only [s1, s2, s3, s4, gq_48 c hn, Option.bind_some, k1, t1, t2, t3, t4, gq_159 p1 hn, k2, lg_cmp_eq, if_true]
  have no : (mm_in (x 1) 0 (fI h 49 5 - 1) = 0 ∨ mm_in (x 2) 0 3 = 0 ∨ mm_in (x 3) 0 14 = 0 ∨ mm_in (x 4) 0 2 = 0) → ∃ g, st_law_22 K h n l3 kc ks = some (g, n, kc, ks) ∧ PS g ∧ SW h g := fun hh => by
    refine fin (-2000000000000) h h ?_ c SW.id_ ?_ c SW.id_
    · unfold q_X10_hole
      simp only [gq_48 c hn, y_X10_isFirmsYear c hn uF, Option.bind_some, z_X10_isWithin, z_X10_isHead]
      by_cases b1 : mm_in (x 1) 0 (fI h 49 5 - 1) = 0
      · simp only [b1, if_true]
      by_cases b3 : mm_in (x 3) 0 14 = 0
      · simp only [b1, b3, if_true, if_false]
      by_cases b2 : mm_in (x 2) 0 3 = 0
      · simp only [b1, b2, b3, n10, if_true, if_false]
      by_cases b4 : mm_in (x 4) 0 2 = 0
      · simp only [b1, b2, b3, b4, n10, if_true, if_false]
      · exact absurd hh (by simp only [b1, b2, b3, b4, or_self, not_false_eq_true])
    · unfold q_X11_hole
      simp only [gq_159 c hn, y_X11_isFirm c hn uF, Option.bind_some, z_X11_isHead, z_X11_isYear, z_X11_isIn]
      by_cases b1 : mm_in (x 1) 0 (fI h 49 5 - 1) = 0
      · simp only [b1, if_true]
      by_cases b2 : mm_in (x 2) 0 3 = 0
      · simp only [b1, b2, if_true, if_false]
      by_cases b3 : mm_in (x 3) 0 14 = 0
      · simp only [b1, b2, b3, if_true, if_false]
      by_cases b4 : mm_in (x 4) 0 2 = 0
      · simp only [b1, b2, b3, b4, if_true, if_false]
      · exact absurd hh (by simp only [b1, b2, b3, b4, or_self, not_false_eq_true])
  by_cases a1 : mm_in (x 1) 0 (fI h 49 5 - 1) = 0
  · exact no (Or.inl a1)
  by_cases a2 : mm_in (x 2) 0 3 = 0
  · exact no (Or.inr (Or.inl a2))
  by_cases a3 : mm_in (x 3) 0 14 = 0
  · exact no (Or.inr (Or.inr (Or.inl a3)))
  by_cases a4 : mm_in (x 4) 0 2 = 0
  · exact no (Or.inr (Or.inr (Or.inr a4)))
  obtain ⟨f, F, ea, eF, hF, hf⟩ := ok_firm uF a1
  obtain ⟨hd, hhd, ehd⟩ := mm_in_nat (N := 3) (by omega) a2
  obtain ⟨y, hy, ey⟩ := mm_in_nat (N := 14) (by omega) a3
  obtain ⟨g, Ls, e1, u, sw, R⟩ := z_openCF hK c hn j jk jn eF hF hf hy (fI h 49 6)
  obtain ⟨w, e3, m3, sw3⟩ := z_mfOwn hK hn j eF hF hf R u.1 sw
  obtain ⟨w1, b, z, Rw, e4, m4, s4'⟩ := m3.stm hK hn hy (k := 0) (o := hd) (by omega) hhd
  have sw4 : SW h w1 := sw3.trans s4'.sw
  have e4' : q_X11_statement K w n 159 (ni f) (ni y) 0 (ni hd) = some (bI z.toNatClampNeg (lastS (wwS h f Ls y) 0 hd (Ls (y / 5)) 0 none), w1) := e4
  have a1' : ¬ mm_in (ni f) 0 (fI h 49 5 - 1) = 0 := by rw [← ea]; exact a1
  have a2' : ¬ mm_in (ni hd) 0 3 = 0 := by rw [← ehd]; exact a2
  have a3' : ¬ mm_in (ni y) 0 14 = 0 := by rw [← ey]; exact a3
  have f49 : fI g 49 5 = fI h 49 5 := fI_c (sw.1 49 (by omega)) 5
  have f496 : fI g 49 6 = fI h 49 6 := fI_c (sw.1 49 (by omega)) 6
  have e3' : (3 : Int32) + ni hd = ni (3 + hd) := ni_add 3 _
  have kc := u.known hK hn hy (w := 3 + hd) (by omega) (fI h 49 6)
  have km := m4.known hK hn hy (w := 3 + hd) (by omega) (fI h 49 6)
  have kin := kn_in j.2.2.1 (f := f) (y := y) (w := 3 + hd) (by omega) hy (by omega) (fI h 49 6)
  have td := m4.today hn
  obtain ⟨zc, Rc⟩ := u.2.2.2.2.2.2.2.1 (y / 5) (by omega)
  have preC : ∀ r, (if kn h f y (3 + hd) (fI h 49 6) = -1 then some (-2000000000000, g) else (q_X7_isByPlan K g n 73 (ni y) (ni hd)).bind fun v43 => if v43 = 0 then some ((-2000000000000), g) else if x 4 = 2 then (q_X7_keptByPlan K g n 73 (ni y) (ni hd) (Int32.toInt64 (kn h f y (3 + hd) (fI h 49 6))) (Int32.toInt64 (kn h f y (3 + hd) (fI h 49 6)))).bind fun v51 => some (v51, g) else (q_X8_cut K g n ((Int32.toInt64 (kn h f y (3 + hd) (fI h 49 6))) * (Int32.toInt64 80)) 100).bind fun v55 => (q_X7_keptByPlan K g n 73 (ni y) (ni hd) (Int32.toInt64 (kn h f y (3 + hd) (fI h 49 6))) v55).bind fun v61 => (lp_X10_hole_146 K g n 48 (ni hd) (ni y) (x 4) (kn h f y (3 + hd) (fI h 49 6)) K 80 v61 85).bind fun v73 => if x 4 = 0 then some (v73.2, g) else some (Int32.toInt64 v73.1, g)) = some r → q_X10_hole K h n 48 (x 1) (x 2) (x 3) (x 4) = some r := fun r er => by
    unfold q_X10_hole
    rw [ea, ehd, ey]
    simp only [gq_48 c hn, y_X10_isFirmsYear c hn uF, Option.bind_some, z_X10_isWithin, z_X10_isHead, a1', a2', a3', a4, n10, if_false, g_48_0 c hn, g_49_6 c hn, e1, g_48_0 u.1 hn, g_49_1 u.1 hn, g_49_6 u.1 hn, f496, gq_51 u.1 hn, e3', kc, g_48_1 u.1 hn, gq_73 u.1 hn]
    exact er
  have preM : ∀ r, (if bI z.toNatClampNeg (lastS (wwS h f Ls y) 0 hd (Ls (y / 5)) 0 none) = -1 then some ((-2000000000000), w1) else (ldI w1 n 184 (bI z.toNatClampNeg (lastS (wwS h f Ls y) 0 hd (Ls (y / 5)) 0 none))).bind fun v24 => if v24 = 3 then (if kn h f y (3 + hd) (fI h 49 6) = -1 then some ((-2000000000000), w1) else if x 4 = 2 then (q_X11_keeps K w1 n 159 (ni f) (ni hd) (ni y) (bI z.toNatClampNeg (lastS (wwS h f Ls y) 0 hd (Ls (y / 5)) 0 none)) 100).bind fun v34 => some (v34.1, v34.2) else (lp_X11_hole_115 K n 159 (ni f) (ni hd) (ni y) (x 4) (bI z.toNatClampNeg (lastS (wwS h f Ls y) 0 hd (Ls (y / 5)) 0 none)) K 80 85 w1).bind fun v44 => if x 4 = 0 then (ckq v44.2 n 159 10).bind fun u46 => (q_X11_keeps K v44.2 n 159 (ni f) (ni hd) (ni y) (bI z.toNatClampNeg (lastS (wwS h f Ls y) 0 hd (Ls (y / 5)) 0 none)) v44.1).bind fun v48 => some (v48.1, v48.2) else some (Int32.toInt64 v44.1, v44.2)) else some ((-2000000000000), w1)) = some r → q_X11_hole K g n 159 (x 1) (x 2) (x 3) (x 4) = some r := fun r er => by
    unfold q_X11_hole
    rw [ea, ehd, ey]
    simp only [gq_159 u.1 hn, y_X11_isFirm u.1 hn u.2.1.2.1, f49, Option.bind_some, z_X11_isHead, z_X11_isYear, z_X11_isIn, a1', a2', a3', a4, if_false, e3, gq_159 m3.1 hn, e4', g_159_38 m4.1 hn, gq_159 m4.1 hn, td, e3', km]
    exact er
  rcases z_ruleAt (K := K) u.1 hn hy Rc (k := 0) (o := hd) (Or.inl ⟨by omega, hhd⟩) ((u.2.2.2.2.2.1 y (by omega)).1 0 hd (Or.inl ⟨by omega, hhd⟩)) with ⟨q1, q2⟩ | ⟨i, s, p, q1, q2, k0, o0, os, q3, rr⟩
  · have q2' : q_X7_ruleAt K g n 73 (ni y) 0 (ni hd) = some none := q2
    have ib : q_X7_isByPlan K g n 73 (ni y) (ni hd) = some 0 := by
      unfold q_X7_isByPlan
      simp only [gq_73 u.1 hn, Option.bind_some, q2']
    refine fin (-2000000000000) g w1 (preC _ ?_) u.1 sw (preM _ ?_) m4.1 sw4
    · rw [ib, Option.bind_some, if_pos rfl, ite_self]
    · rw [q1, if_pos (show bI z.toNatClampNeg none = -1 from rfl)]
  · have q3' : q_X7_ruleAt K g n 73 (ni y) 0 (ni hd) = some (some p) := q3
    obtain ⟨hp, hpn, uu, ee, -⟩ := id rr
    have r2 : rdI g n p 5 2 = some (ni (sM s)) := by
      have := rdI_o (n := n) (k := 2) (x := if sK s = 0 ∨ sK s = 2 then ni (sM s) else 0) (by omega) ee rfl
      rw [if_pos (Or.inl k0)] at this
      exact this
    obtain ⟨o3, m3', a2'', b2⟩ := os.2.1 k0
    have em3 : (ni (sM s) = 3) = (sM s = 3) := propext (ni_inj (b := 3) (by omega) (by omega))
    have ib : q_X7_isByPlan K g n 73 (ni y) (ni hd) = some (if sM s = 3 then 1 else 0) := by
      unfold q_X7_isByPlan
      simp only [gq_73 u.1 hn, Option.bind_some, q3', r2, em3]
      by_cases q : sM s = 3
      · rw [if_pos q, if_pos q]
      · rw [if_neg q, if_neg q]
    have hi := lastS_lt _ 0 hd (Ls (y / 5)) 0 none (fun j ej => by cases ej) i q1
    rcases Rw with ⟨-, -, eL⟩ | ⟨p', w0, B, a, b', -, rfl, hw0, hB, bk, hL, ok, N, hN, st⟩
    · rw [eL, List.length_nil] at hi; omega
    have rw1 : iA w1 184 (300 * w0 + i) = ni (sM s) ∧ iA w1 186 (300 * w0 + i) = ni (sB s) := by
      obtain ⟨-, -, r3, -, r5, -⟩ := st.2.2 i s q2
      rw [iA_c (s4'.1 184 (by omega)), iA_c (s4'.1 186 (by omega))]
      exact ⟨r3 (Or.inl k0), r5 (by omega)⟩
    have eb : bI (ni w0).toNatClampNeg (lastS (wwS h f Ls y) 0 hd (Ls (y / 5)) 0 none) = ni (300 * w0 + i) := by
      rw [q1, ni_tn (by omega)]
      rfl
    have hr : 300 * w0 + i < 4200 := by omega
    have ir : inb (ni (300 * w0 + i)) 4200 = true := ni_inb (by omega) hr
    have tr : (ni (300 * w0 + i)).toNatClampNeg = 300 * w0 + i := ni_tn (by omega)
    have l184 : ldI w1 n 184 (ni (300 * w0 + i)) = some (ni (sM s)) := by rw [ge_184 m4.1 hn, if_pos ir, tr, rw1.1]
    have nb : ¬ ni (300 * w0 + i) = -1 := ni_n1 (by omega)
    rw [eb, l184] at preM
    by_cases h3 : sM s = 3
    · rcases kin with en | ⟨v, ev, hv⟩
      · refine fin (-2000000000000) g w1 (preC _ ?_) u.1 sw (preM _ ?_) m4.1 sw4
        · rw [if_pos en]
        · rw [if_neg nb, Option.bind_some, if_pos (em3.mpr h3), if_pos en]
      · have ne : ¬ kn h f y (3 + hd) (fI h 49 6) = -1 := by rw [ev]; exact ni_n1 (by omega)
        rw [if_neg ne, ib, if_pos h3, ev] at preC
        rw [if_neg nb, if_neg ne] at preM
        simp only [Option.bind_some, n10, if_false] at preC
        simp only [Option.bind_some] at preM
        rw [if_pos (em3.mpr h3)] at preM
        have kp : ∀ bb : Nat, bb ≤ 120 → q_X7_keptByPlan K g n 73 (ni y) (ni hd) (ni v).toInt64 (nj (v * bb / 100)) = some (kpS (wwS h f Ls y) (Ls (y / 5)) hd s v bb) := fun bb _ => by
          rw [u.kept hn (K := K) (by omega) (by omega) hhd rr k0 q3', ni_nj (show v < 2147483648 by omega)]
          rfl
        by_cases x2 : x 4 = 2
        · have k100 := kp 100 (by omega)
          rw [Nat.mul_div_cancel v (by omega), ← ni_nj (show v < 2147483648 by omega)] at k100
          obtain ⟨w', f1, f2, f3⟩ := m4.keeps hK hn hy hhd hr rw1.2 hv ev (b := 100) (by omega)
          have f1' : q_X11_keeps K w1 n 159 (ni f) (ni hd) (ni y) (ni (300 * w0 + i)) 100 = some (kpS (wwS h f Ls y) (Ls (y / 5)) hd s v 100, w') := f1
          refine fin (kpS (wwS h f Ls y) (Ls (y / 5)) hd s v 100) g w' (preC _ ?_) u.1 sw (preM _ ?_) f2.1 (sw4.trans f3.sw)
          · rw [if_pos x2, k100]
            rfl
          · rw [if_pos x2, f1']
            rfl
        · obtain ⟨b', hb', lc, lm⟩ := z_holeC (K := K) hn (what := x 4) u (by omega) (by omega) hhd rr k0 q3' hv 8 85 80 K rfl (by omega) (by omega)
          obtain ⟨w2, l1, l2, l3'⟩ := lm hK w1 _ m4 hr rw1.2 ev
          have er2 : iA w2 186 (300 * w0 + i) = ni (sB s) := by rw [iA_c (l3'.1 186 (by omega))]; exact rw1.2
          have ct : q_X8_cut K g n ((ni v).toInt64 * (Int32.toInt64 80)) 100 = some (nj (v * 80 / 100)) := by
            unfold q_X8_cut
            rw [if_neg (by decide), if_neg (by decide), show Int32.toInt64 80 = nj 80 from rfl, ni_nj (by omega), nj_mul]
            exact congrArg some (nj_div (b := 100) (by omega) (by omega))
          have lc' : lp_X10_hole_146 K g n 48 (ni hd) (ni y) (x 4) (ni v) K 80 (kpS (wwS h f Ls y) (Ls (y / 5)) hd s v 80) 85 = some (ni b', kpS (wwS h f Ls y) (Ls (y / 5)) hd s v b') := lc
          have l1' : lp_X11_hole_115 K n 159 (ni f) (ni hd) (ni y) (x 4) (ni (300 * w0 + i)) K 80 85 w1 = some (ni b', w2) := l1
          by_cases x0 : x 4 = 0
          · obtain ⟨w', f1, f2, f3⟩ := l2.keeps hK hn hy hhd hr er2 hv ev (b := b') hb'
            refine fin (kpS (wwS h f Ls y) (Ls (y / 5)) hd s v b') g w' (preC _ ?_) u.1 sw (preM _ ?_) f2.1 ((sw4.trans l3'.sw).trans f3.sw)
            · rw [if_neg x2, ct, Option.bind_some, kp 80 (by omega), Option.bind_some, lc', Option.bind_some, if_pos x0]
            · rw [if_neg x2, l1', Option.bind_some, if_pos x0, gq_159 l2.1 hn, Option.bind_some, f1]
              rfl
          · refine fin (ni b').toInt64 g w2 (preC _ ?_) u.1 sw (preM _ ?_) l2.1 (sw4.trans l3'.sw)
            · rw [if_neg x2, ct, Option.bind_some, kp 80 (by omega), Option.bind_some, lc', Option.bind_some, if_neg x0]
            · rw [if_neg x2, l1', Option.bind_some, if_neg x0]
    · refine fin (-2000000000000) g w1 (preC _ ?_) u.1 sw (preM _ ?_) m4.1 sw4
      · rw [ib, if_neg h3, Option.bind_some, if_pos rfl, ite_self]
      · rw [if_neg nb, Option.bind_some, if_neg (fun q => h3 (em3.mp q))]
end HOLE

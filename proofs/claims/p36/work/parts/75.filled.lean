/-! ===== the class's lines stand ===== -/
section FILLED
variable {K n : Nat} {h : mm_H}
theorem RW.keep {F f y m : Nat} {d : Int32} {Ls : Nat → List Stm} {g : mm_H} (r : RW h F f Ls d y m g) {m' : Nat} (hm : m ≤ m') (z : ∀ k, m ≤ k → k < m' → lnS h F f Ls d y k = 0) : RW h F f Ls d y m' g := by
  intro j hj
  rw [r j hj]
  by_cases q : j < m
  · rw [if_pos q, if_pos (by omega)]
  · rw [if_neg q]
    by_cases q2 : j < m'
    · rw [if_pos q2, z j (by omega) q2]
    · rw [if_neg q2]
theorem CF.fillOf (hK : 3000 ≤ K) (hn : 159 ≤ n) {F f Y y : Nat} {d : Int32} {Ls : Nat → List Stm} {g : mm_H} (u : CF n h F f d Ls Y g) (hY : Y ≤ 15) (hy : y < Y) (ha : ∀ i, i < 4 → jA g (109 + y) i = alS h F f Ls d y i) (hb : 0 < y → ∀ i, i < 4 → jA g (109 + (y - 1)) i = alS h F f Ls d (y - 1) i) : ∃ g', q_X7_fillLinesOf K g n 73 (ni y) = some g' ∧ CF n h F f d Ls Y g' ∧ CR (125 + y) g g' ∧ ∀ k, k < 15 → jA g' (125 + y) k = lnS h F f Ls d y k := by
  have y15 : y < 15 := by omega
  have y15' : ni y < 15 := (ni_lt (b := 15) (by omega) (by omega)).mpr y15
  have i15 : inb (ni y) 15 = true := ni_inb (by omega) y15
  have i16 : inb (ni y) 16 = true := ni_inb (by omega) (by omega)
  have ty : (ni y).toNatClampNeg = y := ni_tn (by omega)
  have e125 : 124 + 1 + y = 125 + y := by omega
  obtain ⟨g1, f1, p1, o1, z1⟩ := fillJ_row (n := n) hK u.1 (sh_125 y y15) (by omega) (by omega) (by omega) 0
  have c1 : CR (125 + y) g g1 := ⟨fun a q _ => o1 a q, fun k _ _ _ _ => fI_c (o1 159 (by omega)) k⟩
  have cs1 : CS g g1 := c1.cs (by omega) (by omega)
  have u1 := u.cs hY p1 cs1
  obtain ⟨g2, f2, u2, c2, r2⟩ := z_fl28 hK hn (F := F) (f := f) (d := d) (Ls := Ls) (h := h) hY hy 4 0 K g1 rfl (by omega) u1 (fun i hi => by rw [jA_c (o1 (109 + y) (by omega))]; exact ha i hi) (fun j hj => by rw [z1 j hj, if_neg (by omega)])
  have f2' : lp_X7_fillLinesOf_28 K n 73 (ni y) (some (125 + y)) K 0 0 g1 = some (smS h F f Ls d y 4, g2) := f2
  have n3 := u2.num hn hY hy (K := K) (k := 3) (by omega) (by omega)
  have n3' : q_X7_numberAt K g2 n 73 (ni y) 3 = some (numS (wwS h f Ls y) (Ls (y / 5)) 3 0) := n3
  have w2 := u2.2.2.2.2.2.2.1 y (by omega)
  have ct : ∀ v : Int64, q_X8_cut K g2 n v 1000 = some (v / 1000) := fun v => by
    unfold q_X8_cut
    rw [if_neg (by decide), if_neg (by decide)]
  have s3 : stJ g2 n (125 + y) 4 (wrS h f Ls y * (numS (wwS h f Ls y) (Ls (y / 5)) 3 0).toInt64 / 1000) = some (mm_sj g2 (125 + y) 4 (wrS h f Ls y * (numS (wwS h f Ls y) (Ls (y / 5)) 3 0).toInt64 / 1000)) := row_15 (m := 4) u2.1 hn y15 (by omega) _
  have r3 := r2.step u2.1 y15 (v := wrS h f Ls y * (numS (wwS h f Ls y) (Ls (y / 5)) 3 0).toInt64 / 1000) rfl
  have u3 := u2.row hY y15 (m := 4) (wrS h f Ls y * (numS (wwS h f Ls y) (Ls (y / 5)) 3 0).toInt64 / 1000)
  have c3 : CR (125 + y) g2 (mm_sj g2 (125 + y) 4 (wrS h f Ls y * (numS (wwS h f Ls y) (Ls (y / 5)) 3 0).toInt64 / 1000)) := CR.sj _ _ _ (by omega)
  generalize mm_sj g2 (125 + y) 4 (wrS h f Ls y * (numS (wwS h f Ls y) (Ls (y / 5)) 3 0).toInt64 / 1000) = g3 at s3 r3 u3 c3
  have du := (z_due (K := K) hK u3.1 hn u3.2.1.2.2.2.1 (f := f) (y := y)).1
  rw [duS_c u3.2.2.1, fI_c (u3.2.2.1 56 (by omega)) 4] at du
  have s4 : stJ g3 n (125 + y) 5 (duS h f y (fI h 56 4).toNatClampNeg) = some (mm_sj g3 (125 + y) 5 (duS h f y (fI h 56 4).toNatClampNeg)) := row_15 (m := 5) u3.1 hn y15 (by omega) _
  have r4 := r3.step u3.1 y15 (v := duS h f y (fI h 56 4).toNatClampNeg) rfl
  have u4 := u3.row hY y15 (m := 5) (duS h f y (fI h 56 4).toNatClampNeg)
  have c4 : CR (125 + y) g3 (mm_sj g3 (125 + y) 5 (duS h f y (fI h 56 4).toNatClampNeg)) := CR.sj _ _ _ (by omega)
  generalize mm_sj g3 (125 + y) 5 (duS h f y (fI h 56 4).toNatClampNeg) = g4 at s4 r4 u4 c4
  have tb := z_tbIn hK hn u4 hY hy
  have s5 : stJ g4 n (125 + y) 6 (-(tbS h f Ls y (fI h 56 4).toNatClampNeg)) = some (mm_sj g4 (125 + y) 6 (-(tbS h f Ls y (fI h 56 4).toNatClampNeg))) := row_15 (m := 6) u4.1 hn y15 (by omega) _
  have r5 := r4.step u4.1 y15 (v := -(tbS h f Ls y (fI h 56 4).toNatClampNeg)) rfl
  have u5 := u4.row hY y15 (m := 6) (-(tbS h f Ls y (fI h 56 4).toNatClampNeg))
  have c5 : CR (125 + y) g4 (mm_sj g4 (125 + y) 6 (-(tbS h f Ls y (fI h 56 4).toNatClampNeg))) := CR.sj _ _ _ (by omega)
  generalize mm_sj g4 (125 + y) 6 (-(tbS h f Ls y (fI h 56 4).toNatClampNeg)) = g5 at s5 r5 u5 c5
  have c15 : CR (125 + y) g g5 := (((c1.trans c2).trans c3).trans c4).trans c5
  have Kp : ∃ x, K = x + 1 := ⟨K - 1, by omega⟩
  obtain ⟨g6, f6, u6, c6, r6⟩ : ∃ g6, lp_X7_fillLinesOf_114 K n 73 (ni y) (125 + y) (smS h F f Ls d y 4) K 0 g5 = some g6 ∧ CF n h F f d Ls Y g6 ∧ CR (125 + y) g5 g6 ∧ RW h F f Ls d y 10 g6 := by
    by_cases y0 : 0 < y
    · exact z_fl114 hK hn hY hy y0 _ 3 0 K g5 rfl (by omega) u5 r5
    · have : y = 0 := by omega
      subst this
      obtain ⟨x, hx⟩ := Kp
      refine ⟨g5, ?_, u5, CR.id_, r5.keep (by omega) (fun k h1 h2 => lnS_0 h1 (by omega))⟩
      rw [show lp_X7_fillLinesOf_114 K n 73 (ni 0) (125 + 0) (smS h F f Ls d 0 4) K = lp_X7_fillLinesOf_114 K n 73 (ni 0) (125 + 0) (smS h F f Ls d 0 4) (x + 1) by rw [← hx]]
      unfold lp_X7_fillLinesOf_114
      rw [if_neg (by decide), if_pos (by decide)]
  obtain ⟨g7, f7, u7, c7, r7⟩ : ∃ g7, lp_X7_fillLinesOf_149 K n 73 (ni y) (125 + y) (smS h F f Ls d y 4) K 0 g6 = some g7 ∧ CF n h F f d Ls Y g7 ∧ CR (125 + y) g6 g7 ∧ RW h F f Ls d y 14 g7 := by
    by_cases y0 : 0 < y
    · refine z_fl149 hK hn hY hy y0 _ 4 0 K g6 rfl (by omega) u6 (fun i hi => ?_) r6
      rw [jA_c ((c15.trans c6).1 (109 + (y - 1)) (by omega) (by omega))]
      exact hb y0 i hi
    · have : y = 0 := by omega
      subst this
      obtain ⟨x, hx⟩ := Kp
      refine ⟨g6, ?_, u6, CR.id_, r6.keep (by omega) (fun k h1 h2 => lnS_0 (by omega) (by omega))⟩
      rw [show lp_X7_fillLinesOf_149 K n 73 (ni 0) (125 + 0) (smS h F f Ls d 0 4) K = lp_X7_fillLinesOf_149 K n 73 (ni 0) (125 + 0) (smS h F f Ls d 0 4) (x + 1) by rw [← hx]]
      unfold lp_X7_fillLinesOf_149
      rw [if_neg (by decide), if_pos (by decide)]
  obtain ⟨-, j7, e73, -⟩ := id u7
  obtain ⟨q0, q1, q2, q3, q4, q5, m, hm, hm20⟩ := id j7.2.2.2.2.2.1
  have hmh : fI h 67 5 = ni m := by rw [← fI_c (e73 67 (by omega)) 5]; exact hm
  obtain ⟨l1, -⟩ := z_logLp (K := K) u7.1 hn j7.2.2.2.2.2.1 hm hm20 (ni f) (ni y) d K 0 (Nat.zero_le _) (by omega)
  rw [lgS_c e73, lgS_c e73] at l1
  have l1' : lp_X1_allKnown_6 K g7 n 67 (ni f) 0 (ni y) d K 0 0 = some (lgS h (ni f) (ni y) d m) := l1
  have ak : q_X1_allKnown K g7 n 67 (ni f) 0 (ni y) d = some (lgS h (ni f) (ni y) d m) := by
    unfold q_X1_allKnown
    rw [l1']
    rfl
  have n8 := u7.num hn hY hy (K := K) (k := 8) (by omega) (by omega)
  have n8' : q_X7_numberAt K g7 n 73 (ni y) 8 = some (numS (wwS h f Ls y) (Ls (y / 5)) 8 0) := n8
  have ev : lnS h F f Ls d y 14 = lgV h F f Ls d y := rfl
  have s8 : ∀ v, stJ g7 n (125 + y) 14 v = some (mm_sj g7 (125 + y) 14 v) := fun v => row_15 (m := 14) u7.1 hn y15 (by omega) v
  have r8 := r7.step u7.1 y15 (v := lgV h F f Ls d y) ev.symm
  have u8 := u7.row hY y15 (m := 14) (lgV h F f Ls d y)
  have c8 : CR (125 + y) g7 (mm_sj g7 (125 + y) 14 (lgV h F f Ls d y)) := CR.sj _ _ _ (by omega)
  refine ⟨mm_sj g7 (125 + y) 14 (lgV h F f Ls d y), ?_, u8, ((c15.trans c6).trans c7).trans c8, fun k hk => by rw [r8 k hk, if_pos (by omega)]⟩
  unfold q_X7_fillLinesOf
  rw [if_neg (ni_pos (by omega)), if_pos y15']
  simp only [g_73_7 u.1 hn, ge_124 u.1 hn, i15, ty, if_true, y15, Option.bind_some, e125, f1, f2', g_73_5 u2.1 hn, ge_107 u2.1 hn, i16, w2, gq_73 u2.1 hn, n3', ct, s3, g_73_0 u3.1 hn, g_49_2 u3.1 hn, g_73_11 u3.1 hn, u3.2.2.2.1, gq_56 u3.1 hn, du, s4, gq_73 u4.1 hn, tb, s5, f6, f7, g_73_0 u7.1 hn, g_49_4 u7.1 hn, g_73_11 u7.1 hn, u7.2.2.2.1, g_73_12 u7.1 hn, u7.2.2.2.2.1, gq_67 u7.1 hn, ak, gq_73 u7.1 hn, n8', q_X8_hundredths, lg_cmp_lt, s8]
  unfold lgV
  rw [hmh, ni_tn (by omega)]
  by_cases q : lgS h (ni f) (ni y) d m < smS h F f Ls d y 4 * (numS (wwS h f Ls y) (Ls (y / 5)) 8 0).toInt64 / 100
  · rw [if_pos q, if_pos q]
  · rw [if_neg q, if_neg q]
theorem z_fl62 (hK : 3000 ≤ K) (hn : 159 ≤ n) {F f Y a b : Nat} {d : Int32} {Ls : Nat → List Stm} (hY : Y ≤ 15) (hb : b < Y) : ∀ (m y k : Nat) (g : mm_H), y + m = b + 1 → a ≤ y → m < k → CF n h F f d Ls Y g → (∀ z, a - 1 ≤ z → z ≤ b → ∀ i, i < 4 → jA g (109 + z) i = alS h F f Ls d z i) → (∀ z, a ≤ z → z < y → ∀ i, i < 15 → jA g (125 + z) i = lnS h F f Ls d z i) → ∃ g', lp_X7_fillLines_62 K n 73 (ni b) k (ni y) g = some g' ∧ CF n h F f d Ls Y g' ∧ CS g g' ∧ ∀ z, a ≤ z → z ≤ b → ∀ i, i < 15 → jA g' (125 + z) i = lnS h F f Ls d z i := by
  intro m
  induction m with
  | zero =>
    intro y k g hi hay hk u al r
    obtain ⟨k, rfl⟩ : ∃ x, k = x + 1 := ⟨k - 1, by omega⟩
    have : y = b + 1 := by omega
    subst this
    unfold lp_X7_fillLines_62
    rw [if_pos ((ni_lt (by omega) (by omega)).mpr (by omega))]
    exact ⟨g, rfl, u, CS.id_, fun z h1 h2 => r z h1 (by omega)⟩
  | succ m ih =>
    intro y k g hi hay hk u al r
    obtain ⟨k, rfl⟩ : ∃ x, k = x + 1 := ⟨k - 1, by omega⟩
    obtain ⟨g1, e1, u1, s1, r1⟩ := u.fillOf hK hn hY (y := y) (by omega) (al y (by omega) (by omega)) (fun y0 => al (y - 1) (by omega) (by omega))
    obtain ⟨g', q1, q2, q3, q4⟩ := ih (y + 1) k g1 (by omega) (by omega) (by omega) u1 (fun z h1 h2 i hi => by
      rw [jA_c (s1.1 (109 + z) (by omega) (by omega))]
      exact al z h1 h2 i hi) (fun z h1 h2 i hi => by
      by_cases q : z = y
      · rw [q]; exact r1 i hi
      · rw [jA_c (s1.1 (125 + z) (by omega) (by omega))]
        exact r z h1 (by omega) i hi)
    refine ⟨g', ?_, q2, (s1.cs (by omega) (by omega)).trans q3, q4⟩
    unfold lp_X7_fillLines_62
    rw [if_neg (fun q => by have := (ni_lt (by omega) (by omega)).mp q; omega), if_neg (fun q => by have := (ni_le (a := 15) (by omega) (by omega)).mp q; omega)]
    simp only [gq_73 u.1 hn, e1, Option.bind_some, ni_1]
    exact q1
theorem imax_ni {a : Nat} (ha : a < 2147483648) : i_max 0 (ni a) = ni a := by
  unfold i_max
  by_cases q : (0 : Int32) < ni a
  · rw [if_pos q]
  · rw [if_neg q]
    have : ¬ 0 < a := fun z => q ((ni_lt (a := 0) (by omega) ha).mpr z)
    have e : a = 0 := by omega
    rw [e]
    rfl
theorem imax_pr {a : Nat} (ha : a < 2147483648) : i_max 0 (ni a - 1) = ni (a - 1) := by
  by_cases q : a = 0
  · subst q
    decide
  · rw [show ni a - 1 = ni (a - 1) from ni_sub (b := 1) (by omega), imax_ni (by omega)]
theorem CF.fill (hK : 3000 ≤ K) (hn : 159 ≤ n) {F f Y a b : Nat} {d : Int32} {Ls : Nat → List Stm} {g : mm_H} (u : CF n h F f d Ls Y g) (hY : Y ≤ 15) (hab : a ≤ b) (hb : b < Y) : ∃ g', q_X7_fillLines K g n 73 (ni a) (ni b) = some g' ∧ CF n h F f d Ls Y g' ∧ CS g g' ∧ ∀ z, a ≤ z → z ≤ b → ∀ i, i < 15 → jA g' (125 + z) i = lnS h F f Ls d z i := by
  obtain ⟨g1, e1, u1, s1, r1⟩ := z_fl8 hK hn (F := F) (f := f) (d := d) (Ls := Ls) (h := h) (a := a - 1) hY hb (ni a) (b + 1 - (a - 1)) (a - 1) K g (by omega) (by omega) u (fun z h1 h2 => by omega)
  obtain ⟨g2, e2, u2, s2, r2⟩ := z_fl62 hK hn (F := F) (f := f) (d := d) (Ls := Ls) (h := h) (a := a) hY hb (b + 1 - a) a K g1 (by omega) (Nat.le_refl _) (by omega) u1 r1 (fun z h1 h2 => by omega)
  refine ⟨g2, ?_, u2, s1.trans s2, r2⟩
  unfold q_X7_fillLines
  rw [imax_pr (by omega), imax_ni (by omega), e1]
  simp only [Option.bind_some, e2]
theorem z_lineAtC (c : PS h) (hn : 159 ≤ n) {y k : Nat} (hy : y ≤ 14) (hk : k ≤ 14) : q_X7_lineAt K h n 73 (ni y) (ni k) = some (jA h (125 + y) k) := by
  have i15 : inb (ni y) 15 = true := ni_inb (by omega) (by omega)
  have ty : (ni y).toNatClampNeg = y := ni_tn (by omega)
  have y15 : y < 15 := by omega
  have e125 : 124 + 1 + y = 125 + y := by omega
  have lj : ldJ h n (125 + y) (ni k) = some (jA h (125 + y) k) := by
    rw [row_lj c (sh_125 y y15) (by omega) (by omega), if_pos (ni_inb (by omega) (by omega)), ni_tn (by omega)]
  unfold q_X7_lineAt
  rw [if_neg (ni_pos (by omega)), if_neg (fun q => by have := (ni_le (a := 15) (by omega) (by omega)).mp q; omega), if_neg (ni_pos (by omega)), if_neg (fun q => by have := (ni_le (a := 15) (by omega) (by omega)).mp q; omega)]
  simp only [g_73_7 c hn, ge_124 c hn, i15, ty, if_true, y15, Option.bind_some, e125, lj]
theorem z_allLp {g : mm_H} (c : PS g) (hn : 159 ≤ n) {F f y : Nat} {d : Int32} {Ls : Nat → List Stm} (hy : y ≤ 14) (r : ∀ i, i < 15 → jA g (125 + y) i = lnS h F f Ls d y i) : ∀ (m i k : Nat), i + m = 15 → m < k → lp_X7_allLines_5 K g n 73 (ni y) k (rvS h F f Ls d y i) (ni i) = some (rvS h F f Ls d y 15) := by
  intro m
  induction m with
  | zero =>
    intro i k hi hk
    obtain ⟨k, rfl⟩ : ∃ x, k = x + 1 := ⟨k - 1, by omega⟩
    have : i = 15 := by omega
    subst this
    unfold lp_X7_allLines_5
    rw [if_pos (by decide)]
  | succ m ih =>
    intro i k hi hk
    obtain ⟨k, rfl⟩ : ∃ x, k = x + 1 := ⟨k - 1, by omega⟩
    unfold lp_X7_allLines_5
    rw [if_neg (fun q => by have := (ni_le (a := 15) (by omega) (by omega)).mp q; omega)]
    simp only [gq_73 c hn, Option.bind_some, z_lineAtC (K := K) c hn hy (show i ≤ 14 by omega), r i (by omega), ni_1]
    exact ih (i + 1) k (by omega) (by omega)
theorem z_allLines (hK : 3000 ≤ K) {g : mm_H} (c : PS g) (hn : 159 ≤ n) {F f y : Nat} {d : Int32} {Ls : Nat → List Stm} (hy : y ≤ 14) (r : ∀ i, i < 15 → jA g (125 + y) i = lnS h F f Ls d y i) : q_X7_allLines K g n 73 (ni y) = some (rvS h F f Ls d y 15) := by
  have e : lp_X7_allLines_5 K g n 73 (ni y) K 0 0 = some (rvS h F f Ls d y 15) := z_allLp c hn hy r 15 0 K rfl (by omega)
  unfold q_X7_allLines
  rw [e]
  rfl
/-- a sheet is opened by a review's own rules -/
theorem z_openCF (hK : 3000 ≤ K) (c : PS h) (hn : 159 ≤ n) (j : JR h) {p : Nat} {L : List Stm} (t : TK h n p L) {F f ly : Nat} (uF : fI h 49 5 = ni F) (hF : F ≤ 11) (hf : f < F) (hly : ly ≤ 14) (d : Int32) : ∃ g : mm_H, q_X10_openOwn K h n 48 (ni f) (ni ly) d = some g ∧ CF n h F f d (fun _ => L) (ly + 1) g ∧ SW h g := by
  obtain ⟨g, e1, e2, e3, e4, e5, e6, e7, e8⟩ := z_openOwn hK c hn j t (f := f) (ly := ly) (by omega) hly d
  have s : SW h g := ⟨fun a q => e3 a (by omega), fun k _ _ _ _ => fI_c (e3 159 (by omega)) k⟩
  exact ⟨g, e1, ⟨e2, SW_JR s j, fun a ha => e3 a (by omega), e4, e5, e6, e7, fun r hr => ⟨0, by rw [e8 r hr]; exact RS_c (fun a q => e3 a (by omega)) t.rs⟩, by rw [fI_c (e3 49 (by omega))]; exact uF, hF, hf⟩, s⟩
end FILLED

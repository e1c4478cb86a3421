/-! ===== the calls bills and home ===== -/
section CALLB
variable {K n : Nat} {h : mm_H}
theorem S_19 (hK : 3000 ≤ K) {l3 : Int32} {kc ks : Nat} {x : Nat → Int32} (c : PS h) (hn : 208 ≤ n) (j : JR h) (jn : JN h) (jk : JK h n) (sc : SCR (h 0) n l3 x) : ∃ g, st_law_19 K h n l3 kc ks = some (g, n, kc, ks) ∧ PS g ∧ SW h g := by
  obtain ⟨s1, s2, s3, s4, -⟩ := sc h rfl
  have uF := j.2.1
  have fin : ∀ (v : Int64) (g w : mm_H), q_X10_bills K h n 48 (x 1) (x 2) (x 3) (x 4) = some (v, g) → PS g → SW h g → q_X11_bills K g n 159 (x 1) (x 2) (x 3) (x 4) = some (v, w) → PS w → SW h w → ∃ g, st_law_19 K h n l3 kc ks = some (g, n, kc, ks) ∧ PS g ∧ SW h g := by
    intro v g w k1 p1 e1 k2 p2 e2
    obtain ⟨t1, t2, t3, t4, -⟩ := sc g (e1.1 0 (by omega))
    refine ⟨w, ?_, p2, e2⟩
    unfold st_law_19
    simp only [s1, s2, s3, s4, gq_48 c hn, Option.bind_some, k1, t1, t2, t3, t4, gq_159 p1 hn, k2, lg_cmp_eq, if_true]
  by_cases ok : okY h (x 1) (x 2) (x 3)
  · by_cases k0 : mm_in (x 4) 0 1 = 0
    · refine fin (-2000000000000) h h ?_ c SW.id_ ?_ c SW.id_
      · unfold q_X10_bills
        rw [gq_48 c hn, Option.bind_some, y_pre c hn uF, if_pos ok, z_X10_isWithin, Option.bind_some, if_pos k0]
      · unfold q_X11_bills
        rw [gq_159 c hn, Option.bind_some, y_preM c hn uF, if_pos ok, z_X11_isIn, Option.bind_some, if_pos k0]
    · obtain ⟨f, y, F, ea, eb, hy, eF, hF, hf⟩ := ok_nat uF ok
      obtain ⟨g1, Ls, e1, u1, w1, R⟩ := z_openCF hK c hn j jk jn eF hF hf hy (x 3)
      obtain ⟨g2, e2, u2, w2, r1, r2⟩ := u1.bills hK hn (by omega) (y := y) (by omega)
      have sw2 : SW h g2 := w1.trans w2.sw
      obtain ⟨w, e3, m3, sw3⟩ := z_mfOwn hK hn j eF hF hf R u2.1 sw2
      obtain ⟨w', e4, m4, s4', j4⟩ := m3.bills hK hn hy (x 3)
      refine fin (if x 4 = 0 then (blP h F f Ls (x 3) (y / 5 * 5) (y - y / 5 * 5 + 1)).1 else (blP h F f Ls (x 3) (y / 5 * 5) (y - y / 5 * 5 + 1)).2) g2 w' ?_ u2.1 sw2 ?_ m4.1 (sw3.trans s4')
      · unfold q_X10_bills
        rw [gq_48 c hn, Option.bind_some, y_pre c hn uF, if_pos ok, z_X10_isWithin, Option.bind_some, if_neg k0, ea, eb]
        simp only [Option.bind_some, gq_48 c hn, e1, g_48_1 u1.1 hn, gq_73 u1.1 hn, e2, g_48_1 u2.1 hn, gq_73 u2.1 hn, z_billsAt (K := K) u2.1 hn hy, z_carriedAt (K := K) u2.1 hn hy, r1, r2]
        by_cases q : x 4 = 0
        · rw [if_pos q, if_pos q]
        · rw [if_neg q, if_neg q]
      · unfold q_X11_bills
        rw [gq_159 u2.1 hn, Option.bind_some, y_preM u2.1 hn u2.2.1.2.1, if_pos (by rw [okY_c sw2]; exact ok), z_X11_isIn, Option.bind_some, if_neg k0, ea, eb]
        simp only [Option.bind_some, gq_159 u2.1 hn, e3, gq_159 m3.1 hn, e4, g_159_66 m4.1 hn, j4]
        by_cases q : x 4 = 0
        · rw [if_pos q, if_pos q]
        · rw [if_neg q, if_neg q]
  · refine fin (-2000000000000) h h ?_ c SW.id_ ?_ c SW.id_
    · unfold q_X10_bills
      rw [gq_48 c hn, Option.bind_some, y_pre c hn uF, if_neg ok]
    · unfold q_X11_bills
      rw [gq_159 c hn, Option.bind_some, y_preM c hn uF, if_neg ok]
/-- what is left behind some kinds of homes -/
def lfS (h : mm_H) (f y : Nat) (d : Int32) (cn : Int64) : Nat → Int64
  | 0 => cn
  | k + 1 => lfS h f y d cn k - pdS h f y d cn k * (hmP h f y d k).toInt64
theorem lfS_c {g : mm_H} (e : ∀ a, a < 73 → g a = h a) (f y : Nat) (d : Int32) (cn : Int64) : ∀ k, lfS g f y d cn k = lfS h f y d cn k
  | 0 => rfl
  | k + 1 => by
    unfold lfS
    rw [lfS_c e f y d cn k, pdS_c e, hmP_c e]
theorem z_left (hK : 3000 ≤ K) (c : PS h) (hn : 208 ≤ n) (u : JA h) (p : PRT h) {f y : Nat} (hf : f ≤ 10) (hy : y ≤ 14) (d : Int32) (cn : Int64) : ∀ (m i k : Nat), i + m = 3 → m < k → lp_X10_home_83 K h n 48 (ni f) (ni y) d cn k (lfS h f y d cn i) (ni i) = some (lfS h f y d cn 3) ∧ lp_X11_home_63 K h n 159 (ni f) (ni y) d cn k (lfS h f y d cn i) (ni i) = some (lfS h f y d cn 3) := by
  intro m
  induction m with
  | zero =>
    intro i k hi hk
    obtain ⟨k, rfl⟩ : ∃ x, k = x + 1 := ⟨k - 1, by omega⟩
    have : i = 3 := by omega
    subst this
    unfold lp_X10_home_83 lp_X11_home_63
    rw [if_pos (by decide), if_pos (by decide)]
    exact ⟨rfl, rfl⟩
  | succ m ih =>
    intro i k hi hk
    obtain ⟨k, rfl⟩ : ∃ x, k = x + 1 := ⟨k - 1, by omega⟩
    have n1 : ¬ (3 : Int32) ≤ ni i := fun q => by have := (ni_le (a := 3) (by omega) (by omega)).mp q; omega
    have nx := ih (i + 1) k (by omega) (by omega)
    obtain ⟨pc, pm⟩ := z_partOf hK c hn u p hf hy (k := i) (by omega) d cn
    have e2 : (hmP h f y d i).toInt64 * pdS h f y d cn i = pdS h f y d cn i * (hmP h f y d i).toInt64 := Int64.mul_comm _ _
    unfold lp_X10_home_83 lp_X11_home_63
    simp only [n1, if_false, g_48_0 c hn, gq_49 c hn, gq_159 c hn, Option.bind_some, z_homesC hK c hn u hf hy (show i ≤ 2 by omega) d, z_homesM hK c hn u hf hy (show i ≤ 2 by omega) d, pc, pm, e2, ni_1]
    exact nx
theorem S_20 (hK : 3000 ≤ K) {l3 : Int32} {kc ks : Nat} {x : Nat → Int32} (c : PS h) (hn : 208 ≤ n) (j : JR h) (jn : JN h) (jk : JK h n) (pr : PRT h) (sc : SCR (h 0) n l3 x) : ∃ g, st_law_20 K h n l3 kc ks = some (g, n, kc, ks) ∧ PS g ∧ SW h g := by
  obtain ⟨s1, s2, s3, s4, -⟩ := sc h rfl
  have uF := j.2.1
  have fin : ∀ (v : Int64) (g w : mm_H), q_X10_home K h n 48 (x 1) (x 2) (x 3) (x 4) = some (v, g) → PS g → SW h g → q_X11_home K g n 159 (x 1) (x 2) (x 3) (x 4) = some (v, w) → PS w → SW h w → ∃ g, st_law_20 K h n l3 kc ks = some (g, n, kc, ks) ∧ PS g ∧ SW h g := by
    intro v g w k1 p1 e1 k2 p2 e2
    obtain ⟨t1, t2, t3, t4, -⟩ := sc g (e1.1 0 (by omega))
    refine ⟨w, ?_, p2, e2⟩
    unfold st_law_20
    simp only [s1, s2, s3, s4, gq_48 c hn, Option.bind_some, k1, t1, t2, t3, t4, gq_159 p1 hn, k2, lg_cmp_eq, if_true]
  by_cases ok : okY h (x 1) (x 2) (x 3)
  · by_cases k0 : mm_in (x 4) 0 3 = 0
    · refine fin (-2000000000000) h h ?_ c SW.id_ ?_ c SW.id_
      · unfold q_X10_home
        rw [gq_48 c hn, Option.bind_some, y_pre c hn uF, if_pos ok, z_X10_isWithin, Option.bind_some, if_pos k0]
      · unfold q_X11_home
        rw [gq_159 c hn, Option.bind_some, y_preM c hn uF, if_pos ok, z_X11_isIn, Option.bind_some, if_pos k0]
    · obtain ⟨f, y, F, ea, eb, hy, eF, hF, hf⟩ := ok_nat uF ok
      obtain ⟨k, hk, ek⟩ := mm_in_nat (N := 3) (by omega) k0
      obtain ⟨g1, Ls, e1, u1, w1, R⟩ := z_openCF hK c hn j jk jn eF hF hf hy (x 3)
      obtain ⟨g2, e2, u2, w2, r1, r2⟩ := u1.bills hK hn (by omega) (y := y) (by omega)
      have sw2 : SW h g2 := w1.trans w2.sw
      obtain ⟨w, e3, m3, sw3⟩ := z_mfOwn hK hn j eF hF hf R u2.1 sw2
      obtain ⟨w', e4, m4, s4', j4⟩ := m3.bills hK hn hy (x 3)
      generalize (blP h F f Ls (x 3) (y / 5 * 5) (y - y / 5 * 5 + 1)).1 = cn at r1 e4
      have lc := (z_left hK u2.1 hn u2.2.1.2.2.1 (pr.c u2.2.2.1) (f := f) (by omega) hy (x 3) cn 3 0 K rfl (by omega)).1
      have lm := (z_left hK m4.1 hn m4.2.1.2.2.1 (pr.c m4.2.2.1) (f := f) (by omega) hy (x 3) cn 3 0 K rfl (by omega)).2
      have lc' : lp_X10_home_83 K g2 n 48 (ni f) (ni y) (x 3) cn K cn 0 = some (lfS g2 f y (x 3) cn 3) := lc
      have lm' : lp_X11_home_63 K w' n 159 (ni f) (ni y) (x 3) cn K cn 0 = some (lfS w' f y (x 3) cn 3) := lm
      rw [lfS_c u2.2.2.1] at lc'
      rw [lfS_c m4.2.2.1] at lm'
      have l3 : ((3 : Int32) ≤ ni k) = (3 ≤ k) := propext (ni_le (a := 3) (by omega) (by omega))
      refine fin (if 3 ≤ k then lfS h f y (x 3) cn 3 else pdS h f y (x 3) cn k) g2 w' ?_ u2.1 sw2 ?_ m4.1 (sw3.trans s4')
      · unfold q_X10_home
        rw [gq_48 c hn, Option.bind_some, y_pre c hn uF, if_pos ok, z_X10_isWithin, Option.bind_some, if_neg k0, ea, eb, ek]
        simp only [Option.bind_some, gq_48 c hn, e1, g_48_1 u1.1 hn, gq_73 u1.1 hn, e2, g_48_1 u2.1 hn, gq_73 u2.1 hn, z_billsAt (K := K) u2.1 hn hy, r1, l3, lc', g_48_0 u2.1 hn, gq_49 u2.1 hn]
        by_cases q : 3 ≤ k
        · rw [if_pos q, if_pos q]
        · have pc := (z_partOf hK u2.1 hn u2.2.1.2.2.1 (pr.c u2.2.2.1) (f := f) (by omega) hy (show k ≤ 2 by omega) (x 3) cn).1
          rw [pdS_c u2.2.2.1] at pc
          rw [if_neg q, if_neg q, pc]
          rfl
      · unfold q_X11_home
        rw [gq_159 u2.1 hn, Option.bind_some, y_preM u2.1 hn u2.2.1.2.1, if_pos (by rw [okY_c sw2]; exact ok), z_X11_isIn, Option.bind_some, if_neg k0, ea, eb, ek]
        simp only [Option.bind_some, gq_159 u2.1 hn, e3, gq_159 m3.1 hn, e4, gq_159 m4.1 hn, l3, lm']
        by_cases q : 3 ≤ k
        · rw [if_pos q, if_pos q]
        · have pm := (z_partOf hK m4.1 hn m4.2.1.2.2.1 (pr.c m4.2.2.1) (f := f) (by omega) hy (show k ≤ 2 by omega) (x 3) cn).2
          rw [pdS_c m4.2.2.1] at pm
          rw [if_neg q, if_neg q, pm]
          rfl
  · refine fin (-2000000000000) h h ?_ c SW.id_ ?_ c SW.id_
    · unfold q_X10_home
      rw [gq_48 c hn, Option.bind_some, y_pre c hn uF, if_neg ok]
    · unfold q_X11_home
      rw [gq_159 c hn, Option.bind_some, y_preM c hn uF, if_neg ok]
end CALLB

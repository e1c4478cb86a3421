/-! ===== what a firm bears in a review ===== -/
section BORNE
variable {K n : Nat} {h : mm_H}
def bo1 (h : mm_H) (F f : Nat) (Ls : Nat → List Stm) (d : Int32) (y hd : Nat) : Int64 := if kn h f y (3 + hd) d = -1 then 0 else brO (wwS h f Ls y) (Ls (y / 5)) hd ((kn h f y (3 + hd) d).toInt64 - alS h F f Ls d y hd)
def boS (h : mm_H) (F f : Nat) (Ls : Nat → List Stm) (d : Int32) (y : Nat) (a : Int64) : Nat → Int64
  | 0 => a
  | i + 1 => boS h F f Ls d y a i + bo1 h F f Ls d y i
/-- what is borne in the first years of a review -/
def boY (h : mm_H) (F f : Nat) (Ls : Nat → List Stm) (d : Int32) (r : Nat) : Nat → Int64
  | 0 => 0
  | i + 1 => boS h F f Ls d (5 * r + i) (boY h F f Ls d r i) 4
theorem CF.borne (hn : 208 ≤ n) {F f Y y hd : Nat} {d : Int32} {Ls : Nat → List Stm} {g : mm_H} (u : CF n h F f d Ls Y g) (hY : Y ≤ 15) (hy : y < Y) (hhd : hd ≤ 3) (v : Int64) : q_X7_bornePart K g n 73 (ni y) (ni hd) v = some (brO (wwS h f Ls y) (Ls (y / 5)) hd v) := by
  obtain ⟨u1, u2, u3, u4, u5, u6, u7, u8, u9, u10, u11⟩ := id u
  obtain ⟨z, R⟩ := u8 (y / 5) (by omega)
  exact z_bornePart u1 hn (by omega) hhd R ((u6 y hy).1 1 hd (Or.inl ⟨by omega, hhd⟩)) v
theorem CF.known (hK : 3000 ≤ K) (hn : 208 ≤ n) {F f Y y w : Nat} {d : Int32} {Ls : Nat → List Stm} {g : mm_H} (u : CF n h F f d Ls Y g) (hy : y ≤ 14) (hw : w ≤ 16) (e : Int32) : q_X0_knownBy K g n 51 (ni f) (ni y) (ni w) e = some (kn h f y w e) := by
  obtain ⟨u1, u2, u3, -, -, -, -, -, -, u10, u11⟩ := id u
  rw [z_X0_knownBy hK u1 hn u2.2.2.1 (by omega) hy hw e, kn_c (fun a _ _ => u3 a (by omega))]
theorem MF.known (hK : 3000 ≤ K) (hn : 208 ≤ n) {F f y w : Nat} {Ls : Nat → List Stm} {g : mm_H} (u : MF K n h F f Ls g) (hy : y ≤ 14) (hw : w ≤ 16) (e : Int32) : q_X11_factBy K g n 159 (ni f) (ni y) (ni w) e = some (kn h f y w e) := by
  obtain ⟨u1, u2, u3, -, -, -, -, u8, u9⟩ := id u
  rw [z_X11_factBy hK u1 hn u2.2.2.1 (by omega) hy hw e, kn_c (fun a _ _ => u3 a (by omega))]
theorem MF.today (hn : 208 ≤ n) {F f : Nat} {Ls : Nat → List Stm} {g : mm_H} (u : MF K n h F f Ls g) : rdI g n 159 10 0 = some (fI h 49 6) := by
  obtain ⟨u1, u2, u3, -⟩ := id u
  rw [g_159_0 u1 hn, u2.1.2.1, fI_c (u3 49 (by omega)) 6]
theorem z_bo27 (hK : 3000 ≤ K) (hn : 208 ≤ n) {F f Y y : Nat} {d : Int32} {Ls : Nat → List Stm} (hY : Y ≤ 15) (hy : y < Y) (l1 : Int32) (a : Int64) : ∀ (m i k : Nat) (g : mm_H), i + m = 4 → m < k → CF n h F f d Ls Y g → ∃ g', lp_X7_borneFrom_27 K n 73 l1 (ni y) k (boS h F f Ls d y a i) (ni i) g = some (boS h F f Ls d y a 4, g') ∧ CF n h F f d Ls Y g' ∧ CS g g' := by
  intro m
  induction m with
  | zero =>
    intro i k g hi hk u
    obtain ⟨k, rfl⟩ : ∃ x, k = x + 1 := ⟨k - 1, by omega⟩
    have : i = 4 := by omega
    subst this
    unfold lp_X7_borneFrom_27
    rw [if_pos (by decide)]
    exact ⟨g, rfl, u, CS.id_⟩
  | succ m ih =>
    intro i k g hi hk u
    obtain ⟨k, rfl⟩ : ∃ x, k = x + 1 := ⟨k - 1, by omega⟩
    have n1 : ¬ (4 : Int32) ≤ ni i := fun q => by have := (ni_le (a := 4) (by omega) (by omega)).mp q; omega
    have e3 : (3 : Int32) + ni i = ni (3 + i) := ni_add 3 _
    have kf := u.known hK hn (y := y) (w := 3 + i) (by omega) (by omega) d
    obtain ⟨u1, u2, u3, u4, u5, -⟩ := id u
    have eS : boS h F f Ls d y a (i + 1) = boS h F f Ls d y a i + bo1 h F f Ls d y i := rfl
    unfold bo1 at eS
    unfold lp_X7_borneFrom_27
    simp only [n1, if_false, g_73_0 u1 hn, g_49_1 u1 hn, g_73_11 u1 hn, g_73_12 u1 hn, u4, u5, gq_51 u1 hn, Option.bind_some, e3, kf, ni_1]
    by_cases q : kn h f y (3 + i) d = -1
    · rw [if_pos q, Int64.add_zero] at eS
      rw [if_pos q, ← eS]
      exact ih (i + 1) k g (by omega) (by omega) u
    · rw [if_neg q] at eS
      obtain ⟨g1, e1, v1, s1⟩ := u.allowed hK hn hY hy (hd := i) (by omega)
      have bp := v1.borne hn (K := K) hY hy (hd := i) (by omega) ((kn h f y (3 + i) d).toInt64 - alS h F f Ls d y i)
      rw [if_neg q]
      simp only [gq_73 u1 hn, Option.bind_some, e1, gq_73 v1.1 hn, bp]
      rw [← eS]
      obtain ⟨g', r1, r2, r3⟩ := ih (i + 1) k g1 (by omega) (by omega) v1
      exact ⟨g', r1, r2, s1.cs.trans r3⟩
theorem z_bo9 (hK : 3000 ≤ K) (hn : 208 ≤ n) {F f Y r : Nat} {d : Int32} {Ls : Nat → List Stm} (hY : Y ≤ 15) (hr : 5 * r + 5 ≤ Y) : ∀ (m i k : Nat) (g : mm_H), i + m = 5 → m < k → CF n h F f d Ls Y g → ∃ g', lp_X7_borneFrom_9 K n 73 (ni (5 * r)) k (boY h F f Ls d r i) (ni (5 * r + i)) g = some (boY h F f Ls d r 5, g') ∧ CF n h F f d Ls Y g' ∧ CS g g' := by
  intro m
  have e5 : ni (5 * r) + 5 = ni (5 * r + 5) := ni_add _ 5
  induction m with
  | zero =>
    intro i k g hi hk u
    obtain ⟨k, rfl⟩ : ∃ x, k = x + 1 := ⟨k - 1, by omega⟩
    have : i = 5 := by omega
    subst this
    unfold lp_X7_borneFrom_9
    rw [e5, if_pos (Int32.le_refl _)]
    exact ⟨g, rfl, u, CS.id_⟩
  | succ m ih =>
    intro i k g hi hk u
    obtain ⟨k, rfl⟩ : ∃ x, k = x + 1 := ⟨k - 1, by omega⟩
    obtain ⟨g1, e1, v1, s1⟩ := z_bo27 hK hn (F := F) (f := f) (d := d) (Ls := Ls) (h := h) hY (y := 5 * r + i) (by omega) (ni (5 * r)) (boY h F f Ls d r i) 4 0 K g rfl (by omega) u
    have e1' : lp_X7_borneFrom_27 K n 73 (ni (5 * r)) (ni (5 * r + i)) K (boY h F f Ls d r i) 0 g = some (boY h F f Ls d r (i + 1), g1) := e1
    obtain ⟨g', r1, r2, r3⟩ := ih (i + 1) k g1 (by omega) (by omega) v1
    refine ⟨g', ?_, r2, s1.trans r3⟩
    unfold lp_X7_borneFrom_9
    rw [e5, if_neg (fun q => by have := (ni_le (by omega) (by omega)).mp q; omega), if_neg (fun q => by have := (ni_le (a := 15) (by omega) (by omega)).mp q; omega), e1']
    simp only [Option.bind_some, ni_1]
    exact r1
theorem CF.borneAll (hK : 3000 ≤ K) (hn : 208 ≤ n) {F f Y r : Nat} {d : Int32} {Ls : Nat → List Stm} {g : mm_H} (u : CF n h F f d Ls Y g) (hY : Y ≤ 15) (hr : 5 * r + 5 ≤ Y) : ∃ g', q_X7_borneFrom K g n 73 (ni (5 * r)) = some (boY h F f Ls d r 5, g') ∧ CF n h F f d Ls Y g' ∧ CS g g' := by
  obtain ⟨g', e, v, s⟩ := z_bo9 hK hn (F := F) (f := f) (d := d) (Ls := Ls) (h := h) hY hr 5 0 K g rfl (by omega) u
  have e' : lp_X7_borneFrom_9 K n 73 (ni (5 * r)) K 0 (ni (5 * r)) g = some (boY h F f Ls d r 5, g') := e
  refine ⟨g', ?_, v, s⟩
  unfold q_X7_borneFrom
  rw [imax_ni (by omega), e']
  rfl
theorem z_bo20 (hK : 3000 ≤ K) (hn : 208 ≤ n) {F f y : Nat} {Ls : Nat → List Stm} (hy : y ≤ 14) (l2 : Int32) (a : Int64) : ∀ (m i k : Nat) (g : mm_H), i + m = 4 → m < k → MF K n h F f Ls g → ∃ g', lp_X11_borneOf_20 K n 159 (ni f) l2 (ni y) k (boS h F f Ls (fI h 49 6) y a i) (ni i) g = some (boS h F f Ls (fI h 49 6) y a 4, g') ∧ MF K n h F f Ls g' ∧ SX g g' := by
  intro m
  induction m with
  | zero =>
    intro i k g hi hk u
    obtain ⟨k, rfl⟩ : ∃ x, k = x + 1 := ⟨k - 1, by omega⟩
    have : i = 4 := by omega
    subst this
    unfold lp_X11_borneOf_20
    rw [if_pos (by decide)]
    exact ⟨g, rfl, u, SX.id_⟩
  | succ m ih =>
    intro i k g hi hk u
    obtain ⟨k, rfl⟩ : ∃ x, k = x + 1 := ⟨k - 1, by omega⟩
    have n1 : ¬ (4 : Int32) ≤ ni i := fun q => by have := (ni_le (a := 4) (by omega) (by omega)).mp q; omega
    have e3 : (3 : Int32) + ni i = ni (3 + i) := ni_add 3 _
    have kf := u.known hK hn hy (w := 3 + i) (by omega) (fI h 49 6)
    have td := u.today hn
    have u1 := u.1
    have eS : boS h F f Ls (fI h 49 6) y a (i + 1) = boS h F f Ls (fI h 49 6) y a i + bo1 h F f Ls (fI h 49 6) y i := rfl
    unfold bo1 at eS
    unfold lp_X11_borneOf_20
    simp only [n1, if_false, td, gq_159 u1 hn, Option.bind_some, e3, kf, ni_1]
    by_cases q : kn h f y (3 + i) (fI h 49 6) = -1
    · rw [if_pos q, Int64.add_zero] at eS
      rw [if_pos q, ← eS]
      exact ih (i + 1) k g (by omega) (by omega) u
    · rw [if_neg q] at eS
      obtain ⟨g1, e1, e2, v1, s1⟩ := u.allowed hK hn hy (hd := i) (by omega) (fI h 49 6)
      have ov : q_X11_overOf K g n 159 (ni f) (ni i) (ni y) (fI h 49 6) = some ((kn h f y (3 + i) (fI h 49 6)).toInt64 - alS h F f Ls (fI h 49 6) y i, g1) := by
        unfold q_X11_overOf
        simp only [gq_159 u1 hn, Option.bind_some, e3, kf, e1, e2]
      obtain ⟨g2, b1, v2, s2⟩ := v1.bears hK hn hy (hd := i) (by omega) ((kn h f y (3 + i) (fI h 49 6)).toInt64 - alS h F f Ls (fI h 49 6) y i)
      rw [if_neg q]
      simp only [ov, Option.bind_some, gq_159 v1.1 hn, b1]
      rw [← eS]
      obtain ⟨g', r1, r2, r3⟩ := ih (i + 1) k g2 (by omega) (by omega) v2
      exact ⟨g', r1, r2, (s1.trans s2).trans r3⟩
theorem z_bo7 (hK : 3000 ≤ K) (hn : 208 ≤ n) {F f r : Nat} {Ls : Nat → List Stm} (hr : r ≤ 2) : ∀ (m i k : Nat) (g : mm_H), i + m = 5 → m < k → MF K n h F f Ls g → ∃ g', lp_X11_borneOf_7 K n 159 (ni f) (ni r) k (boY h F f Ls (fI h 49 6) r i) (ni (5 * r + i)) g = some (boY h F f Ls (fI h 49 6) r 5, g') ∧ MF K n h F f Ls g' ∧ SX g g' := by
  intro m
  have e5 : 5 * ni r + 5 = ni (5 * r + 5) := by
    rw [show (5 : Int32) * ni r = ni (5 * r) from ni_mul 5 r]
    exact ni_add _ 5
  induction m with
  | zero =>
    intro i k g hi hk u
    obtain ⟨k, rfl⟩ : ∃ x, k = x + 1 := ⟨k - 1, by omega⟩
    have : i = 5 := by omega
    subst this
    unfold lp_X11_borneOf_7
    rw [e5, if_pos (Int32.le_refl _)]
    exact ⟨g, rfl, u, SX.id_⟩
  | succ m ih =>
    intro i k g hi hk u
    obtain ⟨k, rfl⟩ : ∃ x, k = x + 1 := ⟨k - 1, by omega⟩
    obtain ⟨g1, e1, v1, s1⟩ := z_bo20 hK hn (F := F) (f := f) (Ls := Ls) (h := h) (y := 5 * r + i) (by omega) (ni r) (boY h F f Ls (fI h 49 6) r i) 4 0 K g rfl (by omega) u
    have e1' : lp_X11_borneOf_20 K n 159 (ni f) (ni r) (ni (5 * r + i)) K (boY h F f Ls (fI h 49 6) r i) 0 g = some (boY h F f Ls (fI h 49 6) r (i + 1), g1) := e1
    obtain ⟨g', r1, r2, r3⟩ := ih (i + 1) k g1 (by omega) (by omega) v1
    refine ⟨g', ?_, r2, s1.trans r3⟩
    unfold lp_X11_borneOf_7
    rw [e5, if_neg (fun q => by have := (ni_le (by omega) (by omega)).mp q; omega), e1']
    simp only [Option.bind_some, ni_1]
    exact r1
theorem MF.borneAll (hK : 3000 ≤ K) (hn : 208 ≤ n) {F f r : Nat} {Ls : Nat → List Stm} {g : mm_H} (u : MF K n h F f Ls g) (hr : r ≤ 2) : ∃ g', q_X11_borneOf K g n 159 (ni f) (ni r) = some (boY h F f Ls (fI h 49 6) r 5, g') ∧ MF K n h F f Ls g' ∧ SX g g' := by
  obtain ⟨g', e, v, s⟩ := z_bo7 hK hn (F := F) (f := f) (Ls := Ls) (h := h) hr 5 0 K g rfl (by omega) u
  have e' : lp_X11_borneOf_7 K n 159 (ni f) (ni r) K 0 (ni (5 * r)) g = some (boY h F f Ls (fI h 49 6) r 5, g') := e
  refine ⟨g', ?_, v, s⟩
  unfold q_X11_borneOf
  rw [show (5 : Int32) * ni r = ni (5 * r) from ni_mul 5 r, e']
  rfl
theorem z_lastYear {r : Nat} (hr : r ≤ 2) : q_X10_lastYearOf K h n (ni r) = some (ni (5 * r + 4)) := by
  unfold q_X10_lastYearOf
  rcases (by omega : r = 0 ∨ r = 1 ∨ r = 2) with rfl | rfl | rfl <;> rfl
theorem ok_firm {a : Int32} (uF : JF h) (ok : ¬ mm_in a 0 (fI h 49 5 - 1) = 0) : ∃ f F : Nat, a = ni f ∧ fI h 49 5 = ni F ∧ F ≤ 11 ∧ f < F := by
  obtain ⟨fm, hfm, hfm10, hF1, hF2⟩ := in_firm uF ok
  obtain ⟨F0, hF0, hF11⟩ := id uF.1
  refine ⟨fm, F0, hfm, hF0, hF11, ?_⟩
  rw [hF0, ni_tn (by omega)] at hF2
  exact hF2
theorem S_26 (hK : 3000 ≤ K) {l3 : Int32} {kc ks : Nat} {x : Nat → Int32} (c : PS h) (hn : 208 ≤ n) (j : JR h) (jn : JN h) (jk : JK h n) (sc : SCR (h 0) n l3 x) : ∃ g, st_law_26 K h n l3 kc ks = some (g, n, kc, ks) ∧ PS g ∧ SW h g := by
  obtain ⟨s1, s2, -⟩ := sc h rfl
  have uF := j.2.1
  have fin : ∀ (v : Int64) (g w : mm_H), q_X10_borne K h n 48 (x 1) (x 2) = some (v, g) → PS g → SW h g → q_X11_borne K g n 159 (x 1) (x 2) = some (v, w) → PS w → SW h w → ∃ g, st_law_26 K h n l3 kc ks = some (g, n, kc, ks) ∧ PS g ∧ SW h g := by
    intro v g w k1 p1 e1 k2 p2 e2
    obtain ⟨t1, t2, -⟩ := sc g (e1.1 0 (by omega))
    refine ⟨w, ?_, p2, e2⟩
    unfold st_law_26
    simp only [s1, s2, gq_48 c hn, Option.bind_some, k1, t1, t2, gq_159 p1 hn, k2, lg_cmp_eq, if_true]
  by_cases a1 : mm_in (x 1) 0 (fI h 49 5 - 1) = 0
  · refine fin (-2000000000000) h h ?_ c SW.id_ ?_ c SW.id_
    · unfold q_X10_borne
      simp only [gq_48 c hn, y_X10_isFirm c hn uF, Option.bind_some, a1, if_true]
    · unfold q_X11_borne
      simp only [gq_159 c hn, y_X11_isFirm c hn uF, Option.bind_some, a1, if_true]
  by_cases a2 : mm_in (x 2) 0 2 = 0
  · refine fin (-2000000000000) h h ?_ c SW.id_ ?_ c SW.id_
    · unfold q_X10_borne
      simp only [gq_48 c hn, y_X10_isFirm c hn uF, Option.bind_some, a1, if_false, z_X10_isReview, a2, if_true]
    · unfold q_X11_borne
      simp only [gq_159 c hn, y_X11_isFirm c hn uF, Option.bind_some, a1, if_false, z_X11_isReview, a2, if_true]
  obtain ⟨f, F, ea, eF, hF, hf⟩ := ok_firm uF a1
  obtain ⟨r, hr, er⟩ := mm_in_nat (N := 2) (by omega) a2
  obtain ⟨g1, Ls, e1, u1, w1, R⟩ := z_openCF hK c hn j jk jn eF hF hf (show 5 * r + 4 ≤ 14 by omega) (fI h 49 6)
  obtain ⟨g2, e2, u2, w2⟩ := u1.borneAll hK hn (r := r) (by omega) (by omega)
  have sw2 : SW h g2 := w1.trans w2.sw
  obtain ⟨w, e3, m3, sw3⟩ := z_mfOwn hK hn j eF hF hf R u2.1 sw2
  obtain ⟨w', e4, m4, s4'⟩ := m3.borneAll hK hn hr
  have a1' : ¬ mm_in (ni f) 0 (fI h 49 5 - 1) = 0 := by rw [← ea]; exact a1
  have a2' : ¬ mm_in (ni r) 0 2 = 0 := by rw [← er]; exact a2
  have er5 : ni r * 5 = ni (5 * r) := by
    rw [Nat.mul_comm 5 r]
    exact ni_mul r 5
  refine fin (boY h F f Ls (fI h 49 6) r 5) g2 w' ?_ u2.1 sw2 ?_ m4.1 (sw3.trans s4'.sw)
  · unfold q_X10_borne
    rw [ea, er]
    simp only [gq_48 c hn, y_X10_isFirm c hn uF, Option.bind_some, a1', a2', if_false, z_X10_isReview, z_lastYear (K := K) (h := h) (n := n) hr, g_48_0 c hn, g_49_6 c hn, e1, g_48_1 u1.1 hn, gq_73 u1.1 hn, er5, e2]
  · have f49 : fI g2 49 5 = fI h 49 5 := fI_c (sw2.1 49 (by omega)) 5
    unfold q_X11_borne
    rw [ea, er]
    simp only [gq_159 u2.1 hn, y_X11_isFirm u2.1 hn u2.2.1.2.1, f49, Option.bind_some, a1', a2', if_false, z_X11_isReview, e3, gq_159 m3.1 hn, e4]
end BORNE

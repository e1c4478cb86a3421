/-! ===== the lines of a year; what the model tells of them ===== -/
section LINES
variable {K n : Nat} {h : mm_H}
def smS (h : mm_H) (F f : Nat) (Ls : Nat → List Stm) (d : Int32) (y : Nat) : Nat → Int64
  | 0 => 0
  | i + 1 => smS h F f Ls d y i + alS h F f Ls d y i
def lgV (h : mm_H) (F f : Nat) (Ls : Nat → List Stm) (d : Int32) (y : Nat) : Int64 := if lgS h (ni f) (ni y) d (fI h 67 5).toNatClampNeg < smS h F f Ls d y 4 * (numS (wwS h f Ls y) (Ls (y / 5)) 8 0).toInt64 / 100 then 0 else lgS h (ni f) (ni y) d (fI h 67 5).toNatClampNeg
/-- a line -/
def lnS (h : mm_H) (F f : Nat) (Ls : Nat → List Stm) (d : Int32) (y k : Nat) : Int64 :=
  if k < 4 then alS h F f Ls d y k
  else if k = 4 then wrS h f Ls y * (numS (wwS h f Ls y) (Ls (y / 5)) 3 0).toInt64 / 1000
  else if k = 5 then duS h f y (fI h 56 4).toNatClampNeg
  else if k = 6 then -(tbS h f Ls y (fI h 56 4).toNatClampNeg)
  else if k = 14 then lgV h F f Ls d y
  else if y = 0 then 0
  else if k < 10 then eaS h f (y - 1) (k - 7) d (wwS h f Ls (y - 1)) (Ls ((y - 1) / 5))
  else shS h F f (y - 1) (k - 10) d (wwS h f Ls (y - 1)) (Ls ((y - 1) / 5))
theorem z_lgAll (hK : 3000 ≤ K) (hn : 208 ≤ n) {F f y : Nat} {Ls : Nat → List Stm} (hy : y ≤ 14) (d : Int32) (l4 : Int64) : ∀ (m i k : Nat) (g : mm_H), i + m = 4 → m < k → MF K n h F f Ls g → ∃ g', lp_X11_logged_73 K n 159 (ni f) (ni y) d l4 k (smS h F f Ls d y i) (ni i) g = some (smS h F f Ls d y 4, g') ∧ MF K n h F f Ls g' ∧ SX g g' := by
  intro m
  induction m with
  | zero =>
    intro i k g hi hk u
    obtain ⟨k, rfl⟩ : ∃ x, k = x + 1 := ⟨k - 1, by omega⟩
    have : i = 4 := by omega
    subst this
    unfold lp_X11_logged_73
    rw [if_pos (by decide)]
    exact ⟨g, rfl, u, SX.id_⟩
  | succ m ih =>
    intro i k g hi hk u
    obtain ⟨k, rfl⟩ : ∃ x, k = x + 1 := ⟨k - 1, by omega⟩
    obtain ⟨g1, e1, e2, u1, s1⟩ := u.allowed hK hn hy (hd := i) (by omega) d
    obtain ⟨g', r1, r2, r3⟩ := ih (i + 1) k g1 (by omega) (by omega) u1
    refine ⟨g', ?_, r2, s1.trans r3⟩
    unfold lp_X11_logged_73
    rw [if_neg (fun q => by have := (ni_le (a := 4) (by omega) (by omega)).mp q; omega)]
    simp only [gq_159 u.1 hn, Option.bind_some, e1, e2, ni_1]
    exact r1
theorem MF.logged (hK : 3000 ≤ K) (hn : 208 ≤ n) {F f y : Nat} {Ls : Nat → List Stm} {g : mm_H} (u : MF K n h F f Ls g) (hy : y ≤ 14) (d : Int32) : ∃ g', q_X11_logged K g n 159 (ni f) (ni y) d = some (lgV h F f Ls d y, g') ∧ MF K n h F f Ls g' ∧ SX g g' := by
  obtain ⟨u1, u2, u3, -⟩ := id u
  obtain ⟨q0, q1, q2, q3, q4, q5, m, hm, hm20⟩ := id u2.2.2.2.2.2.1
  have hmh : fI h 67 5 = ni m := by rw [← fI_c (u3 67 (by omega)) 5]; exact hm
  obtain ⟨-, l1⟩ := z_logLp (K := K) u1 hn u2.2.2.2.2.2.1 hm hm20 (ni f) (ni y) d K 0 (Nat.zero_le _) (by omega)
  rw [lgS_c u3, lgS_c u3] at l1
  have l1' : lp_X11_logged_6 K g n 159 (ni f) (ni y) d K 0 0 = some (lgS h (ni f) (ni y) d m) := l1
  obtain ⟨g1, e1, v1, s1⟩ := z_lgAll hK hn (F := F) (f := f) (Ls := Ls) (h := h) hy d (lgS h (ni f) (ni y) d m) 4 0 K g rfl (by omega) u
  have e1' : lp_X11_logged_73 K n 159 (ni f) (ni y) d (lgS h (ni f) (ni y) d m) K 0 0 g = some (smS h F f Ls d y 4, g1) := e1
  obtain ⟨g2, e2, v2, s2⟩ := v1.plain hK hn (k := 8) hy (by omega) 0
  have e2' : q_X11_plainOf K g1 n 159 (ni f) (ni y) 8 0 = some (numS (wwS h f Ls y) (Ls (y / 5)) 8 0, g2) := e2
  refine ⟨g2, ?_, v2, s1.trans s2⟩
  unfold q_X11_logged lgV
  simp only [l1', e1', Option.bind_some, gq_159 v1.1 hn, e2', lg_cmp_lt, hmh, ni_tn (show m < 2147483648 by omega)]
  by_cases q : lgS h (ni f) (ni y) d m < smS h F f Ls d y 4 * (numS (wwS h f Ls y) (Ls (y / 5)) 8 0).toInt64 / 100
  · rw [if_pos q, if_pos q]
  · rw [if_neg q, if_neg q]
theorem MF.line (hK : 3000 ≤ K) (hn : 208 ≤ n) {F f y k : Nat} {Ls : Nat → List Stm} {g : mm_H} (u : MF K n h F f Ls g) (hy : y ≤ 14) (hk : k ≤ 14) (d : Int32) : ∃ g', q_X11_lineOf K g n 159 (ni f) (ni y) d (ni k) = some (lnS h F f Ls d y k, g') ∧ MF K n h F f Ls g' ∧ SX g g' := by
  obtain ⟨u1, u2, u3, -, u5, -⟩ := id u
  have kk : ∀ m : Nat, m < 2147483648 → ((ni k = ni m) = (k = m)) := fun m hm => propext (ni_inj (by omega) hm)
  have k4 : (ni k = 4) = (k = 4) := kk 4 (by omega)
  have k5 : (ni k = 5) = (k = 5) := kk 5 (by omega)
  have k6 : (ni k = 6) = (k = 6) := kk 6 (by omega)
  have k14 : (ni k = 14) = (k = 14) := kk 14 (by omega)
  have y0 : (ni y = 0) = (y = 0) := propext (ni_inj (b := 0) (by omega) (by omega))
  have l4 : ((4 : Int32) ≤ ni k) = (4 ≤ k) := propext (ni_le (a := 4) (by omega) (by omega))
  have l10 : ((10 : Int32) ≤ ni k) = (10 ≤ k) := propext (ni_le (a := 10) (by omega) (by omega))
  unfold q_X11_lineOf lnS
  simp only [l4, k4, k5, k6, k14, y0, l10]
  by_cases h4 : k < 4
  · obtain ⟨g1, e1, e2, v1, s1⟩ := u.allowed hK hn hy (hd := k) (by omega) d
    rw [if_neg (by omega), if_pos h4]
    simp only [gq_159 u1 hn, Option.bind_some, e1, e2]
    exact ⟨g1, rfl, v1, s1⟩
  rw [if_pos (by omega), if_neg h4]
  by_cases c4 : k = 4
  · rw [if_pos c4, if_pos c4]
    have i16 : inb (ni y) 16 = true := ni_inb (by omega) (by omega)
    have ty : (ni y).toNatClampNeg = y := ni_tn (by omega)
    obtain ⟨g1, e1, v1, s1⟩ := u.plain hK hn (k := 3) hy (by omega) 0
    have e1' : q_X11_plainOf K g n 159 (ni f) (ni y) 3 0 = some (numS (wwS h f Ls y) (Ls (y / 5)) 3 0, g1) := e1
    simp only [g_159_58 u1 hn, ge_200 u1 hn, i16, ty, if_true, gq_159 u1 hn, Option.bind_some, u5 y (by omega), e1']
    exact ⟨g1, rfl, v1, s1⟩
  rw [if_neg c4, if_neg c4]
  by_cases c5 : k = 5
  · rw [if_pos c5, if_pos c5]
    have du := (z_due hK u1 hn u2.2.2.2.1 (f := f) (y := y)).2
    rw [duS_c u3, fI_c (u3 56 (by omega)) 4] at du
    simp only [gq_159 u1 hn, Option.bind_some, du]
    exact ⟨g, rfl, u, SX.id_⟩
  rw [if_neg c5, if_neg c5]
  by_cases c6 : k = 6
  · rw [if_pos c6, if_pos c6]
    obtain ⟨g1, e1, v1, s1⟩ := u.back hK hn hy
    simp only [gq_159 u1 hn, Option.bind_some, e1]
    exact ⟨g1, rfl, v1, s1⟩
  rw [if_neg c6, if_neg c6]
  by_cases c14 : k = 14
  · rw [if_pos c14, if_pos c14]
    obtain ⟨g1, e1, v1, s1⟩ := u.logged hK hn hy d
    simp only [gq_159 u1 hn, Option.bind_some, e1]
    exact ⟨g1, rfl, v1, s1⟩
  rw [if_neg c14, if_neg c14]
  by_cases z0 : y = 0
  · rw [if_pos z0, if_pos z0]
    exact ⟨g, rfl, u, SX.id_⟩
  rw [if_neg z0, if_neg z0]
  have ey : ni y - 1 = ni (y - 1) := ni_sub (b := 1) (by omega)
  by_cases c10 : k < 10
  · have ek : ni k - 7 = ni (k - 7) := ni_sub (b := 7) (by omega)
    obtain ⟨g1, e1, v1, s1⟩ := u.earned hK hn (y := y - 1) (o := k - 7) (by omega) (by omega) d
    rw [if_neg (by omega), if_pos c10]
    simp only [gq_159 u1 hn, Option.bind_some, ey, ek, e1]
    exact ⟨g1, rfl, v1, s1⟩
  · have ek : ni k - 10 = ni (k - 10) := ni_sub (b := 10) (by omega)
    obtain ⟨g1, e1, v1, s1⟩ := u.shared hK hn (y := y - 1) (hd := k - 10) (by omega) (by omega) d
    rw [if_pos (by omega), if_neg c10]
    simp only [gq_159 u1 hn, Option.bind_some, ey, ek, e1]
    exact ⟨g1, rfl, v1, s1⟩
/-- a year's lines together -/
def rvS (h : mm_H) (F f : Nat) (Ls : Nat → List Stm) (d : Int32) (y : Nat) : Nat → Int64
  | 0 => 0
  | k + 1 => rvS h F f Ls d y k + lnS h F f Ls d y k
theorem z_rvLp (hK : 3000 ≤ K) (hn : 208 ≤ n) {F f y : Nat} {Ls : Nat → List Stm} (hy : y ≤ 14) (d : Int32) : ∀ (m i k : Nat) (g : mm_H), i + m = 15 → m < k → MF K n h F f Ls g → ∃ g', lp_X11_revenueOf_6 K n 159 (ni f) (ni y) d k (rvS h F f Ls d y i) (ni i) g = some (rvS h F f Ls d y 15, g') ∧ MF K n h F f Ls g' ∧ SX g g' := by
  intro m
  induction m with
  | zero =>
    intro i k g hi hk u
    obtain ⟨k, rfl⟩ : ∃ x, k = x + 1 := ⟨k - 1, by omega⟩
    have : i = 15 := by omega
    subst this
    unfold lp_X11_revenueOf_6
    rw [if_pos (by decide)]
    exact ⟨g, rfl, u, SX.id_⟩
  | succ m ih =>
    intro i k g hi hk u
    obtain ⟨k, rfl⟩ : ∃ x, k = x + 1 := ⟨k - 1, by omega⟩
    obtain ⟨g1, e1, u1, s1⟩ := u.line hK hn hy (k := i) (by omega) d
    obtain ⟨g', r1, r2, r3⟩ := ih (i + 1) k g1 (by omega) (by omega) u1
    refine ⟨g', ?_, r2, s1.trans r3⟩
    unfold lp_X11_revenueOf_6
    rw [if_neg (fun q => by have := (ni_le (a := 15) (by omega) (by omega)).mp q; omega)]
    simp only [gq_159 u.1 hn, Option.bind_some, e1, ni_1]
    exact r1
theorem MF.rev (hK : 3000 ≤ K) (hn : 208 ≤ n) {F f y : Nat} {Ls : Nat → List Stm} {g : mm_H} (u : MF K n h F f Ls g) (hy : y ≤ 14) (d : Int32) : ∃ g', q_X11_revenueOf K g n 159 (ni f) (ni y) d = some (rvS h F f Ls d y 15, g') ∧ MF K n h F f Ls g' ∧ SX g g' := by
  obtain ⟨g1, e1, u1, s1⟩ := z_rvLp hK hn (F := F) (f := f) (Ls := Ls) (h := h) hy d 15 0 K g rfl (by omega) u
  have e1' : lp_X11_revenueOf_6 K n 159 (ni f) (ni y) d K 0 0 g = some (rvS h F f Ls d y 15, g1) := e1
  refine ⟨g1, ?_, u1, s1⟩
  unfold q_X11_revenueOf
  rw [e1']
  rfl
end LINES

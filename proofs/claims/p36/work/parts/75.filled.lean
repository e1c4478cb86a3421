/-! ===== the class's lines stand ===== -/
section FILLED
variable {K n : Nat} {h : mm_H}
theorem RW.keep {F f y m : Nat} {d : Int32} {Ls : Nat → List Stm} {g : mm_H} (r : RW h F f Ls d y m g) {m' : Nat} (hm : m ≤ m') (z : ∀ k, m ≤ k → k < m' → lnS h F f Ls d y k = 0) : RW h F f Ls d y m' g := by
  intro j hj
  rw [r j hj]
  by_cases q : j < m
  · rw [if_pos q, if_pos (by omega)]
  · rw [if_neg q]
    by_cases q2 : j < m'
    · rw [if_pos q2, z j (by omega) q2]
    · rw [if_neg q2]
theorem z_fl62 (hK : 3000 ≤ K) (hn : 159 ≤ n) {F f Y a b : Nat} {d : Int32} {Ls : Nat → List Stm} (hY : Y ≤ 15) (hb : b < Y) : ∀ (m y k : Nat) (g : mm_H), y + m = b + 1 → a ≤ y → m < k → CF n h F f d Ls Y g → (∀ z, a - 1 ≤ z → z ≤ b → ∀ i, i < 4 → jA g (109 + z) i = alS h F f Ls d z i) → (∀ z, a ≤ z → z < y → ∀ i, i < 15 → jA g (125 + z) i = lnS h F f Ls d z i) → ∃ g', lp_X7_fillLines_62 K n 73 (ni b) k (ni y) g = some g' ∧ CF n h F f d Ls Y g' ∧ CS g g' ∧ ∀ z, a ≤ z → z ≤ b → ∀ i, i < 15 → jA g' (125 + z) i = lnS h F f Ls d z i := by
  intro m
  induction m with
  | zero =>
    intro y k g hi hay hk u al r
    obtain ⟨k, rfl⟩ : ∃ x, k = x + 1 := ⟨k - 1, by omega⟩
    have : y = b + 1 := by omega
    subst this
    unfold lp_X7_fillLines_62
    rw [if_pos ((ni_lt (by omega) (by omega)).mpr (by omega))]
    exact ⟨g, rfl, u, CS.id_, fun z h1 h2 => r z h1 (by omega)⟩
  | succ m ih =>
    intro y k g hi hay hk u al r
    obtain ⟨k, rfl⟩ : ∃ x, k = x + 1 := ⟨k - 1, by omega⟩
    obtain ⟨g1, e1, u1, s1, r1⟩ := u.fillOf hK hn hY (y := y) (by omega) (al y (by omega) (by omega)) (fun y0 => al (y - 1) (by omega) (by omega))
    obtain ⟨g', q1, q2, q3, q4⟩ := ih (y + 1) k g1 (by omega) (by omega) (by omega) u1 (fun z h1 h2 i hi => by
      rw [jA_c (s1.1 (109 + z) (by omega) (by omega))]
      exact al z h1 h2 i hi) (fun z h1 h2 i hi => by
      by_cases q : z = y
      · rw [q]; exact r1 i hi
      · rw [jA_c (s1.1 (125 + z) (by omega) (by omega))]
        exact r z h1 (by omega) i hi)
    refine ⟨g', ?_, q2, (s1.cs (by omega) (by omega)).trans q3, q4⟩
    unfold lp_X7_fillLines_62
    rw [if_neg (fun q => by have := (ni_lt (by omega) (by omega)).mp q; omega), if_neg (fun q => by have := (ni_le (a := 15) (by omega) (by omega)).mp q; omega)]
    simp only [gq_73 u.1 hn, e1, Option.bind_some, ni_1]
    exact q1
theorem imax_ni {a : Nat} (ha : a < 2147483648) : i_max 0 (ni a) = ni a := by
  unfold i_max
  by_cases q : (0 : Int32) < ni a
  · rw [if_pos q]
  · rw [if_neg q]
    have : ¬ 0 < a := fun z => q ((ni_lt (a := 0) (by omega) ha).mpr z)
    have e : a = 0 := by omega
    rw [e]
    rfl
theorem imax_pr {a : Nat} (ha : a < 2147483648) : i_max 0 (ni a - 1) = ni (a - 1) := by
  by_cases q : a = 0
  · subst q
    decide
  · rw [show ni a - 1 = ni (a - 1) from ni_sub (b := 1) (by omega), imax_ni (by omega)]
theorem CF.fill (hK : 3000 ≤ K) (hn : 159 ≤ n) {F f Y a b : Nat} {d : Int32} {Ls : Nat → List Stm} {g : mm_H} (u : CF n h F f d Ls Y g) (hY : Y ≤ 15) (hab : a ≤ b) (hb : b < Y) : ∃ g', q_X7_fillLines K g n 73 (ni a) (ni b) = some g' ∧ CF n h F f d Ls Y g' ∧ CS g g' ∧ ∀ z, a ≤ z → z ≤ b → ∀ i, i < 15 → jA g' (125 + z) i = lnS h F f Ls d z i := by
  obtain ⟨g1, e1, u1, s1, r1⟩ := z_fl8 hK hn (F := F) (f := f) (d := d) (Ls := Ls) (h := h) (a := a - 1) hY hb (ni a) (b + 1 - (a - 1)) (a - 1) K g (by omega) (by omega) u (fun z h1 h2 => by omega)
  obtain ⟨g2, e2, u2, s2, r2⟩ := z_fl62 hK hn (F := F) (f := f) (d := d) (Ls := Ls) (h := h) (a := a) hY hb (b + 1 - a) a K g1 (by omega) (Nat.le_refl _) (by omega) u1 r1 (fun z h1 h2 => by omega)
  refine ⟨g2, ?_, u2, s1.trans s2, r2⟩
  unfold q_X7_fillLines
  rw [imax_pr (by omega), imax_ni (by omega), e1]
  simp only [Option.bind_some, e2]
theorem z_lineAtC (c : PS h) (hn : 159 ≤ n) {y k : Nat} (hy : y ≤ 14) (hk : k ≤ 14) : q_X7_lineAt K h n 73 (ni y) (ni k) = some (jA h (125 + y) k) := by
  have i15 : inb (ni y) 15 = true := ni_inb (by omega) (by omega)
  have ty : (ni y).toNatClampNeg = y := ni_tn (by omega)
  have y15 : y < 15 := by omega
  have e125 : 124 + 1 + y = 125 + y := by omega
  have lj : ldJ h n (125 + y) (ni k) = some (jA h (125 + y) k) := by
    rw [row_lj c (sh_125 y y15) (by omega) (by omega), if_pos (ni_inb (by omega) (by omega)), ni_tn (by omega)]
  unfold q_X7_lineAt
  rw [if_neg (ni_pos (by omega)), if_neg (fun q => by have := (ni_le (a := 15) (by omega) (by omega)).mp q; omega), if_neg (ni_pos (by omega)), if_neg (fun q => by have := (ni_le (a := 15) (by omega) (by omega)).mp q; omega)]
  simp only [g_73_7 c hn, ge_124 c hn, i15, ty, if_true, y15, Option.bind_some, e125, lj]
theorem z_allLp {g : mm_H} (c : PS g) (hn : 159 ≤ n) {F f y : Nat} {d : Int32} {Ls : Nat → List Stm} (hy : y ≤ 14) (r : ∀ i, i < 15 → jA g (125 + y) i = lnS h F f Ls d y i) : ∀ (m i k : Nat), i + m = 15 → m < k → lp_X7_allLines_5 K g n 73 (ni y) k (rvS h F f Ls d y i) (ni i) = some (rvS h F f Ls d y 15) := by
  intro m
  induction m with
  | zero =>
    intro i k hi hk
    obtain ⟨k, rfl⟩ : ∃ x, k = x + 1 := ⟨k - 1, by omega⟩
    have : i = 15 := by omega
    subst this
    unfold lp_X7_allLines_5
    rw [if_pos (by decide)]
  | succ m ih =>
    intro i k hi hk
    obtain ⟨k, rfl⟩ : ∃ x, k = x + 1 := ⟨k - 1, by omega⟩
    unfold lp_X7_allLines_5
    rw [if_neg (fun q => by have := (ni_le (a := 15) (by omega) (by omega)).mp q; omega)]
    simp only [gq_73 c hn, Option.bind_some, z_lineAtC (K := K) c hn hy (show i ≤ 14 by omega), r i (by omega), ni_1]
    exact ih (i + 1) k (by omega) (by omega)
theorem z_allLines (hK : 3000 ≤ K) {g : mm_H} (c : PS g) (hn : 159 ≤ n) {F f y : Nat} {d : Int32} {Ls : Nat → List Stm} (hy : y ≤ 14) (r : ∀ i, i < 15 → jA g (125 + y) i = lnS h F f Ls d y i) : q_X7_allLines K g n 73 (ni y) = some (rvS h F f Ls d y 15) := by
  have e : lp_X7_allLines_5 K g n 73 (ni y) K 0 0 = some (rvS h F f Ls d y 15) := z_allLp c hn hy r 15 0 K rfl (by omega)
  unfold q_X7_allLines
  rw [e]
  rfl
theorem SW.qe {g : mm_H} (s : SW h g) : QE h g := ⟨fun a _ _ => s.1 a (by omega), s.2 24 (by decide) (by decide) (by decide) (by decide), s.2 56 (by decide) (by decide) (by decide) (by decide), s.2 57 (by decide) (by decide) (by decide) (by decide)⟩
end FILLED

/-! ===== a year's homes, late works, works done: the same on both sides ===== -/
section YEARS
variable {K n : Nat} {h : mm_H}
def mx0 (v : Int32) : Int32 := if v = -1 then 0 else v
/-- homes of a year as they were known on a day -/
def hmT (h : mm_H) (f : Nat) (d : Int32) (y : Nat) : Int32 := 0 + mx0 (kn h f y 11 d) + mx0 (kn h f y 12 d) + mx0 (kn h f y 13 d)
abbrev hmN (h : mm_H) (f : Nat) (d : Int32) (y : Nat) : Prop := kn h f y 11 d = -1 ∧ kn h f y 12 d = -1 ∧ kn h f y 13 d = -1

/-- homes of the latest year below one that tells any -/
def hmS (h : mm_H) (f : Nat) (d : Int32) : Nat → Int32
  | 0 => 0
  | y + 1 => if hmN h f d y then hmS h f d y else hmT h f d y
theorem mx0_max {v : Int32} (q : v = -1 ∨ ∃ k, v = ni k ∧ k ≤ 99999) : i_max 0 v = mx0 v := by
  unfold i_max mx0
  rcases q with e | ⟨k, e, hk⟩
  · rw [e, if_neg (by decide), if_pos rfl]
  · rw [e, if_neg (ni_n1 (by omega))]
    by_cases h0 : (0 : Int32) < ni k
    · rw [if_pos h0]
    · rw [if_neg h0]
      have this : ¬ 0 < k := fun z => h0 ((ni_lt (a := 0) (b := k) (by omega) (by omega)).mpr z)
      have k0 : k = 0 := by omega
      rw [k0]
      rfl
theorem z_h22 (hK : 3000 ≤ K) (c : PS h) (hn : 159 ≤ n) (u : JA h) {f y : Nat} (hf : f ≤ 10) (hy : y ≤ 14) (d : Int32) : lp_X0_latestHomesUpTo_22 K h n 51 (ni f) d (ni y) K 0 0 0 = some (if hmN h f d y then 0 else 1, hmT h f d y) := by
  have k1 := z_X0_knownBy hK c hn u hf hy (w := 11) (by omega) d
  have k2 := z_X0_knownBy hK c hn u hf hy (w := 12) (by omega) d
  have k3 := z_X0_knownBy hK c hn u hf hy (w := 13) (by omega) d
  have s3 : ∀ (k : Nat) (a b : Int32), lp_X0_latestHomesUpTo_22 K h n 51 (ni f) d (ni y) (k + 1) a b 3 = some (a, b) := fun k a b => by
    unfold lp_X0_latestHomesUpTo_22
    rw [if_pos (by decide)]
  have s2 : ∀ (k : Nat) (a b : Int32), lp_X0_latestHomesUpTo_22 K h n 51 (ni f) d (ni y) (k + 2) a b 2 = some (if kn h f y 13 d = -1 then a else 1, b + mx0 (kn h f y 13 d)) := fun k a b => by
    unfold lp_X0_latestHomesUpTo_22
    rw [if_neg (by decide), gq_51 c hn, show (11 : Int32) + 2 = ni 13 by decide, show (2 : Int32) + 1 = 3 by decide, k3]
    simp only [Option.bind_some, s3]
    unfold mx0
    by_cases e : kn h f y 13 d = -1
    · rw [if_pos e, if_pos e, if_pos e, Int32.add_zero]
    · rw [if_neg e, if_neg e, if_neg e]
  have s1 : ∀ (k : Nat) (a b : Int32), lp_X0_latestHomesUpTo_22 K h n 51 (ni f) d (ni y) (k + 3) a b 1 = some (if kn h f y 13 d = -1 then (if kn h f y 12 d = -1 then a else 1) else 1, b + mx0 (kn h f y 12 d) + mx0 (kn h f y 13 d)) := fun k a b => by
    unfold lp_X0_latestHomesUpTo_22
    rw [if_neg (by decide), gq_51 c hn, show (11 : Int32) + 1 = ni 12 by decide, show (1 : Int32) + 1 = 2 by decide, k2]
    simp only [Option.bind_some, s2]
    by_cases e : kn h f y 12 d = -1
    · have m0 : mx0 (kn h f y 12 d) = 0 := by unfold mx0; rw [if_pos e]
      rw [if_pos e, if_pos e, m0, Int32.add_zero]
    · have m0 : mx0 (kn h f y 12 d) = kn h f y 12 d := by unfold mx0; rw [if_neg e]
      rw [if_neg e, if_neg e, m0]
  obtain ⟨k, rfl⟩ : ∃ k, K = k + 4 := ⟨K - 4, by omega⟩
  conv => lhs; unfold lp_X0_latestHomesUpTo_22
  rw [if_neg (by decide), gq_51 c hn, show (11 : Int32) + 0 = ni 11 by decide, show (0 : Int32) + 1 = 1 by decide, k1]
  simp only [Option.bind_some, s1]
  unfold hmT
  by_cases e1 : kn h f y 11 d = -1
  · have m0 : mx0 (kn h f y 11 d) = 0 := by unfold mx0; rw [if_pos e1]
    rw [if_pos e1, m0, Int32.add_zero]
    by_cases e3 : kn h f y 13 d = -1
    · by_cases e2 : kn h f y 12 d = -1
      · rw [if_pos e3, if_pos e2, if_pos ⟨e1, e2, e3⟩]
      · rw [if_pos e3, if_neg e2, if_neg (fun q => e2 q.2.1)]
    · rw [if_neg e3, if_neg (fun q => e3 q.2.2)]
  · have m0 : mx0 (kn h f y 11 d) = kn h f y 11 d := by unfold mx0; rw [if_neg e1]
    rw [if_neg e1, m0, ite_self, ite_self, if_neg (fun q : hmN h f d y => e1 q.1)]
theorem ni_m1 (y : Nat) : ni (y + 1) + (-1) = ni y := by
  rw [← ni_1, Int32.add_assoc, show (1 : Int32) + (-1) = 0 by decide, Int32.add_zero]
theorem z_h9 (hK : 3000 ≤ K) (c : PS h) (hn : 159 ≤ n) (u : JA h) {f : Nat} (hf : f ≤ 10) (d : Int32) : ∀ (y k : Nat), y ≤ 15 → y < k → lp_X0_latestHomesUpTo_9 K h n 51 (ni f) d k 0 0 (ni y + (-1)) = some (hmS h f d y) := by
  intro y
  induction y with
  | zero =>
    intro k _ hk
    obtain ⟨k, rfl⟩ : ∃ z, k = z + 1 := ⟨k - 1, by omega⟩
    unfold lp_X0_latestHomesUpTo_9
    rw [if_pos (by decide)]
    rfl
  | succ y ih =>
    intro k hy hk
    obtain ⟨k, rfl⟩ : ∃ z, k = z + 1 := ⟨k - 1, by omega⟩
    unfold lp_X0_latestHomesUpTo_9
    rw [ni_m1, if_neg (ni_pos (by omega)), if_pos rfl, z_h22 hK c hn u hf (by omega) d]
    simp only [Option.bind_some]
    unfold hmS
    by_cases e : hmN h f d y
    · have t0 : hmT h f d y = 0 := by
        obtain ⟨e1, e2, e3⟩ := e
        unfold hmT
        rw [e1, e2, e3]
        rfl
      rw [if_pos e, if_pos e, t0]
      exact ih k (by omega) (by omega)
    · rw [if_neg e, if_neg e]
      obtain ⟨k, rfl⟩ : ∃ z, k = z + 1 := ⟨k - 1, by omega⟩
      unfold lp_X0_latestHomesUpTo_9
      by_cases e0 : ni y + (-1) < 0
      · rw [if_pos e0]
      · rw [if_neg e0, if_neg (by decide)]
theorem z_homesX0 (hK : 3000 ≤ K) (c : PS h) (hn : 159 ≤ n) (u : JA h) {f y : Nat} (hf : f ≤ 10) (hy : y ≤ 14) (d : Int32) : q_X0_latestHomesUpTo K h n 51 (ni f) (ni y) d = some (hmS h f d (y + 1)) := by
  unfold q_X0_latestHomesUpTo
  have := z_h9 hK c hn u hf d (y + 1) K (by omega) (by omega)
  rw [ni_m1] at this
  rw [this]
  rfl
/-- the day on which a year's review is decided -/
def dcd (y : Nat) : Int32 := ni (500 * (y / 5))
/-- whether a work is late as a year begins -/
def ltB (h : mm_H) (f y w : Nat) : Bool := decide (iA h 57 w = ni f) && (decide (iA h 59 w < ni y) && (decide (iA h 60 w = -1) || !decide (iA h 60 w < ni (100 * y))))
def ltS (h : mm_H) (f y : Nat) : Nat → Nat
  | 0 => 0
  | w + 1 => ltS h f y w + (if ltB h f y w = true then 1 else 0)
theorem ltS_le (h : mm_H) (f y : Nat) : ∀ w, ltS h f y w ≤ w
  | 0 => Nat.le_refl _
  | w + 1 => by
    have := ltS_le h f y w
    unfold ltS
    split <;> omega
theorem z_isLate (c : PS h) (hn : 159 ≤ n) {m : Nat} (hm : fI h 56 4 = ni m) (hm40 : m ≤ 40) {f y w : Nat} (hw : w < m) : q_X9_isLate K h n 56 (ni w) (ni f) (ni y) = some (if ltB h f y w = true then 1 else 0) := by
  have e1 : mm_in (ni w) 0 (ni m - 1) = 1 := by
    rcases in_cnt (m := m) (by omega) (ni w) with ⟨-, e2⟩ | ⟨e1, -⟩
    · exact absurd rfl (e2 w hw)
    · exact e1
  have iw : inb (ni w) 40 = true := ni_inb (by omega) (by omega)
  have tw : (ni w).toNatClampNeg = w := ni_tn (by omega)
  have n10 : ¬ (1 : Int32) = 0 := by decide
  have ey : ni y * 100 = ni (100 * y) := by
    show ni y * ni 100 = _
    rw [ni_mul, Nat.mul_comm]
  unfold q_X9_isLate
  simp only [gq_56 c hn, z_X9_isThere (K := K) c hn hm hm40, e1, n10, if_false, Option.bind_some, g_56_0 c hn, g_56_2 c hn, g_56_3 c hn, ge_57 c hn, ge_59 c hn, ge_60 c hn, iw, tw, if_true, ey]
  unfold ltB
  by_cases h1 : iA h 57 w = ni f
  · rw [if_pos h1, decide_eq_true h1, Bool.true_and]
    by_cases h2 : iA h 59 w < ni y
    · rw [if_pos h2, decide_eq_true h2, Bool.true_and]
      by_cases h3 : iA h 60 w = -1
      · rw [if_pos h3, decide_eq_true h3, Bool.true_or]; rfl
      · rw [if_neg h3, decide_eq_false h3, Bool.false_or]
        by_cases h4 : iA h 60 w < ni (100 * y)
        · rw [if_pos h4, decide_eq_true h4]; rfl
        · rw [if_neg h4, decide_eq_false h4]; rfl
    · rw [if_neg h2, decide_eq_false h2, Bool.false_and]; rfl
  · rw [if_neg h1, decide_eq_false h1, Bool.false_and]; rfl
theorem z_lateLp (c : PS h) (hn : 159 ≤ n) {m : Nat} (hm : fI h 56 4 = ni m) (hm40 : m ≤ 40) {f y : Nat} : ∀ (k w : Nat), w ≤ m → m - w < k → lp_X9_countLate_5 K h n 56 (ni f) (ni y) k (ni (ltS h f y w)) (ni w) = some (ni (ltS h f y m)) := by
  intro k
  induction k with
  | zero => intro w _ q; omega
  | succ k ih =>
    intro w hw hk
    unfold lp_X9_countLate_5
    simp only [g_56_4 c hn, hm, Option.bind_some]
    by_cases hwm : w = m
    · rw [if_pos (by rw [hwm]; exact Int32.le_refl _), hwm]
    · rw [if_neg (fun q => by have := (ni_le (by omega) (by omega)).mp q; omega), if_neg (fun q => by have := (ni_le (a := 40) (by omega) (by omega)).mp q; omega), gq_56 c hn]
      simp only [Option.bind_some, z_isLate (K := K) c hn hm hm40 (f := f) (y := y) (show w < m by omega), ni_1]
      have nx := ih (w + 1) (by omega) (by omega)
      cases hb : ltB h f y w with
      | true =>
        have e : ltS h f y (w + 1) = ltS h f y w + 1 := by
          show ltS h f y w + (if ltB h f y w = true then 1 else 0) = _
          rw [if_pos hb]
        rw [e] at nx
        exact nx
      | false =>
        have e : ltS h f y (w + 1) = ltS h f y w := by
          show ltS h f y w + (if ltB h f y w = true then 1 else 0) = _
          rw [if_neg (by rw [hb]; exact Bool.false_ne_true)]; rfl
        rw [e] at nx
        exact nx
theorem z_countLate (hK : 3000 ≤ K) (c : PS h) (hn : 159 ≤ n) {m : Nat} (hm : fI h 56 4 = ni m) (hm40 : m ≤ 40) {f y : Nat} : q_X9_countLate K h n 56 (ni f) (ni y) = some (ni (ltS h f y m)) := by
  unfold q_X9_countLate
  have e : lp_X9_countLate_5 K h n 56 (ni f) (ni y) K 0 0 = some (ni (ltS h f y m)) := z_lateLp c hn hm hm40 K 0 (Nat.zero_le _) (by omega)
  rw [e]
  rfl
/-- coins of the works done in a year -/
def cdB (h : mm_H) (f y w : Nat) : Bool := decide (iA h 57 w = ni f) && (!decide (iA h 60 w = -1) && decide (iA h 60 w / 100 = ni y))
def cdS (h : mm_H) (f y : Nat) : Nat → Int64
  | 0 => 0
  | w + 1 => if cdB h f y w = true then cdS h f y w + (iA h 58 w).toInt64 else cdS h f y w
theorem z_doneLp (c : PS h) (hn : 159 ≤ n) {m : Nat} (hm : fI h 56 4 = ni m) (hm40 : m ≤ 40) {f y : Nat} : ∀ (k w : Nat), w ≤ m → m - w < k → lp_X9_coinsDone_5 K h n 56 (ni f) (ni y) k (cdS h f y w) (ni w) = some (cdS h f y m) := by
  intro k
  induction k with
  | zero => intro w _ q; omega
  | succ k ih =>
    intro w hw hk
    unfold lp_X9_coinsDone_5
    simp only [g_56_4 c hn, hm, Option.bind_some]
    by_cases hwm : w = m
    · rw [if_pos (by rw [hwm]; exact Int32.le_refl _), hwm]
    · rw [if_neg (fun q => by have := (ni_le (by omega) (by omega)).mp q; omega), if_neg (fun q => by have := (ni_le (a := 40) (by omega) (by omega)).mp q; omega)]
      have iw : inb (ni w) 40 = true := ni_inb (by omega) (by omega)
      have tw : (ni w).toNatClampNeg = w := ni_tn (by omega)
      have nx := ih (w + 1) (by omega) (by omega)
      simp only [Option.bind_some, g_56_0 c hn, g_56_1 c hn, g_56_3 c hn, ge_57 c hn, ge_58 c hn, ge_60 c hn, iw, tw, if_true, ni_1]
      have eS : cdS h f y (w + 1) = if cdB h f y w = true then cdS h f y w + (iA h 58 w).toInt64 else cdS h f y w := rfl
      unfold cdB at eS
      by_cases h1 : iA h 57 w = ni f
      · rw [if_pos h1]
        rw [decide_eq_true h1, Bool.true_and] at eS
        by_cases h2 : iA h 60 w = -1
        · rw [decide_eq_true h2, Bool.not_true, Bool.false_and, if_neg Bool.false_ne_true] at eS
          rw [if_pos h2, ← eS]
          exact nx
        · rw [if_neg h2]
          rw [decide_eq_false h2, Bool.not_false, Bool.true_and] at eS
          by_cases h3 : iA h 60 w / 100 = ni y
          · rw [decide_eq_true h3, if_pos rfl] at eS
            rw [if_pos h3, ← eS]
            exact nx
          · rw [decide_eq_false h3, if_neg Bool.false_ne_true] at eS
            rw [if_neg h3, ← eS]
            exact nx
      · rw [decide_eq_false h1, Bool.false_and, if_neg Bool.false_ne_true] at eS
        rw [if_neg h1, ← eS]
        exact nx
theorem z_coinsDone (hK : 3000 ≤ K) (c : PS h) (hn : 159 ≤ n) {m : Nat} (hm : fI h 56 4 = ni m) (hm40 : m ≤ 40) {f y : Nat} : q_X9_coinsDone K h n 56 (ni f) (ni y) = some (cdS h f y m) := by
  unfold q_X9_coinsDone
  have e : lp_X9_coinsDone_5 K h n 56 (ni f) (ni y) K 0 0 = some (cdS h f y m) := z_doneLp c hn hm hm40 K 0 (Nat.zero_le _) (by omega)
  rw [e]
  rfl
end YEARS

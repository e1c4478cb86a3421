/-! ===== what is taken back, on both sides ===== -/
section BACKS
variable {K n : Nat} {h : mm_H}
def tbO (c : Int64) (bk : Nat → Int64) : Nat → Nat → Int64 → Int64 → Int64
  | 0, _, _, b => b
  | m + 1, y, l, _ => tbO c bk m (y + 1) (l - j_min l (c * bk y / 100)) (j_min l (c * bk y / 100))
def bkS (h : mm_H) (f : Nat) (Ls : Nat → List Stm) (y : Nat) : Int64 := (numS (wwS h f Ls y) (Ls (y / 5)) 6 0).toInt64
/-- what is taken back of a late work in a year -/
def tbW (h : mm_H) (f : Nat) (Ls : Nat → List Stm) (y w : Nat) : Int64 := tbO (iA h 58 w).toInt64 (bkS h f Ls) (y - (iA h 59 w).toNatClampNeg) ((iA h 59 w).toNatClampNeg + 1) (iA h 58 w).toInt64 0
def tbS (h : mm_H) (f : Nat) (Ls : Nat → List Stm) (y : Nat) : Nat → Int64
  | 0 => 0
  | w + 1 => if ltB h f y w = true then tbS h f Ls y w + tbW h f Ls y w else tbS h f Ls y w
theorem ltB_c {g : mm_H} (e : ∀ a, a < 73 → g a = h a) (f y w : Nat) : ltB g f y w = ltB h f y w := by
  unfold ltB
  rw [iA_c (e 57 (by omega)), iA_c (e 59 (by omega)), iA_c (e 60 (by omega))]
/-- lateness in plain numbers -/
theorem lt_num (u : JW h) {w : Nat} (hw : w < (fI h 56 4).toNatClampNeg) : ∃ T du, (if iA h 60 w = -1 then 5000 else iA h 60 w) = ni T ∧ T ≤ 5000 ∧ iA h 59 w = ni du ∧ du ≤ 14 ∧ ∀ f y, y ≤ 14 → (ltB h f y w = true ↔ iA h 57 w = ni f ∧ du < y ∧ 100 * y ≤ T) := by
  obtain ⟨q0, q1, q2, q3, m, hm, hm40, hd, hD⟩ := u
  rw [hm, ni_tn (by omega)] at hw
  obtain ⟨⟨du, e1, e2⟩, e3⟩ := hD w hw
  have lt : ∀ y, y ≤ 14 → ((iA h 59 w < ni y) ↔ du < y) := fun y hy => by rw [e1]; exact ni_lt (by omega) (by omega)
  have go : ∀ T f y, y ≤ 14 → (((decide (iA h 60 w = -1) || !decide (iA h 60 w < ni (100 * y))) = true) ↔ 100 * y ≤ T) → (ltB h f y w = true ↔ iA h 57 w = ni f ∧ du < y ∧ 100 * y ≤ T) := fun T f y hy third => by
    unfold ltB
    rw [Bool.and_eq_true, Bool.and_eq_true, third]
    constructor
    · intro q
      exact ⟨of_decide_eq_true q.1, (lt y hy).mp (of_decide_eq_true q.2.1), q.2.2⟩
    · intro q
      exact ⟨decide_eq_true q.1, decide_eq_true ((lt y hy).mpr q.2.1), q.2.2⟩
  rcases e3 with ⟨d1, d2⟩ | ⟨t, d1, d3, d2⟩
  · refine ⟨5000, du, d2, by omega, e1, e2, fun f y hy => go 5000 f y hy ?_⟩
    rw [decide_eq_true d1, Bool.true_or]
    exact ⟨fun _ => by omega, fun _ => rfl⟩
  · have nd : ¬ iA h 60 w = -1 := by rw [d1]; exact ni_n1 (by omega)
    refine ⟨t, du, d2.trans d1, by omega, e1, e2, fun f y hy => go t f y hy ?_⟩
    rw [decide_eq_false nd, Bool.false_or, d1, Bool.not_eq_true', decide_eq_false_iff_not, ni_lt (by omega) (by omega)]
    omega
theorem z_tbOf (hn : 159 ≤ n) {F f Y ly : Nat} {d : Int32} {Ls : Nat → List Stm} {g : mm_H} (u : CF n h F f d Ls Y g) (hY : Y ≤ 15) (hly : ly < Y) (c : Int64) : ∀ (m y k : Nat) (l b : Int64), y + m = ly + 1 → m < k → lp_X7_takenBackOf_34 K g n 73 (ni ly) c k l b (ni y) = some (tbO c (bkS h f Ls) m y l b) := by
  intro m
  induction m with
  | zero =>
    intro y k l b hy hk
    obtain ⟨k, rfl⟩ : ∃ x, k = x + 1 := ⟨k - 1, by omega⟩
    unfold lp_X7_takenBackOf_34
    rw [if_pos ((ni_lt (by omega) (by omega)).mpr (by omega))]
    rfl
  | succ m ih =>
    intro y k l b hy hk
    obtain ⟨k, rfl⟩ : ∃ x, k = x + 1 := ⟨k - 1, by omega⟩
    have na : q_X7_numberAt K g n 73 (ni y) 6 = some (numS (wwS h f Ls y) (Ls (y / 5)) 6 0) := by
      rw [show (6 : Int32) = ni 6 from rfl, z_numberAt u.1 hn (by omega) (by omega) (by omega), (u.2.2.2.2.2.1 y (by omega)).2 6 (by omega) (by omega)]
      rfl
    unfold lp_X7_takenBackOf_34
    rw [if_neg (fun q => by have := (ni_lt (by omega) (by omega)).mp q; omega)]
    simp only [gq_73 u.1 hn, Option.bind_some, na, q_X8_hundredths, ni_1]
    exact ih (y + 1) k _ _ (by omega) (by omega)
theorem z_tbIn (hK : 3000 ≤ K) (hn : 159 ≤ n) {F f Y ly : Nat} {d : Int32} {Ls : Nat → List Stm} {g : mm_H} (u : CF n h F f d Ls Y g) (hY : Y ≤ 15) (hly : ly < Y) : q_X7_takenBackIn K g n 73 (ni ly) = some (tbS h f Ls ly (fI h 56 4).toNatClampNeg) := by
  obtain ⟨u1, u2, u3, u4, -⟩ := id u
  obtain ⟨q0, q1, q2, q3, m, hm, hm40, -⟩ := id u2.2.2.2.1
  have hmh : fI h 56 4 = ni m := by rw [← fI_c (u3 56 (by omega)) 4]; exact hm
  have lp : ∀ (k w : Nat), w ≤ m → m - w < k → lp_X7_takenBackIn_5 K g n 73 (ni ly) k (tbS h f Ls ly w) (ni w) = some (tbS h f Ls ly m) := by
    intro k
    induction k with
    | zero => intro w _ q; omega
    | succ k ih =>
      intro w hw hk
      unfold lp_X7_takenBackIn_5
      simp only [g_73_0 u1 hn, g_49_2 u1 hn, g_56_4 u1 hn, hm, Option.bind_some]
      by_cases hwm : w = m
      · rw [if_pos (by rw [hwm]; exact Int32.le_refl _), hwm]
      · rw [if_neg (fun q => by have := (ni_le (by omega) (by omega)).mp q; omega)]
        have hw' : w < m := by omega
        have il := z_isLate (K := K) u1 hn hm hm40 (f := f) (y := ly) hw'
        rw [ltB_c u3] at il
        have eS : tbS h f Ls ly (w + 1) = if ltB h f ly w = true then tbS h f Ls ly w + tbW h f Ls ly w else tbS h f Ls ly w := rfl
        have nx := ih (w + 1) (by omega) (by omega)
        simp only [Option.bind_some, g_73_11 u1 hn, u4, gq_56 u1 hn, il, ni_1]
        by_cases hb : ltB h f ly w = true
        · rw [if_pos hb] at eS
          have v1 : ¬ (if ltB h f ly w = true then (1 : Int32) else 0) = 0 := by rw [if_pos hb]; decide
          rw [if_neg v1]
          obtain ⟨T, du, -, -, e59, hdu, iff⟩ := lt_num u2.2.2.2.1 (w := w) (by rw [hm, ni_tn (by omega)]; exact hw')
          have hlt := ((iff f ly (by omega)).mp (by rw [ltB_c u3]; exact hb)).2.1
          have th : mm_in (ni w) 0 (ni m - 1) = 1 := by
            rcases in_cnt (m := m) (by omega) (ni w) with ⟨-, e2⟩ | ⟨e1, -⟩
            · exact absurd rfl (e2 w hw')
            · exact e1
          have n10 : ¬ (1 : Int32) = 0 := by decide
          have iw : inb (ni w) 40 = true := ni_inb (by omega) (by omega)
          have tw : (ni w).toNatClampNeg = w := ni_tn (by omega)
          have co : q_X9_coinsOf K g n 56 (ni w) = some (iA h 58 w) := by
            unfold q_X9_coinsOf
            simp only [gq_56 u1 hn, z_X9_isThere (K := K) u1 hn hm hm40, th, n10, if_false, Option.bind_some, g_56_1 u1 hn, ge_58 u1 hn, iw, tw, if_true]
            rw [iA_c (u3 58 (by omega))]
          have dO : q_X9_dueOf K g n 56 (ni w) = some (ni du) := by
            unfold q_X9_dueOf
            simp only [gq_56 u1 hn, z_X9_isThere (K := K) u1 hn hm hm40, th, n10, if_false, Option.bind_some, g_56_2 u1 hn, ge_59 u1 hn, iw, tw, if_true, e59]
          have ob := z_tbOf (K := K) hn u hY hly (iA h 58 w).toInt64 (ly - du) (du + 1) K (iA h 58 w).toInt64 0 (by omega) (by omega)
          have tbw : tbO (iA h 58 w).toInt64 (bkS h f Ls) (ly - du) (du + 1) (iA h 58 w).toInt64 0 = tbW h f Ls ly w := by
            unfold tbW
            rw [← iA_c (u3 59 (by omega)), e59, ni_tn (by omega)]
          have tb : q_X7_takenBackOf K g n 73 (ni w) (ni ly) = some (tbW h f Ls ly w) := by
            unfold q_X7_takenBackOf
            simp only [g_73_0 u1 hn, g_49_2 u1 hn, gq_56 u1 hn, Option.bind_some, co, dO, ni_1, ob, tbw]
          simp only [gq_73 u1 hn, Option.bind_some, tb]
          rw [← eS]
          exact nx
        · rw [if_neg hb] at eS
          have v0 : (if ltB h f ly w = true then (1 : Int32) else 0) = 0 := if_neg hb
          rw [if_pos v0, ← eS]
          exact nx
  have e : lp_X7_takenBackIn_5 K g n 73 (ni ly) K 0 0 = some (tbS h f Ls ly m) := lp K 0 (Nat.zero_le _) (by omega)
  unfold q_X7_takenBackIn
  rw [e, hmh, ni_tn (by omega)]
  rfl
end BACKS

/-! ===== coins due, what is logged, what is borne ===== -/
section PIECES
variable {K n : Nat} {h : mm_H}
/-- coins of a firm's works that are due in a year -/
def duS (h : mm_H) (f y : Nat) : Nat → Int64
  | 0 => 0
  | w + 1 => if iA h 57 w = ni f ∧ iA h 59 w = ni y then duS h f y w + (iA h 58 w).toInt64 else duS h f y w
theorem duS_c {g : mm_H} (e : ∀ a, a < 73 → g a = h a) (f y : Nat) : ∀ w, duS g f y w = duS h f y w
  | 0 => rfl
  | w + 1 => by
    unfold duS
    rw [duS_c e f y w, iA_c (e 57 (by omega)), iA_c (e 58 (by omega)), iA_c (e 59 (by omega))]
theorem z_dueLp (c : PS h) (hn : 159 ≤ n) (u : JW h) {f y : Nat} : ∀ (k w : Nat), w ≤ (fI h 56 4).toNatClampNeg → (fI h 56 4).toNatClampNeg - w < k → lp_X9_coinsDue_5 K h n 56 (ni f) (ni y) k (duS h f y w) (ni w) = some (duS h f y (fI h 56 4).toNatClampNeg) ∧ True := by
  obtain ⟨-, -, -, -, m, hm, hm40, hd, hD⟩ := u
  rw [hm, ni_tn (by omega)]
  intro k
  induction k with
  | zero => intro w _ q; omega
  | succ k ih =>
    intro w hw hk
    unfold lp_X9_coinsDue_5
    simp only [g_56_4 c hn, hm, Option.bind_some]
    by_cases hwm : w = m
    · rw [if_pos (by rw [hwm]; exact Int32.le_refl _), hwm]
      exact ⟨rfl, trivial⟩
    · rw [if_neg (fun q => by have := (ni_le (by omega) (by omega)).mp q; omega), if_neg (fun q => by have := (ni_le (a := 40) (by omega) (by omega)).mp q; omega)]
      have iw : inb (ni w) 40 = true := ni_inb (by omega) (by omega)
      have tw : (ni w).toNatClampNeg = w := ni_tn (by omega)
      have nx := ih (w + 1) (by omega) (by omega)
      simp only [Option.bind_some, g_56_0 c hn, g_56_1 c hn, g_56_2 c hn, ge_57 c hn, ge_58 c hn, ge_59 c hn, iw, tw, if_true, ni_1]
      have eS : duS h f y (w + 1) = if iA h 57 w = ni f ∧ iA h 59 w = ni y then duS h f y w + (iA h 58 w).toInt64 else duS h f y w := rfl
      by_cases h1 : iA h 57 w = ni f
      · rw [if_pos h1]
        by_cases h2 : iA h 59 w = ni y
        · rw [if_pos ⟨h1, h2⟩] at eS
          rw [if_pos h2, ← eS]
          exact nx
        · rw [if_neg (fun z => h2 z.2)] at eS
          rw [if_neg h2, ← eS]
          exact nx
      · rw [if_neg (fun z => h1 z.1)] at eS
        rw [if_neg h1, ← eS]
        exact nx
theorem z_due (hK : 3000 ≤ K) (c : PS h) (hn : 159 ≤ n) (u : JW h) {f y : Nat} : q_X9_coinsDue K h n 56 (ni f) (ni y) = some (duS h f y (fI h 56 4).toNatClampNeg) ∧ True := by
  obtain ⟨-, -, -, -, m, hm, hm40, -⟩ := id u
  obtain ⟨e1, -⟩ := z_dueLp (K := K) c hn u (f := f) (y := y) K 0 (Nat.zero_le _) (by rw [hm, ni_tn (by omega)]; omega)
  have e1' : lp_X9_coinsDue_5 K h n 56 (ni f) (ni y) K 0 0 = some (duS h f y (fI h 56 4).toNatClampNeg) := e1
  unfold q_X9_coinsDue
  rw [e1']
  exact ⟨rfl, trivial⟩
/-- what is logged for a year -/
def lgS (h : mm_H) (f y d : Int32) : Nat → Int64
  | 0 => 0
  | i + 1 => if iA h 68 i = f ∧ iA h 70 i = y ∧ ¬ d < iA h 72 i then lgS h f y d i + (iA h 71 i).toInt64 else lgS h f y d i
theorem lgS_c {g : mm_H} (e : ∀ a, a < 73 → g a = h a) (f y d : Int32) : ∀ w, lgS g f y d w = lgS h f y d w
  | 0 => rfl
  | w + 1 => by
    unfold lgS
    rw [lgS_c e f y d w, iA_c (e 68 (by omega)), iA_c (e 70 (by omega)), iA_c (e 71 (by omega)), iA_c (e 72 (by omega))]
theorem z_logLp (c : PS h) (hn : 159 ≤ n) (u : JL h) {m : Nat} (hm : fI h 67 5 = ni m) (hm20 : m ≤ 20) (f y d : Int32) : ∀ (k i : Nat), i ≤ m → m - i < k → lp_X1_allKnown_6 K h n 67 f 0 y d k (lgS h f y d i) (ni i) = some (lgS h f y d m) ∧ True := by
  obtain ⟨-, -, -, -, -, q5, -⟩ := u
  intro k
  induction k with
  | zero => intro i _ q; omega
  | succ k ih =>
    intro i hi hk
    unfold lp_X1_allKnown_6
    simp only [g_67_5 c hn, hm, Option.bind_some]
    by_cases him : i = m
    · rw [if_pos (by rw [him]; exact Int32.le_refl _), him]
      exact ⟨rfl, trivial⟩
    · rw [if_neg (fun q => by have := (ni_le (by omega) (by omega)).mp q; omega), if_neg (fun q => by have := (ni_le (a := 20) (by omega) (by omega)).mp q; omega), gq_67 c hn]
      have i20 : inb (ni i) 20 = true := ni_inb (by omega) (by omega)
      have ti : (ni i).toNatClampNeg = i := ni_tn (by omega)
      have n10 : ¬ (1 : Int32) = 0 := by decide
      have nx := ih (i + 1) (by omega) (by omega)
      have eS : lgS h f y d (i + 1) = if iA h 68 i = f ∧ iA h 70 i = y ∧ ¬ d < iA h 72 i then lgS h f y d i + (iA h 71 i).toInt64 else lgS h f y d i := rfl
      have isOf : q_X1_isOf K h n 67 (ni i) f 0 y = some (if iA h 68 i = f ∧ iA h 70 i = y then 1 else 0) := by
        unfold q_X1_isOf
        rw [if_neg (ni_pos (by omega)), if_neg (fun q => by have := (ni_le (a := 20) (by omega) (by omega)).mp q; omega)]
        simp only [g_67_0 c hn, g_67_1 c hn, g_67_2 c hn, ge_68 c hn, ge_69 c hn, ge_70 c hn, i20, ti, if_true, Option.bind_some, q5]
        by_cases h1 : iA h 68 i = f
        · by_cases h3 : iA h 70 i = y
          · rw [if_pos h1, if_pos h3, if_pos ⟨h1, h3⟩]
          · rw [if_pos h1, if_neg h3, if_neg (fun z => h3 z.2)]
        · rw [if_neg h1, if_neg (fun z => h1 z.1)]
      simp only [Option.bind_some, isOf, g_67_3 c hn, g_67_4 c hn, ge_71 c hn, ge_72 c hn, i20, ti, if_true, ni_1]
      by_cases h1 : iA h 68 i = f
      · by_cases h3 : iA h 70 i = y
        · have v1 : (if iA h 68 i = f ∧ iA h 70 i = y then (1 : Int32) else 0) = 1 := if_pos ⟨h1, h3⟩
          rw [if_neg (fun q => n10 (v1.symm.trans q))]
          by_cases h4 : d < iA h 72 i
          · rw [if_neg (fun z => z.2.2 h4)] at eS
            rw [if_pos h4, ← eS]
            exact nx
          · rw [if_pos ⟨h1, h3, h4⟩] at eS
            rw [if_neg h4, ← eS]
            exact nx
        · rw [if_neg (fun z => h3 z.2.1)] at eS
          have v0 : (if iA h 68 i = f ∧ iA h 70 i = y then (1 : Int32) else 0) = 0 := if_neg (fun z => h3 z.2)
          rw [if_pos v0, ← eS]
          exact nx
      · rw [if_neg (fun z => h1 z.1)] at eS
        have v0 : (if iA h 68 i = f ∧ iA h 70 i = y then (1 : Int32) else 0) = 0 := if_neg (fun z => h1 z.1)
        rw [if_pos v0, ← eS]
        exact nx
/-- what of over or under a firm bears or keeps -/
def brS (s : Stm) (v : Int64) : Int64 := if v ≤ 0 then v * (ni (sB s)).toInt64 / 100 else v * (ni (sA s)).toInt64 / 100
def brO (w : Nat → Int64) (L : List Stm) (hd : Nat) (v : Int64) : Int64 := match lastS w 1 hd L 0 none with
  | none => 0
  | some i => match L[i]? with
    | some s => brS s v
    | none => 0
theorem z_bornePart (c : PS h) (hn : 159 ≤ n) {y hd : Nat} {z : Int32} {L : List Stm} {w : Nat → Int64} (hy : y ≤ 14) (hhd : hd ≤ 3) (R : RS h n (rA h 74 (y / 5)) z L) (cy : iA h (76 + y) (slotK 1 hd) = oI (lastS w 1 hd L 0 none)) (v : Int64) : q_X7_bornePart K h n 73 (ni y) (ni hd) v = some (brO w L hd v) := by
  unfold q_X7_bornePart brO
  rw [gq_73 c hn]
  rcases z_ruleAt (K := K) c hn hy R (k := 1) (o := hd) (Or.inl ⟨by omega, hhd⟩) cy with ⟨q1, q2⟩ | ⟨i, s, p, q1, q2, k1, o0, os, q3, rr⟩
  · have q2' : q_X7_ruleAt K h n 73 (ni y) 1 (ni hd) = some none := q2
    simp only [Option.bind_some, q2', q1]
  · have q3' : q_X7_ruleAt K h n 73 (ni y) 1 (ni hd) = some (some p) := q3
    obtain ⟨hp, hpn, u, e1, -⟩ := id rr
    have r4 : rdI h n p 5 4 = some (ni (sA s)) := by
      have := rdI_o (h := h) (n := n) (k := 4) (x := if sK s = 0 then ni (sB s) else ni (sA s)) (by omega) e1 rfl
      rw [if_neg (by omega)] at this
      exact this
    have r5 : rdI h n p 5 5 = some (ni (sB s)) := by
      have := rdI_o (h := h) (n := n) (k := 5) (x := if sK s = 1 then ni (sB s) else 0) (by omega) e1 rfl
      rw [if_pos k1] at this
      exact this
    simp only [Option.bind_some, q3', q1, q2, lg_cmp_le, r4, r5, q_X8_hundredths]
    unfold brS
    by_cases hv : v ≤ 0
    · rw [if_pos hv, if_pos hv]
    · rw [if_neg hv, if_neg hv]
end PIECES

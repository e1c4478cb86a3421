/-! ===== coins due, what is logged, what is borne ===== -/
section PIECES
variable {K n : Nat} {h : mm_H}
/-- coins of a firm's works that are due in a year -/
def duS (h : mm_H) (f y : Nat) : Nat → Int64
  | 0 => 0
  | w + 1 => if iA h 57 w = ni f ∧ iA h 59 w = ni y then duS h f y w + (iA h 58 w).toInt64 else duS h f y w
theorem duS_c {g : mm_H} (e : ∀ a, a < 73 → g a = h a) (f y : Nat) : ∀ w, duS g f y w = duS h f y w
  | 0 => rfl
  | w + 1 => by
    unfold duS
    rw [duS_c e f y w, iA_c (e 57 (by omega)), iA_c (e 58 (by omega)), iA_c (e 59 (by omega))]
/-- what is logged for a year -/
def lgS (h : mm_H) (f y d : Int32) : Nat → Int64
  | 0 => 0
  | i + 1 => if iA h 68 i = f ∧ iA h 70 i = y ∧ ¬ d < iA h 72 i then lgS h f y d i + (iA h 71 i).toInt64 else lgS h f y d i
theorem lgS_c {g : mm_H} (e : ∀ a, a < 73 → g a = h a) (f y d : Int32) : ∀ w, lgS g f y d w = lgS h f y d w
  | 0 => rfl
  | w + 1 => by
    unfold lgS
    rw [lgS_c e f y d w, iA_c (e 68 (by omega)), iA_c (e 70 (by omega)), iA_c (e 71 (by omega)), iA_c (e 72 (by omega))]
/-- what of over or under a firm bears or keeps -/
def brS (s : Stm) (v : Int64) : Int64 := if v ≤ 0 then v * (ni (sB s)).toInt64 / 100 else v * (ni (sA s)).toInt64 / 100
def brO (w : Nat → Int64) (L : List Stm) (hd : Nat) (v : Int64) : Int64 := match lastS w 1 hd L 0 none with
  | none => 0
  | some i => match L[i]? with
    | some s => brS s v
    | none => 0
theorem z_bornePart (c : PS h) (hn : 159 ≤ n) {y hd : Nat} {z : Int32} {L : List Stm} {w : Nat → Int64} (hy : y ≤ 14) (hhd : hd ≤ 3) (R : RS h n (rA h 74 (y / 5)) z L) (cy : iA h (76 + y) (slotK 1 hd) = oI (lastS w 1 hd L 0 none)) (v : Int64) : q_X7_bornePart K h n 73 (ni y) (ni hd) v = some (brO w L hd v) := by
  unfold q_X7_bornePart brO
  rw [gq_73 c hn]
  rcases z_ruleAt (K := K) c hn hy R (k := 1) (o := hd) (Or.inl ⟨by omega, hhd⟩) cy with ⟨q1, q2⟩ | ⟨i, s, p, q1, q2, k1, o0, os, q3, rr⟩
  · have q2' : q_X7_ruleAt K h n 73 (ni y) 1 (ni hd) = some none := q2
    simp only [Option.bind_some, q2', q1]
  · have q3' : q_X7_ruleAt K h n 73 (ni y) 1 (ni hd) = some (some p) := q3
    obtain ⟨hp, hpn, u, e1, -⟩ := id rr
    have r4 : rdI h n p 5 4 = some (ni (sA s)) := by
      have := rdI_o (h := h) (n := n) (k := 4) (x := if sK s = 0 then ni (sB s) else ni (sA s)) (by omega) e1 rfl
      rw [if_neg (by omega)] at this
      exact this
    have r5 : rdI h n p 5 5 = some (ni (sB s)) := by
      have := rdI_o (h := h) (n := n) (k := 5) (x := if sK s = 1 then ni (sB s) else 0) (by omega) e1 rfl
      rw [if_pos k1] at this
      exact this
    simp only [Option.bind_some, q3', q1, q2, lg_cmp_le, r4, r5, q_X8_hundredths]
    unfold brS
    by_cases hv : v ≤ 0
    · rw [if_pos hv, if_pos hv]
    · rw [if_neg hv, if_neg hv]
end PIECES

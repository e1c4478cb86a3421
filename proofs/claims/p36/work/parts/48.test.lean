/-! ===== what a test answers: the class counts in bits, the model walks its nodes ===== -/
section TEST
variable {K n : Nat} {h : mm_H}
theorem ni_sub {a b : Nat} (hb : b ≤ a) : ni a - ni b = ni (a - b) := by
  have e : ni a = ni (a - b) + ni b := by rw [ni_add, Nat.sub_add_cancel hb]
  rw [e, Int32.add_sub_cancel]
/-- whether a comparison holds -/
def cmpV (w : Nat → Int64) (t : Int32) : Bool :=
  if t.toNatClampNeg % 3 = 0 then decide (w (t.toNatClampNeg / 3 % 5) < (ni (t.toNatClampNeg / 3 / 5)).toInt64)
  else if t.toNatClampNeg % 3 = 1 then decide ((ni (t.toNatClampNeg / 3 / 5)).toInt64 < w (t.toNatClampNeg / 3 % 5))
  else decide (w (t.toNatClampNeg / 3 % 5) = (ni (t.toNatClampNeg / 3 / 5)).toInt64)
/-- what waits behind a test -/
def evP (w : Nat → Int64) : List Bool → List Int32 → List Bool
  | st, [] => st
  | st, t :: L =>
    if t = -1 then match st with
      | a :: s => evP w ((!a) :: s) L
      | [] => []
    else if t = -2 then match st with
      | b :: a :: s => evP w ((a && b) :: s) L
      | _ => []
    else if t = -3 then match st with
      | b :: a :: s => evP w ((a || b) :: s) L
      | _ => []
    else evP w (cmpV w t :: st) L
def tstV (w : Nat → Int64) (L : List Int32) : Bool := (evP w [] L).headD false
theorem cmp_dec {a s k : Nat} (ha : a < 5) (hs : s < 3) (hk : k ≤ 99999) : (cmpI a s k).toNatClampNeg = (k * 5 + a) * 3 + s ∧ ((k * 5 + a) * 3 + s) / 3 = k * 5 + a ∧ (k * 5 + a) / 5 = k ∧ (k * 5 + a) % 5 = a ∧ ((k * 5 + a) * 3 + s) % 3 = s := ⟨ni_tn (by omega), by omega, by omega, by omega, by omega⟩
theorem cmp_v {a s k : Nat} (ha : a < 5) (hs : s < 3) (hk : k ≤ 99999) (w : Nat → Int64) : cmpV w (cmpI a s k) = if s = 0 then decide (w a < (ni k).toInt64) else if s = 1 then decide ((ni k).toInt64 < w a) else decide (w a = (ni k).toInt64) := by
  obtain ⟨e1, e2, e3, e4, e5⟩ := cmp_dec ha hs hk
  unfold cmpV
  rw [e1, e2, e3, e4, e5]
theorem cmp_ne {a s k : Nat} (hk : k ≤ 99999) (ha : a < 5) (hs : s < 3) : cmpI a s k ≠ -1 ∧ cmpI a s k ≠ -2 ∧ cmpI a s k ≠ -3 := by
  have g : ∀ x : Int32, x.toInt < 0 → cmpI a s k ≠ x := fun x hx e => by
    have := congrArg Int32.toInt e
    unfold cmpI at this
    rw [ni_int (by omega)] at this
    omega
  exact ⟨g _ (by decide), g _ (by decide), g _ (by decide)⟩
theorem z_compares (c : PS h) (hn : 159 ≤ n) {r a s k : Nat} (ha : a < 5) (hs : s < 3) (hk : k ≤ 99999) : q_X5_compares K h n r (cmpI a s k) (some 142) = some (if cmpV (jA h 142) (cmpI a s k) = true then 1 else 0) := by
  obtain ⟨e1, e2, e3, e4, e5⟩ := cmp_dec ha hs hk
  rw [cmp_v ha hs hk]
  have d1 : cmpI a s k / 3 = ni (k * 5 + a) := by
    show ni ((k * 5 + a) * 3 + s) / ni 3 = _
    rw [ni_div (by omega) (by omega), e2]
  have d2 : ni (k * 5 + a) / 5 = ni k := by
    show ni (k * 5 + a) / ni 5 = _
    rw [ni_div (by omega) (by omega), e3]
  have d3 : ni (k * 5 + a) - ni k * 5 = ni a := by
    show _ - ni k * ni 5 = _
    rw [ni_mul, ni_sub (by omega)]
    congr 1
    omega
  have d4 : cmpI a s k - ni (k * 5 + a) * 3 = ni s := by
    show ni ((k * 5 + a) * 3 + s) - ni (k * 5 + a) * ni 3 = _
    rw [ni_mul, ni_sub (by omega)]
    congr 1
    omega
  have p0 : ¬ ni a < 0 := ni_pos (by omega)
  have p1 : ni a < 5 := (ni_lt (b := 5) (by omega) (by omega)).mpr ha
  have i5 : inb (ni a) 5 = true := ni_inb (by omega) ha
  have t5 : (ni a).toNatClampNeg = a := ni_tn (by omega)
  have s0 : (ni s = 0) = (s = 0) := propext (ni_inj (b := 0) (by omega) (by omega))
  have s1 : (ni s = 1) = (s = 1) := propext (ni_inj (b := 1) (by omega) (by omega))
  unfold q_X5_compares
  simp only [d1, d2, d3, d4, p0, if_false, Option.bind_some, gl_142 c hn, p1, if_true, ge_142 c hn, i5, t5, s0, s1, lg_cmp_ge, lg_cmp_le, lg_cmp_eq]
  by_cases h0 : s = 0
  · rw [if_pos h0, if_pos h0]
    by_cases q : jA h 142 a < (ni k).toInt64
    · rw [if_neg (fun z => absurd q (Int64.not_lt.mpr z)), if_pos (decide_eq_true q)]
    · rw [if_pos (Int64.not_lt.mp q), if_neg (by rw [decide_eq_false q]; decide)]
  rw [if_neg h0, if_neg h0]
  by_cases h1 : s = 1
  · rw [if_pos h1, if_pos h1]
    by_cases q : (ni k).toInt64 < jA h 142 a
    · rw [if_neg (fun z => absurd q (Int64.not_lt.mpr z)), if_pos (decide_eq_true q)]
    · rw [if_pos (Int64.not_lt.mp q), if_neg (by rw [decide_eq_false q]; decide)]
  rw [if_neg h1, if_neg h1]
  by_cases q : jA h 142 a = (ni k).toInt64
  · rw [if_pos q, if_pos (decide_eq_true q)]
  · rw [if_neg q, if_neg (by rw [decide_eq_false q]; decide)]
/-- the bits of a number are these answers, the last one lowest -/
def waitB (l : Int64) (st : List Bool) : Prop := ∀ i, i < 64 → l.toBitVec.getLsbD i = st.getD i false
theorem waitB_nil : waitB 0 [] := by
  intro i hi
  show (0 : Int64).toBitVec.getLsbD i = false
  rw [show (0 : Int64).toBitVec = 0#64 from rfl]
  exact BitVec.getLsbD_zero
theorem sh1 : ((Int32.toInt64 1) &&& 63 : Int64) = 1 := by decide
theorem bL (l : Int64) (i : Nat) (hi : i < 64) : (l <<< ((Int32.toInt64 1) &&& 63)).toBitVec.getLsbD i = (!decide (i < 1) && l.toBitVec.getLsbD (i - 1)) := by
  rw [sh1, Int64.toBitVec_shiftLeft, BitVec.getLsbD_shiftLeft', decide_eq_true hi, Bool.true_and]
  rfl
theorem bR (l : Int64) (i : Nat) (hi : i < 63) : (l >>> ((Int32.toInt64 1) &&& 63)).toBitVec.getLsbD i = l.toBitVec.getLsbD (i + 1) := by
  rw [sh1, Int64.toBitVec_shiftRight, BitVec.getLsbD_sshiftRight']
  have e : ((1 : Int64).toBitVec.smod 64#64).toNat = 1 := by decide
  rw [show (1 : Int64).toBitVec.smod 64 = (1 : Int64).toBitVec.smod 64#64 from rfl, e, decide_eq_false (by omega), if_pos (by omega), Nat.add_comm]
  rfl
theorem bR63 (l : Int64) : (l >>> ((Int32.toInt64 1) &&& 63)).toBitVec.getLsbD 63 = l.toBitVec.getLsbD 63 := by
  rw [sh1, Int64.toBitVec_shiftRight, BitVec.getLsbD_sshiftRight']
  have e : ((1 : Int64).toBitVec.smod 64#64).toNat = 1 := by decide
  rw [show (1 : Int64).toBitVec.smod 64 = (1 : Int64).toBitVec.smod 64#64 from rfl, e, decide_eq_false (by omega), if_neg (by omega), BitVec.msb_eq_getLsbD_last]
  rfl
theorem b1 (i : Nat) : (1 : Int64).toBitVec.getLsbD i = decide (i = 0) := by
  rw [show (1 : Int64).toBitVec = 1#64 from rfl, BitVec.getLsbD_one]
  rfl
theorem bm2 : ∀ i, i < 64 → (-2 : Int64).toBitVec.getLsbD i = !decide (i = 0) := by decide
theorem getD_big {st : List Bool} {i : Nat} (q : st.length ≤ i) : st.getD i false = false := by
  rw [List.getD_eq_getElem?_getD, List.getElem?_eq_none_iff.mpr q]
  rfl
theorem waitB_push {l : Int64} {st : List Bool} (e : waitB l st) (b : Bool) : waitB ((l <<< ((Int32.toInt64 1) &&& 63)) ||| Int32.toInt64 (if b = true then 1 else 0)) (b :: st) := by
  intro i hi
  rw [Int64.toBitVec_or, BitVec.getLsbD_or, bL l i hi]
  cases i with
  | zero =>
    cases b
    · rfl
    · rfl
  | succ i =>
    have z : (Int32.toInt64 (if b = true then 1 else 0)).toBitVec.getLsbD (i + 1) = false := by
      cases b
      · show (Int32.toInt64 0).toBitVec.getLsbD (i + 1) = false
        rw [show (Int32.toInt64 0).toBitVec = 0#64 from by decide]
        exact BitVec.getLsbD_zero
      · show (Int32.toInt64 1).toBitVec.getLsbD (i + 1) = false
        rw [show (Int32.toInt64 1) = (1 : Int64) from by decide, b1]
        exact decide_eq_false (by omega)
    rw [z, Bool.or_false, decide_eq_false (by omega), Nat.add_sub_cancel, e i (by omega)]
    rfl
theorem waitB_not {l : Int64} {a : Bool} {st : List Bool} (e : waitB l (a :: st)) : waitB (l ^^^ 1) ((!a) :: st) := by
  intro i hi
  rw [Int64.toBitVec_xor, BitVec.getLsbD_xor, e i hi, b1]
  cases i with
  | zero => cases a <;> rfl
  | succ i => rw [decide_eq_false (by omega), Bool.xor_false]; rfl
theorem waitB_and {l : Int64} {a b : Bool} {st : List Bool} (hl : st.length ≤ 60) (e : waitB l (b :: a :: st)) : waitB ((l >>> ((Int32.toInt64 1) &&& 63)) &&& (l ||| (-2))) ((a && b) :: st) := by
  intro i hi
  rw [Int64.toBitVec_and, BitVec.getLsbD_and, Int64.toBitVec_or, BitVec.getLsbD_or, bm2 i hi]
  by_cases h63 : i < 63
  · rw [bR l i h63, e (i + 1) (by omega), e i hi]
    cases i with
    | zero =>
      show (a && (b || false)) = (a && b)
      rw [Bool.or_false]
    | succ i => rw [decide_eq_false (by omega), Bool.not_false, Bool.or_true, Bool.and_true]; rfl
  · have : i = 63 := by omega
    subst this
    rw [bR63, e 63 hi, getD_big (by rw [List.length_cons, List.length_cons]; omega), getD_big (by rw [List.length_cons]; omega)]
    rfl
theorem waitB_or {l : Int64} {a b : Bool} {st : List Bool} (hl : st.length ≤ 60) (e : waitB l (b :: a :: st)) : waitB ((l >>> ((Int32.toInt64 1) &&& 63)) ||| (l &&& 1)) ((a || b) :: st) := by
  intro i hi
  rw [Int64.toBitVec_or, BitVec.getLsbD_or, Int64.toBitVec_and, BitVec.getLsbD_and, b1]
  by_cases h63 : i < 63
  · rw [bR l i h63, e (i + 1) (by omega), e i hi]
    cases i with
    | zero =>
      show (a || (b && true)) = (a || b)
      rw [Bool.and_true]
    | succ i => rw [decide_eq_false (by omega), Bool.and_false, Bool.or_false]; rfl
  · have : i = 63 := by omega
    subst this
    rw [bR63, e 63 hi, getD_big (by rw [List.length_cons, List.length_cons]; omega), getD_big (by rw [List.length_cons]; omega)]
    rfl
theorem waitB_top {l : Int64} {b : Bool} {st : List Bool} (e : waitB l (b :: st)) : (l &&& 1 = 0) ↔ b = false := by
  have h0 := e 0 (by omega)
  have z : (l &&& 1).toBitVec.getLsbD 0 = b := by
    rw [Int64.toBitVec_and, BitVec.getLsbD_and, h0, b1]
    show (b && true) = b
    rw [Bool.and_true]
  constructor
  · intro q
    rw [q] at z
    rw [← z]
    rfl
  · intro q
    refine Int64.toBitVec_inj.mp (BitVec.eq_of_getLsbD_eq (fun i hi => ?_))
    rw [Int64.toBitVec_and, BitVec.getLsbD_and, b1, show (0 : Int64).toBitVec = 0#64 from rfl, BitVec.getLsbD_zero]
    by_cases hi0 : i = 0
    · subst hi0
      rw [h0, q]
      rfl
    · rw [decide_eq_false hi0, Bool.and_false]
end TEST

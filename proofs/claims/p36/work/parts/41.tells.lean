/-! ===== what the model's modes tell ===== -/
section TELLS
variable {K n : Nat} {h : mm_H}
/-- a point's numbers are in bounds -/
def okP (p : Pt) : Prop := p.1 ≤ 10 ∧ (∃ a, p.2.1 = ni a ∧ a ≤ 99999) ∧ ∃ b, p.2.2 = ni b ∧ b ≤ 99999
theorem ptY_ok {g : mm_H} (u : JA g) {o hd dr y : Nat} (ho : o ≤ 10) (hhd : hd ≤ 3) (hdr : dr ≤ 2) (hy : y ≤ 14) (d : Int32) : ∀ p ∈ ptY g o hd dr d y, okP p := by
  intro p hp
  unfold ptY at hp
  by_cases a1 : kn g o y dr d = -1
  · rw [if_pos a1] at hp; cases hp
  · rw [if_neg a1] at hp
    by_cases a2 : kn g o y (3 + hd) d = -1
    · rw [if_pos a2] at hp; cases hp
    · rw [if_neg a2, List.mem_singleton] at hp
      subst hp
      exact ⟨ho, (kn_in u ho hy (by omega) d).resolve_left a1, (kn_in u ho hy (by omega) d).resolve_left a2⟩
theorem ptYs_ok {g : mm_H} (u : JA g) {o hd dr : Nat} (ho : o ≤ 10) (hhd : hd ≤ 3) (hdr : dr ≤ 2) (d : Int32) : ∀ (c y : Nat), y + c ≤ 15 → ∀ p ∈ ptYs g o hd dr d y c, okP p := by
  intro c
  induction c with
  | zero => intro y _ p hp; cases hp
  | succ c ih =>
    intro y hy p hp
    unfold ptYs at hp
    rcases List.mem_append.mp hp with q | q
    · exact ptY_ok u ho hhd hdr (by omega) d p q
    · exact ih (y + 1) (by omega) p q
theorem ptOs_ok {g : mm_H} (u : JA g) {fm hd dr y0 c0 : Nat} {bt : Int32} (hhd : hd ≤ 3) (hdr : dr ≤ 2) (d : Int32) (hy : y0 + c0 ≤ 15) : ∀ (c o : Nat), o + c ≤ 11 → ∀ p ∈ ptOs g fm bt hd dr d y0 c0 o c, okP p := by
  intro c
  induction c with
  | zero => intro o _ p hp; cases hp
  | succ c ih =>
    intro o ho p hp
    unfold ptOs at hp
    rcases List.mem_append.mp hp with q | q
    · by_cases z : o = fm ∨ ni o = bt
      · rw [if_pos z] at q; cases q
      · rw [if_neg z] at q
        exact ptYs_ok u (by omega) hhd hdr d c0 y0 hy p q
    · exact ih (o + 1) (by omega) p q
theorem PtL_ok {g : mm_H} (u : JA g) {F fm hd r dr : Nat} {bt : Int32} (hF : F ≤ 11) (hhd : hd ≤ 3) (hdr : dr ≤ 2) (hr : r ≤ 2) : ∀ p ∈ PtL g F fm bt hd r dr, okP p := ptOs_ok u hhd hdr _ (by omega) F 0 (by omega)
abbrev nj (k : Nat) : Int64 := Int64.ofNat k
theorem nj_add (a b : Nat) : nj a + nj b = nj (a + b) := (Int64.ofNat_add a b).symm
theorem nj_mul (a b : Nat) : nj a * nj b = nj (a * b) := (Int64.ofNat_mul a b).symm
theorem nj_int {a : Nat} (ha : a < 9223372036854775808) : (nj a).toInt = (a : Int) := Int64.toInt_ofNat_of_lt ha
theorem ni_nj {a : Nat} (ha : a < 2147483648) : Int32.toInt64 (ni a) = nj a := by
  refine Int64.toInt_inj.mp ?_
  rw [Int32.toInt_toInt64, ni_int ha, nj_int (by omega)]
theorem sm_f1 : ∀ (L : List Pt) (s : Nat), sm f1 L (nj s) = nj (s + L.length) := by
  intro L
  induction L with
  | nil => intro s; rfl
  | cons p t ih =>
    intro s
    show sm f1 t (nj s + 1) = _
    rw [show nj s + 1 = nj (s + 1) from nj_add s 1, ih (s + 1), List.length_cons]
    congr 1
    omega
theorem sm_nat {f : Pt → Int64} {B : Nat} (hf : ∀ p, okP p → ∃ v, f p = nj v ∧ v ≤ B) : ∀ (L : List Pt), (∀ p ∈ L, okP p) → ∀ s : Nat, ∃ v, sm f L (nj s) = nj v ∧ v ≤ s + L.length * B := by
  intro L
  induction L with
  | nil => intro _ s; exact ⟨s, rfl, Nat.le_add_right _ _⟩
  | cons p t ih =>
    intro hL s
    obtain ⟨v, hv, hv2⟩ := hf p (hL p List.mem_cons_self)
    obtain ⟨w, hw, hw2⟩ := ih (fun q hq => hL q (List.mem_cons_of_mem _ hq)) (s + v)
    refine ⟨w, ?_, ?_⟩
    · show sm f t (nj s + f p) = _
      rw [hv, nj_add, hw]
    · rw [List.length_cons, Nat.succ_mul]
      omega
theorem det_nz {L : List Pt} (hL : ∀ p ∈ L, okP p) (hl : L.length ≤ 50) (hd : ¬ detS L = 0) : ¬ sm f1 L 0 * detS L = 0 := by
  obtain ⟨A, hA, hA2⟩ := sm_nat (f := fX) (B := 99999) (fun p hp => by
    obtain ⟨a, ha, ha2⟩ := hp.2.1
    exact ⟨a, by unfold fX; rw [ha, ni_nj (by omega)], ha2⟩) L hL 0
  obtain ⟨B, hB, hB2⟩ := sm_nat (f := fXX) (B := 99999 * 99999) (fun p hp => by
    obtain ⟨a, ha, ha2⟩ := hp.2.1
    exact ⟨a * a, by unfold fXX; rw [ha, ni_nj (by omega), nj_mul], Nat.mul_le_mul ha2 ha2⟩) L hL 0
  have hn := sm_f1 L 0
  have e0 : (0 : Int64) = nj 0 := rfl
  have hA3 : A ≤ 4999950 := by
    have := Nat.mul_le_mul_right 99999 hl
    omega
  have hB3 : B ≤ 499990000050 := by
    have := Nat.mul_le_mul_right (99999 * 99999) hl
    omega
  have dI : (detS L).toInt = (L.length : Int) * (B : Int) - (A : Int) * (A : Int) := by
    unfold detS
    rw [e0, hA, hB, hn, Nat.zero_add, nj_mul, nj_mul, Int64.toInt_sub]
    have m1 : L.length * B ≤ 50 * 499990000050 := Nat.mul_le_mul hl hB3
    have m2 : A * A ≤ 4999950 * 4999950 := Nat.mul_le_mul hA3 hA3
    rw [nj_int (by omega), nj_int (by omega)]
    have c1 : ((L.length * B : Nat) : Int) = (L.length : Int) * (B : Int) := Int.natCast_mul _ _
    have c2 : ((A * A : Nat) : Int) = (A : Int) * (A : Int) := Int.natCast_mul _ _
    rw [← c1, ← c2]
    generalize L.length * B = X at m1
    generalize A * A = Y at m2
    exact Int.bmod_eq_of_le (by omega) (by omega)
  have hdI : (detS L).toInt ≠ 0 := fun q => hd (Int64.toInt_inj.mp (by rw [q]; rfl))
  intro q
  have h1 := congrArg Int64.toInt q
  rw [e0, hn, Nat.zero_add, Int64.toInt_mul, nj_int (by omega), dI, nj_int (by omega)] at h1
  have m1 : L.length * B ≤ 50 * 499990000050 := Nat.mul_le_mul hl hB3
  have m2 : A * A ≤ 4999950 * 4999950 := Nat.mul_le_mul hA3 hA3
  have c1 : ((L.length * B : Nat) : Int) = (L.length : Int) * (B : Int) := Int.natCast_mul _ _
  have c2 : ((A * A : Nat) : Int) = (A : Int) * (A : Int) := Int.natCast_mul _ _
  rw [dI, ← c1, ← c2] at hdI
  rw [← c1, ← c2] at h1
  have hl0 : L.length ≠ 0 := by
    intro z
    rw [z] at hdI
    have : L = [] := List.length_eq_zero_iff.mp z
    subst this
    have hA0 : nj A = nj 0 := hA.symm
    have := congrArg Int64.toInt hA0
    rw [nj_int (by omega), nj_int (by omega)] at this
    have hA00 : A = 0 := by omega
    subst hA00
    exact hdI (by simp)
  generalize hX : L.length * B = X at m1 hdI h1
  generalize hY : A * A = Y at m2 hdI h1
  generalize hN : L.length = N at hl hl0 h1
  have hb : ((N : Int) * ((X : Int) - (Y : Int))).natAbs ≤ 50 * 24999500002500 := by
    rw [Int.natAbs_mul]
    refine Nat.mul_le_mul ?_ ?_
    · omega
    · omega
  have h2 : ((N : Int) * ((X : Int) - (Y : Int))) = 0 := (Int.bmod_eq_of_le (by omega) (by omega)).symm.trans h1
  rcases Int.mul_eq_zero.mp h2 with z | z
  · omega
  · exact hdI (by omega)
end TELLS

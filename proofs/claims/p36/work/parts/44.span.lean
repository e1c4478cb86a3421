/-! ===== the call span ===== -/
section CALLS
variable {K n : Nat} {h : mm_H}
theorem clampM_in (v : Int64) : 0 ≤ clampM v ∧ clampM v ≤ 999999 := by
  unfold clampM
  by_cases h1 : v < 0
  · rw [if_pos h1]; exact ⟨by decide, by decide⟩
  · rw [if_neg h1]
    by_cases h2 : 999999 < v
    · rw [if_pos h2]; exact ⟨by decide, by decide⟩
    · rw [if_neg h2]; exact ⟨Int64.not_lt.mp h1, Int64.not_lt.mp h2⟩
theorem heldM_in (a b : Int64) : 0 ≤ heldM a b ∧ heldM a b ≤ 999999 := by
  unfold heldM
  by_cases h1 : b = 0
  · rw [if_pos h1]; exact ⟨by decide, by decide⟩
  · rw [if_neg h1]; exact clampM_in _
theorem lineS_in (L : List Pt) (x : Int64) : 0 ≤ lineS L x ∧ lineS L x ≤ 999999 := by
  unfold lineS
  by_cases h1 : detS L = 0
  · rw [if_pos h1]; exact heldM_in _ _
  · rw [if_neg h1]; exact heldM_in _ _
def hasO (L : List Pt) (o : Nat) : Prop := ∃ p ∈ L, p.1 = o
def msk : List Pt → Nat → Nat
  | [], M => M
  | p :: t, M => msk t (M ||| 2 ^ p.1)
theorem msk_bit {o : Nat} : ∀ (L : List Pt) (M : Nat), (msk L M).testBit o = true ↔ (M.testBit o = true ∨ hasO L o) := by
  intro L
  induction L with
  | nil => intro M; exact ⟨Or.inl, fun z => z.elim id (fun ⟨p, hp, _⟩ => (by cases hp))⟩
  | cons p t ih =>
    intro M
    show (msk t (M ||| 2 ^ p.1)).testBit o = true ↔ _
    rw [ih, Nat.testBit_or, Nat.testBit_two_pow, Bool.or_eq_true, decide_eq_true_eq]
    constructor
    · rintro ((z | z) | ⟨q, q1, q2⟩)
      · exact Or.inl z
      · exact Or.inr ⟨p, List.mem_cons_self, z⟩
      · exact Or.inr ⟨q, List.mem_cons_of_mem _ q1, q2⟩
    · rintro (z | ⟨q, q1, q2⟩)
      · exact Or.inl (Or.inl z)
      · rcases List.mem_cons.mp q1 with rfl | q1
        · exact Or.inl (Or.inr q2)
        · exact Or.inr ⟨q, q1, q2⟩
theorem msk_lt : ∀ (L : List Pt) (M : Nat), (∀ p ∈ L, okP p) → M < 2048 → msk L M < 2048 := by
  intro L
  induction L with
  | nil => intro M _ h; exact h
  | cons p t ih =>
    intro M hL hM
    have hp := (hL p List.mem_cons_self).1
    refine ih _ (fun q hq => hL q (List.mem_cons_of_mem _ hq)) ?_
    have h2 : 2 ^ p.1 < 2 ^ 11 := Nat.pow_lt_pow_right (by omega) (by omega)
    exact Nat.or_lt_two_pow (n := 11) hM h2
theorem ptYs_own {g : mm_H} {o hd dr : Nat} {d : Int32} : ∀ (c y : Nat), ∀ p ∈ ptYs g o hd dr d y c, p.1 = o := by
  intro c
  induction c with
  | zero => intro y p hp; cases hp
  | succ c ih =>
    intro y p hp
    unfold ptYs at hp
    rcases List.mem_append.mp hp with q | q
    · unfold ptY at q
      by_cases a1 : kn g o y dr d = -1
      · rw [if_pos a1] at q; cases q
      · rw [if_neg a1] at q
        by_cases a2 : kn g o y (3 + hd) d = -1
        · rw [if_pos a2] at q; cases q
        · rw [if_neg a2, List.mem_singleton] at q
          rw [q]
    · exact ih _ p q
theorem ptOs_flt {g : mm_H} {fm b hd dr y0 c0 : Nat} {d : Int32} : ∀ (c o : Nat), o + c ≤ 11 → ptOs g fm (ni b) hd dr d y0 c0 o c = flt (ni b) (ptOs g fm (-1) hd dr d y0 c0 o c) := by
  intro c
  induction c with
  | zero => intro o _; rfl
  | succ c ih =>
    intro o ho
    unfold ptOs
    rw [ih (o + 1) (by omega)]
    unfold flt
    rw [List.filter_append]
    congr 1
    have hm : ¬ ni o = -1 := ni_n1 (by omega)
    by_cases h1 : o = fm
    · rw [if_pos (Or.inl h1), if_pos (Or.inl h1)]
      rfl
    · have hz : ¬ (o = fm ∨ ni o = -1) := fun z => z.elim h1 hm
      rw [if_neg hz]
      by_cases h2 : ni o = ni b
      · rw [if_pos (Or.inr h2)]
        symm
        rw [List.filter_eq_nil_iff]
        intro p hp
        rw [ptYs_own _ _ p hp]
        simp [h2]
      · have hz2 : ¬ (o = fm ∨ ni o = ni b) := fun z => z.elim h1 h2
        rw [if_neg hz2]
        symm
        rw [List.filter_eq_self]
        intro p hp
        rw [ptYs_own _ _ p hp]
        simp [h2]
theorem ptOs_owner {g : mm_H} {fm hd dr y0 c0 : Nat} {bt d : Int32} : ∀ (c o : Nat), ∀ p ∈ ptOs g fm bt hd dr d y0 c0 o c, p.1 < o + c := by
  intro c
  induction c with
  | zero => intro o p hp; cases hp
  | succ c ih =>
    intro o p hp
    unfold ptOs at hp
    rcases List.mem_append.mp hp with q | q
    · by_cases z : o = fm ∨ ni o = bt
      · rw [if_pos z] at q; cases q
      · rw [if_neg z] at q
        rw [ptYs_own _ _ p q]
        omega
    · have := ih (o + 1) p q
      omega
end CALLS

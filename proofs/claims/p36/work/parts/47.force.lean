/-! ===== which set is in force; the call review ===== -/
section FORCE
variable {K n : Nat} {h : mm_H}
/-- one text is taken: for the first review, on the first day -/
def TK (h : mm_H) (n p : Nat) (L : List Stm) : Prop := (∃ f, h 2 = .inl (.int, 0, .inl f)) ∧ fI h 48 7 = 1 ∧ rA h 156 0 = some p ∧ bookC h n p L 0 0 ∧ L.length ≤ 30 ∧ ∀ s, s ∈ L → sOk s
theorem TK.at_ (c : PS h) (hn : 159 ≤ n) {p : Nat} {L : List Stm} (t : TK h n p L) : q_X10_takenAt K h n 48 0 = some (some p) := by
  unfold q_X10_takenAt
  rw [if_neg (by decide), g_48_7 c hn, t.2.1]
  show (if (1 : Int32) ≤ 0 then some none else _) = _
  rw [if_neg (by decide), if_neg (by decide), g_48_6 c hn]
  show (ldR h n 156 5 0).bind _ = _
  rw [ge_156 c hn, if_pos (by decide)]
  exact congrArg some t.2.2.1
theorem TK.of_ (hK : 3000 ≤ K) (c : PS h) (hn : 159 ≤ n) {p : Nat} {L : List Stm} (t : TK h n p L) {r d : Nat} (hr : r < 2147483648) (hd : d < 2147483648) : q_X10_takenOf K h n 48 (ni r) (ni d) = some 0 := by
  obtain ⟨k, rfl⟩ : ∃ k, K = k + 2 := ⟨K - 2, by omega⟩
  obtain ⟨t1, t2, t3, ⟨hp, hpn, q, f, e1, -⟩, -⟩ := id t
  have r2 : rdI h n p 6 2 = some 0 := rdI_o (x := ni 0) ⟨by omega, hpn⟩ e1 rfl
  have r3 : rdI h n p 6 3 = some 0 := rdI_o (x := ni 0) ⟨by omega, hpn⟩ e1 rfl
  have at_ : ∀ K' : Nat, q_X10_takenAt K' h n 48 0 = some (some p) := fun K' => TK.at_ c hn t
  unfold q_X10_takenOf
  have e2 : lp_X10_takenOf_8 (k + 2) h n 48 (ni r) (ni d) (k + 2) (-1) (-1) 0 = some 0 := by
    conv => lhs; unfold lp_X10_takenOf_8
    rw [g_48_7 c hn, t2]
    show (if (1 : Int32) ≤ 0 then some (-1) else _) = _
    rw [if_neg (by decide), gq_48 c hn]
    show (q_X10_takenAt (k + 2) h n 48 0).bind _ = _
    rw [at_]
    show (rdI h n p 6 3).bind _ = _
    rw [r3]
    show (if ni d < 0 then _ else _) = _
    rw [if_neg (ni_pos hd), r2]
    show (if ni r < 0 then _ else (some (0 : Int32)).bind _) = _
    rw [if_neg (ni_pos hr), Option.bind_some, if_neg (by decide), Option.bind_some]
    show lp_X10_takenOf_8 (k + 2) h n 48 (ni r) (ni d) (k + 1) 0 0 (0 + 1) = _
    unfold lp_X10_takenOf_8
    rw [g_48_7 c hn, t2, Option.bind_some, if_pos (by decide)]
  rw [e2]
  rfl
theorem z_takenNo : q_X10_takenAt K h n 48 (-1) = some none := by
  unfold q_X10_takenAt
  rw [if_pos (by decide)]
end FORCE

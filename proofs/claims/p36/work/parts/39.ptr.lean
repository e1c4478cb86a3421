/-! ===== the model's points: gathered ===== -/
section PTR
variable {K n : Nat} {h : mm_H}
def PtR (h : mm_H) (L : List Pt) : Prop := fI h 159 65 = ni L.length ∧ L.length ≤ 50 ∧ ∀ (i : Nat) (p : Pt), L[i]? = some p → iA h 206 i = ni p.1 ∧ iA h 204 i = p.2.1 ∧ iA h 205 i = p.2.2
theorem SE_JA {g : mm_H} (f3 : SE h g) (j : JA h) : JA g := by
  unfold JA at j ⊢
  have e : ∀ x, x < 73 ∨ (151 ≤ x ∧ x ≤ 158) ∨ (160 ≤ x ∧ x ≤ 199) ∨ x = 207 → (∀ k, fI g x k = fI h x k) ∧ iA g x = iA h x := fun x q => ⟨fun k => fI_c (f3.1 x (by omega)) k, iA_c (f3.1 x (by omega))⟩
  rw [(e 51 (by omega)).1, (e 52 (by omega)).2, (e 53 (by omega)).2, (e 54 (by omega)).2, (e 55 (by omega)).2]
  exact j
/-- the points of a question: a firm, without another one, a head, a review, a driver -/
def PtL (g : mm_H) (F fm : Nat) (bt : Int32) (hd r dr : Nat) : List Pt := ptOs g fm bt hd dr (ni (500 * r)) (5 * r - 5) (5 * r - (5 * r - 5)) 0 F
end PTR

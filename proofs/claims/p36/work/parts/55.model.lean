/-! ===== the model's statement, its worths ===== -/
section MODEL
variable {K n : Nat} {h : mm_H}
/-- what the model's questions of worth keep -/
def ME (h g : mm_H) : Prop := ∀ a, a < 200 ∨ 203 < a → g a = h a
theorem ME.id_ : ME h h := fun _ _ => rfl
theorem ME.trans {g f : mm_H} (a : ME h g) (b : ME g f) : ME h f := fun x q => (b x q).trans (a x q)
/-- what a review's set is found by -/
def QE (h g : mm_H) : Prop := (∀ a, 178 ≤ a → a ≤ 196 → g a = h a) ∧ fI g 159 24 = fI h 159 24 ∧ fI g 159 56 = fI h 159 56 ∧ fI g 159 57 = fI h 159 57
theorem QE.id_ : QE h h := ⟨fun _ _ _ => rfl, rfl, rfl, rfl⟩
theorem QE.trans {g f : mm_H} (a : QE h g) (b : QE g f) : QE h f := ⟨fun x p q => (b.1 x p q).trans (a.1 x p q), b.2.1.trans a.2.1, b.2.2.1.trans a.2.2.1, b.2.2.2.trans a.2.2.2⟩
theorem ME.qe {g : mm_H} (m : ME h g) : QE h g := ⟨fun a _ _ => m a (by omega), fI_c (m 159 (by omega)) _, fI_c (m 159 (by omega)) _, fI_c (m 159 (by omega)) _⟩
end MODEL

theorem ite_n {α : Type} {P : Prop} [Decidable P] {X : Option α} {r : α} (h : (if P then none else X) = some r) : ¬ P ∧ X = some r := by
  by_cases hp : P
  · rw [if_pos hp] at h
    cases h
  · rw [if_neg hp] at h
    exact ⟨hp, h⟩
theorem ite_nn {α : Type} {P : Prop} [Decidable P] {X : Option α} {r : α} (h : (if ¬ P then none else X) = some r) : P ∧ X = some r := by
  by_cases hp : P
  · rw [if_neg (fun q => q hp)] at h
    exact ⟨hp, h⟩
  · rw [if_pos hp] at h
    cases h
section MMAS
variable {w : mm_X} {G : mm_G} {cc : ByteArray} {own nm : String} {nL mc ms d pc n kc ks : Nat} {ret : Option FieldType} {Q : State → Prop} {L : List (Option Value)} {st : List Value} {h : mm_H}
theorem rr_asI (C : mm_C w G cc own nL mc ms ret d nm) {v x : Int32} (e : some v = some x) (kk : WW w G nL mc ms Q pc L (.int x :: st) h n kc ks) : WW w G nL mc ms Q pc L (.int v :: st) h n kc ks := by
  cases e
  exact kk
theorem rr_asJ (C : mm_C w G cc own nL mc ms ret d nm) {v x : Int64} (e : some v = some x) (kk : WW w G nL mc ms Q pc L (.long x :: st) h n kc ks) : WW w G nL mc ms Q pc L (.long v :: st) h n kc ks := by
  cases e
  exact kk
end MMAS

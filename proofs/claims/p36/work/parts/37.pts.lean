/-! ===== what a question leaves as it was; the points ===== -/
section PTS
variable {K n : Nat} {h : mm_H}
/-- all is kept but the points -/
def SE (h g : mm_H) : Prop := (∀ a, a < 143 ∨ (151 ≤ a ∧ a ≤ 158) ∨ (160 ≤ a ∧ a ≤ 203) ∨ a = 207 ∨ 159 ≤ a → g a = h a) ∧ (∀ k, k ≠ 1000 → k ≠ 1001 → k ≠ 65 → k ≠ 66 → fI g 159 k = fI h 159 k) ∧ fJ g 159 66 = fJ h 159 66
theorem SE.id_ {h : mm_H} : SE h h := ⟨fun _ _ => rfl, fun _ _ _ _ _ => rfl, rfl⟩
theorem SE.trans {g f : mm_H} (a : SE h g) (b : SE g f) : SE h f := ⟨fun x q => (b.1 x q).trans (a.1 x q), fun k p q r s => (b.2.1 k p q r s).trans (a.2.1 k p q r s), b.2.2.trans a.2.2⟩
theorem JR_0 {h g : mm_H} (e : ∀ a, a < 73 ∨ a = 155 ∨ a = 158 → g a = h a) (j : JR h) : JR g := by
  have e48 := fI_c (e 48 (by omega))
  have e49 := fI_c (e 49 (by omega))
  have e51 := fI_c (e 51 (by omega))
  have e56 := fI_c (e 56 (by omega))
  have e61 := fI_c (e 61 (by omega))
  have e67 := fI_c (e 67 (by omega))
  unfold JR JT JF JA JW JB JL JP at j ⊢
  rw [e48, e49, e49, e51, e56, e56, e61, e67, iA_c (e 50 (by omega)), iA_c (e 52 (by omega)), iA_c (e 53 (by omega)), iA_c (e 54 (by omega)), iA_c (e 55 (by omega)), iA_c (e 57 (by omega)), iA_c (e 58 (by omega)), iA_c (e 59 (by omega)), iA_c (e 60 (by omega)), iA_c (e 62 (by omega)), iA_c (e 63 (by omega)), iA_c (e 64 (by omega)), iA_c (e 65 (by omega)), iA_c (e 66 (by omega)), iA_c (e 68 (by omega)), iA_c (e 69 (by omega)), iA_c (e 70 (by omega)), iA_c (e 71 (by omega)), iA_c (e 72 (by omega)), iA_c (e 155 (by omega)), iA_c (e 158 (by omega))]
  exact j
theorem SE_JR {g : mm_H} (a : SE h g) (j : JR h) : JR g := JR_0 (fun x hx => a.1 x (by omega)) j
theorem SE_kn {g : mm_H} (a : SE h g) (f y w : Nat) (d : Int32) : kn g f y w d = kn h f y w d := by
  unfold kn
  rw [iA_c (a.1 52 (by omega)), iA_c (a.1 53 (by omega)), iA_c (a.1 54 (by omega)), iA_c (a.1 55 (by omega))]
/-- a fact's number is known, or there is none -/
theorem chase_in {V T B : Nat → Int32} {d : Int32} {m : Nat} (hm : m ≤ 500) (hB : ∀ i, i < m → (B i = -1 ∨ ∃ j, j < i ∧ B i = ni j) ∧ ∃ v, V i = ni v ∧ v ≤ 99999) : ∀ (k : Nat) (i : Int32), (i = -1 ∨ ∃ j, j < m ∧ i = ni j) → chase V T B d k i = -1 ∨ ∃ v, chase V T B d k i = ni v ∧ v ≤ 99999 := by
  intro k
  induction k with
  | zero => intro i _; exact Or.inl rfl
  | succ k ih =>
    intro i hi
    unfold chase
    rcases hi with rfl | ⟨j, hj, rfl⟩
    · rw [if_pos rfl]; exact Or.inl rfl
    · rw [if_neg (ni_n1 (by omega)), ni_tn (by omega)]
      by_cases ht : T j ≤ d
      · rw [if_pos ht]; exact Or.inr (hB j hj).2
      · rw [if_neg ht]
        refine ih _ ?_
        rcases (hB j hj).1 with e | ⟨z, hz, e⟩
        · exact Or.inl e
        · exact Or.inr ⟨z, by omega, e⟩
theorem kn_in (u : JA h) {f y w : Nat} (hf : f ≤ 10) (hy : y ≤ 14) (hw : w ≤ 16) (d : Int32) : kn h f y w d = -1 ∨ ∃ v, kn h f y w d = ni v ∧ v ≤ 99999 := by
  obtain ⟨-, -, -, -, -, m, hm, hm500, hB, hL⟩ := u
  exact chase_in hm500 hB _ _ (hL _ (keyF_lt hf hy hw))
/-- no such place: none is known -/
theorem z_X0_knownBy_no (hK : 3000 ≤ K) (c : PS h) (hn : 159 ≤ n) (f y w d : Int32) (hy : y < 0) : q_X0_knownBy K h n 51 f y w d = some (-1) := by
  obtain ⟨k, rfl⟩ : ∃ k, K = k + 1 := ⟨K - 1, by omega⟩
  have e0 : q_X0_placeOf (k + 1) h n 51 f y w = some (-1) := by
    unfold q_X0_placeOf
    by_cases h1 : f < 0
    · rw [if_pos h1]
    · rw [if_neg h1]
      by_cases h2 : (11 : Int32) ≤ f
      · rw [if_pos h2]
      · rw [if_neg h2, if_pos hy]
  have e1 : lp_X0_knownBy_31 (k + 1) h n 51 d (k + 1) (-1) 0 = some (1, -1) := by
    unfold lp_X0_knownBy_31
    rw [if_neg (by decide), if_pos (by decide)]
  unfold q_X0_knownBy
  simp only [gq_51 c hn, e0, e1, Option.bind_some, if_true, Nat.one_ne_zero, if_false]
abbrev Pt : Type := Nat × Int32 × Int32
def ptY (g : mm_H) (o hd dr : Nat) (d : Int32) (y : Nat) : List Pt := if kn g o y dr d = -1 then [] else if kn g o y (3 + hd) d = -1 then [] else [(o, kn g o y dr d, kn g o y (3 + hd) d)]
def ptYs (g : mm_H) (o hd dr : Nat) (d : Int32) : Nat → Nat → List Pt
  | _, 0 => []
  | y, c + 1 => ptY g o hd dr d y ++ ptYs g o hd dr d (y + 1) c
def ptOs (g : mm_H) (fm : Nat) (bt : Int32) (hd dr : Nat) (d : Int32) (y0 c : Nat) : Nat → Nat → List Pt
  | _, 0 => []
  | o, k + 1 => (if o = fm ∨ ni o = bt then [] else ptYs g o hd dr d y0 c) ++ ptOs g fm bt hd dr d y0 c (o + 1) k
theorem ptY_len (g : mm_H) (o hd dr : Nat) (d : Int32) (y : Nat) : (ptY g o hd dr d y).length ≤ 1 := by
  unfold ptY
  split
  · exact Nat.zero_le _
  · split
    · exact Nat.zero_le _
    · exact Nat.le_refl _
theorem ptYs_len (g : mm_H) (o hd dr : Nat) (d : Int32) : ∀ c y, (ptYs g o hd dr d y c).length ≤ c := by
  intro c
  induction c with
  | zero => intro y; exact Nat.le_refl _
  | succ c ih =>
    intro y
    have h1 := ptY_len g o hd dr d y
    have h2 := ih (y + 1)
    unfold ptYs
    rw [List.length_append]
    omega
end PTS

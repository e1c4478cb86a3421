/-! ===== the calls holds and worth ===== -/
section HOLDS
variable {K n : Nat} {h : mm_H}
/-- all is kept but the cells in which questions are worked out -/
def SW (h g : mm_H) : Prop := (∀ a, a < 73 ∨ (151 ≤ a ∧ a ≤ 158) ∨ (160 ≤ a ∧ a ≤ 199) ∨ a = 207 ∨ 159 ≤ a → g a = h a) ∧ ∀ k, k ≠ 1000 → k ≠ 1001 → k ≠ 65 → k ≠ 66 → fI g 159 k = fI h 159 k
theorem SW.id_ : SW h h := ⟨fun _ _ => rfl, fun _ _ _ _ _ => rfl⟩
theorem SW.trans {g f : mm_H} (a : SW h g) (b : SW g f) : SW h f := ⟨fun x q => (b.1 x q).trans (a.1 x q), fun k p q r s => (b.2 k p q r s).trans (a.2 k p q r s)⟩
theorem SE.sw {g : mm_H} (a : SE h g) : SW h g := ⟨fun x q => a.1 x (by omega), a.2.1⟩
theorem SW_FB {g : mm_H} (s : SW h g) : FB h g :=
  ⟨fun a ha => s.1 a (by omega), fI_c (s.1 48 (by omega)) 7, fR_c (s.1 48 (by omega)) 8, fI_c (s.1 48 (by omega)) 10, fI_c (s.1 151 (by omega)) 5, fI_c (s.1 48 (by omega)) 5⟩
theorem SW_JR {g : mm_H} (a : SW h g) (j : JR h) : JR g := JR_0 (fun x hx => a.1 x (by omega)) j
theorem z_standsAt (c : PS h) (hn : 159 ≤ n) {y s : Nat} (hy : y ≤ 14) (hs : s ≤ 16) : q_X7_standsAt K h n 73 (ni y) (ni s) = some (iA h (76 + y) s) := by
  have i15 : inb (ni y) 15 = true := ni_inb (by omega) (by omega)
  have ty : (ni y).toNatClampNeg = y := ni_tn (by omega)
  have y15 : y < 15 := by omega
  have s17 : ni s < 17 := (ni_lt (b := 17) (by omega) (by omega)).mpr (by omega)
  unfold q_X7_standsAt
  rw [if_neg (ni_pos (by omega)), if_neg (fun q => by have := (ni_le (a := 15) (by omega) (by omega)).mp q; omega), if_neg (ni_pos (by omega)), if_pos s17]
  simp only [g_73_3 c hn, ge_75 c hn, i15, ty, if_true, y15, Option.bind_some]
  rw [show 75 + 1 + y = 76 + y by omega, row_ld c (sh_76 y y15) (by omega), if_pos (ni_inb (by omega) (by omega)), ni_tn (by omega)]
  rfl
theorem z_worthAt (c : PS h) (hn : 159 ≤ n) {y : Nat} (hy : y ≤ 14) : q_X7_worthAt K h n 73 (ni y) = some (jA h 107 y) := by
  have i16 : inb (ni y) 16 = true := ni_inb (by omega) (by omega)
  have ty : (ni y).toNatClampNeg = y := ni_tn (by omega)
  unfold q_X7_worthAt
  rw [if_neg (ni_pos (by omega)), if_neg (fun q => by have := (ni_le (a := 15) (by omega) (by omega)).mp q; omega)]
  simp only [g_73_5 c hn, ge_107 c hn, i16, ty, if_true, Option.bind_some]
end HOLDS

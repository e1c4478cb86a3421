/-! ===== the class reads statements ===== -/
section READC
variable {K n : Nat} {h : mm_H} {b : Nat → Nat} {N : Nat}
/-- the set that is amended -/
def baC (h : mm_H) (n : Nat) (l : Option Nat) (L : List Stm) : Prop := (l = none ∧ L = []) ∨ ∃ p x y, l = some p ∧ bookC h n p L x y
/-- what striking keeps -/
def KF (h g : mm_H) : Prop := PS g ∧ (∀ a, a ≠ 151 → a ≠ 152 → g a = h a) ∧ ∀ k, k < 2 ∨ (5 < k ∧ k ≠ 7) → fI g 151 k = fI h 151 k ∧ fR g 151 k = fR h 151 k
theorem LF.kf {g : mm_H} (x : LF h g) : KF h g := ⟨x.1, fun a p _ => x.2.1 a p, fun k q => x.2.2 k (by omega)⟩
theorem LF.i7 {g : mm_H} (x : LF h g) : fI g 151 7 = fI h 151 7 ∧ iA g 152 = iA h 152 := ⟨(x.2.2 7 (by omega)).1, iA_c (x.2.1 152 (by decide))⟩
theorem z_strike (hK : 3000 ≤ K) (c : PS h) (hn : 159 ≤ n) (t : TX b N h) {σ : RSt} (kk : Tk b N h σ) (q : isWS b N wStk σ = true) {l : Option Nat} {L : List Stm} (B : baC h n l L) (hL : L.length ≤ 270) {S : Nat → Bool} (eS : ∀ v, v < 270 → iA h 152 v = if S v = true then 1 else 0) : ∃ g, q_X3_strike K h n 151 l = some g ∧ KF h g ∧ Tk b N g (stkS b N L.length S σ).2 ∧ ((stkS b N L.length S σ).1 = none → fI g 151 7 = fI h 151 7 ∧ iA g 152 = iA h 152) ∧ ∀ v, (stkS b N L.length S σ).1 = some v → fI g 151 7 = fI h 151 7 + 1 ∧ iA g 152 = upd (iA h 152) v 1 := by
  cases σ with
  | inl p => cases q
  | inr s =>
    obtain ⟨g1, f1, l1, k1⟩ := z_step hK c hn t kk
    have t1 := t.lf l1
    have c1 := l1.1
    obtain ⟨gf, ff, lf, kf⟩ := z_fail (K := K) c1 hn t1 k1
    have k1' : Tk b N g1 (.inr (nx b N s)) := k1
    have kf' : Tk b N gf (.inl (nx b N s)) := kf
    have eu : stkS b N L.length S (.inr s) = if tkk b N (nx b N s) = 2 ∧ tee b N (nx b N s) - nx b N s ≤ 5 ∧ vl b N (nx b N s) < L.length ∧ S (vl b N (nx b N s)) = false then (some (vl b N (nx b N s)), sgS b N 59 (.inr (nx b N (nx b N s)))) else (none, .inl (nx b N s)) := rfl
    rw [eu]
    generalize nx b N s = s1 at k1' kf' ⊢
    have l1f := l1.trans lf
    have bad : ¬ (tkk b N s1 = 2 ∧ tee b N s1 - s1 ≤ 5 ∧ vl b N s1 < L.length ∧ S (vl b N s1) = false) → ∃ g, ((q_X3_fail K g1 n 151).bind fun v => some v) = some g ∧ KF h g ∧ Tk b N g (if tkk b N s1 = 2 ∧ tee b N s1 - s1 ≤ 5 ∧ vl b N s1 < L.length ∧ S (vl b N s1) = false then ((some (vl b N s1), sgS b N 59 (.inr (nx b N s1))) : Option Nat × RSt) else (none, .inl s1)).2 ∧ ((if tkk b N s1 = 2 ∧ tee b N s1 - s1 ≤ 5 ∧ vl b N s1 < L.length ∧ S (vl b N s1) = false then ((some (vl b N s1), sgS b N 59 (.inr (nx b N s1))) : Option Nat × RSt) else (none, .inl s1)).1 = none → fI g 151 7 = fI h 151 7 ∧ iA g 152 = iA h 152) ∧ ∀ v, (if tkk b N s1 = 2 ∧ tee b N s1 - s1 ≤ 5 ∧ vl b N s1 < L.length ∧ S (vl b N s1) = false then ((some (vl b N s1), sgS b N 59 (.inr (nx b N s1))) : Option Nat × RSt) else (none, .inl s1)).1 = some v → fI g 151 7 = fI h 151 7 + 1 ∧ iA g 152 = upd (iA h 152) v 1 := fun z => by
      rw [if_neg z]
      exact ⟨gf, by rw [ff, Option.bind_some], l1f.kf, kf', fun _ => l1f.i7, fun v e => nomatch e⟩
    have t2 : (ni (tkk b N s1) = 2) = (tkk b N s1 = 2) := propext (ni_inj (b := 2) (by have := kd_le (b s1); unfold tkk; split <;> omega) (by omega))
    unfold q_X3_strike
    rw [gq_151 c hn, Option.bind_some, f1, Option.bind_some, g_151_2 c1 hn, k1'.2.1, Option.bind_some]
    by_cases q2 : tkk b N s1 = 2
    · rw [if_pos (t2.mpr q2), gq_151 c1 hn, Option.bind_some, z_value (K := K) hK c1 hn t1 k1' q2, Option.bind_some]
      rcases B with ⟨rfl, rfl⟩ | ⟨p, x, y, rfl, B⟩
      · exact bad (fun z => absurd z.2.2.1 (Nat.not_lt_zero _))
      · obtain ⟨hp, hpn, qq, f, e1, -⟩ := B
        have e1' : g1 p = .inr (6, [.ref qq, .int (ni L.length), .int (ni x), .int (ni y)]) := (l1.2.1 p (by omega)).trans e1
        have r1 : rdI g1 n p 6 1 = some (ni L.length) := rdI_o ⟨by omega, hpn⟩ e1' rfl
        dsimp only
        by_cases q5 : tee b N s1 - s1 ≤ 5
        · have hv : vl b N s1 < 100000 := vl_lt (b := b) (N := N) q2 q5 _ (Nat.le_refl _)
          rw [if_pos q5, if_neg (ni_pos (by omega)), r1, Option.bind_some]
          by_cases qb : vl b N s1 < L.length
          · rw [if_neg (fun z => by have := (ni_le (by omega) (by omega)).mp z; omega)]
            have i2 : inb (ni (vl b N s1)) 270 = true := ni_inb (by omega) (by omega)
            have tv : (ni (vl b N s1)).toNatClampNeg = vl b N s1 := ni_tn (by omega)
            simp only [g_151_6 c1 hn, Option.bind_some, gl_152 c1 hn, ge_152 c1 hn, i2, tv, if_true]
            rw [if_neg (show ¬ (270 : Int32) ≤ ni (vl b N s1) from fun z => by have := (ni_le (a := 270) (by omega) (by omega)).mp z; omega), (LF.i7 l1).2, eS _ (by omega)]
            by_cases qs : S (vl b N s1) = true
            · rw [if_neg (by rw [if_pos qs]; decide)]
              exact bad (fun z => by rw [qs] at z; exact absurd z.2.2.2 (by decide))
            · have qs' : S (vl b N s1) = false := by
                cases hh : S (vl b N s1) with
                | true => exact absurd hh qs
                | false => rfl
              rw [if_pos (by rw [if_neg qs]), if_pos ⟨q2, q5, qb, qs'⟩]
              obtain ⟨g2, f2, l2, k2⟩ := z_step hK c1 hn t1 k1'
              obtain ⟨g3, f3, l3, k3⟩ := z_sign hK l2.1 hn (t1.lf l2) (v := 59) (by omega) k2
              have f3' : q_X3_sign K g2 n 151 59 = some g3 := f3
              have c3 := l3.1
              have l13 := l1.trans (l2.trans l3)
              have c4 : PS (mm_si g3 152 (vl b N s1) 1) := ps_152 c3 _ _
              have e7 : fI (mm_si g3 152 (vl b N s1) 1) 151 7 = fI h 151 7 := (fI_si _ _ _ _ _).trans (LF.i7 l13).1
              have c5 : PS (mm_sf (mm_si g3 152 (vl b N s1) 1) 151 7 (.int (fI h 151 7 + 1))) := ps_151_7 c4 _
              have fk : ∀ j, j ≠ 7 → fI (mm_sf (mm_si g3 152 (vl b N s1) 1) 151 7 (.int (fI h 151 7 + 1))) 151 j = fI g3 151 j := fun j hj => (fI_sf_o hj _).trans (fI_si _ _ _ _ _)
              refine ⟨mm_sf (mm_si g3 152 (vl b N s1) 1) 151 7 (.int (fI h 151 7 + 1)), ?_, ⟨c5, fun a h1 h2 => (mm_sf_n h1).trans ((mm_si_n h2).trans (l13.2.1 a h1)), fun j hj => ⟨(fk j (by omega)).trans (l13.2.2 j (by omega)).1, (fR_sf_o (by omega) _).trans ((fR_si _ _ _ _ _).trans (l13.2.2 j (by omega)).2)⟩⟩, ?_, (fun e => nomatch e), fun v e => ?_⟩
              · simp only [f2, Option.bind_some, gq_151 l2.1 hn, f3', g_151_6 c3 hn, pe_152 c3 hn, i2, tv, if_true, g_151_7 c4 hn, e7, p_151_7 c4 hn]
              · show Tk b N _ (sgS b N 59 (.inr (nx b N s1)))
                have k3' : Tk b N g3 (sgS b N 59 (.inr (nx b N s1))) := k3
                generalize sgS b N 59 (.inr (nx b N s1)) = τ at k3' ⊢
                cases τ with
                | inl p => exact ⟨k3'.1, (fk 2 (by decide)).trans k3'.2.1, (fk 5 (by decide)).trans k3'.2.2⟩
                | inr s => exact ⟨k3'.1, (fk 2 (by decide)).trans k3'.2.1, (fk 3 (by decide)).trans k3'.2.2.1, (fk 4 (by decide)).trans k3'.2.2.2.1, (fk 5 (by decide)).trans k3'.2.2.2.2⟩
              · cases e
                exact ⟨fs_151_7 c4 _, by rw [iA_sf, is_152 c3, (LF.i7 l13).2]⟩
          · rw [if_pos ((ni_le (by omega) (by omega)).mpr (by omega))]
            exact bad (fun z => qb z.2.2.1)
        · rw [if_neg q5, if_pos (by decide)]
          exact bad (fun z => q5 z.2.1)
    · rw [if_neg (fun z => q2 (t2.mp z)), gq_151 c1 hn]
      cases l with
      | none => exact bad (fun z => q2 z.1)
      | some p => exact bad (fun z => q2 z.1)
end READC

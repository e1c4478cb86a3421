/-! ===== what is allowed is a small number; what is shared on the model's side ===== -/
section SHARED
variable {K n : Nat} {h : mm_H}
theorem nj_div {a b : Nat} (ha : a < 9223372036854775808) (hb : b < 9223372036854775808) : nj a / nj b = nj (a / b) := by
  refine Int64.toInt_inj.mp ?_
  rw [nj_int (Nat.lt_of_le_of_lt (Nat.div_le_self a b) ha), Int64.toInt_div, nj_int ha, nj_int hb]
  have e1 : ((a : Int).tdiv (b : Int)) = ((a / b : Nat) : Int) := by
    rw [Int.tdiv_eq_ediv_of_nonneg (by omega)]
    rfl
  have h3 := Nat.div_le_self a b
  rw [e1]
  generalize a / b = q at h3
  exact Int.bmod_eq_of_le (by omega) (by omega)
theorem nj_of {x : Int64} {N : Nat} (hN : N < 9223372036854775808) (a : 0 ≤ x) (b : x ≤ nj N) : ∃ k : Nat, k ≤ N ∧ x = nj k := by
  have a' : (0 : Int) ≤ x.toInt := Int64.le_iff_toInt_le.mp a
  have b' := Int64.le_iff_toInt_le.mp b
  rw [nj_int hN] at b'
  refine ⟨x.toInt.toNat, by omega, Int64.toInt_inj.mp ?_⟩
  rw [nj_int (by omega)]
  omega
theorem bestV_in (L : List Pt) (x : Int64) : 0 ≤ bestV L x ∧ bestV L x ≤ 999999 := by
  unfold bestV
  cases bestS L none with
  | none => exact (show (0 : Int64) ≤ 0 ∧ (0 : Int64) ≤ 999999 from ⟨by decide, by decide⟩)
  | some q => exact heldM_in _ _
theorem toldS_nj (jA : JA h) {F f y : Nat} (hf : f ≤ 10) (hy : y ≤ 14) {s : Stm} (os : sO s ≤ 3) : ∃ t, t ≤ 999999 ∧ toldS h F f y s = nj t := by
  have go : ∀ x : Int64, 0 ≤ x ∧ x ≤ 999999 → ∃ t, t ≤ 999999 ∧ x = nj t := fun x q => nj_of (N := 999999) (by omega) q.1 q.2
  unfold toldS
  by_cases h3 : sM s = 3
  · rw [if_pos h3]
    rcases kn_in jA hf hy (w := 7 + sO s) (by omega) (dcd y) with e | ⟨v, e, hv⟩
    · rw [if_pos e]; exact ⟨0, by omega, rfl⟩
    · rw [if_neg (by rw [e]; exact ni_n1 (by omega)), e]
      exact ⟨v, by omega, ni_nj (by omega)⟩
  rw [if_neg h3]
  by_cases h0 : sM s = 0
  · rw [if_pos h0]; exact go _ (lineS_in _ _)
  rw [if_neg h0]
  by_cases h1 : sM s = 1
  · rw [if_pos h1]
    exact go _ (heldM_in _ _)
  rw [if_neg h1]
  exact go _ (bestV_in _ _)
theorem allS_nj (j : JR h) {F f y hd : Nat} {d : Int32} {w : Nat → Int64} {L : List Stm} (hf : f ≤ 10) (hy : y ≤ 14) (ok : ∀ s, s ∈ L → sOk s) : ∃ t, t ≤ 1999998 ∧ allS h F f y hd d w L = nj t := by
  obtain ⟨-, -, -, -, -, -, m, hm, hm20, hB⟩ := j.2.2.2.2.1
  unfold allS
  rw [hm, ni_tn (by omega)]
  cases qb : bnS h (ni f) (ni hd) (ni y) d m with
  | some i =>
    obtain ⟨v, ev, hv⟩ := hB i (bnS_lt h _ _ _ _ m i qb)
    refine ⟨v, by omega, ?_⟩
    show (iA h 65 i).toInt64 = _
    rw [ev, ni_nj (by omega)]
  | none =>
    cases ql : lastS w 0 hd L 0 none with
    | none => exact ⟨0, by omega, rfl⟩
    | some i =>
      obtain ⟨s, es, k0, o0⟩ := lastS_at w 0 hd [] L none (fun j ej => by cases ej) i ql
      have es' : L[i]? = some s := es
      have os := ok s (List.mem_of_getElem? es')
      obtain ⟨t, ht, et⟩ := toldS_nj (F := F) j.2.2.1 hf hy (s := s) (by have := (os.2.1 k0).1; omega)
      have b200 := (os.2.1 k0).2.2.2
      have hm' : t * sB s ≤ 999999 * 200 := Nat.mul_le_mul ht b200
      refine ⟨t * sB s / 100, by omega, ?_⟩
      show (match L[i]? with | some s => toldS h F f y s * (ni (sB s)).toInt64 / 100 | none => 0) = _
      rw [es']
      show toldS h F f y s * (ni (sB s)).toInt64 / nj 100 = _
      rw [et, ni_nj (by omega), nj_mul, nj_div (by omega) (by omega)]
theorem all32 {t : Nat} (ht : t < 2147483648) : (Int64.toInt32 (nj t)).toInt64 = nj t := by
  rw [← ni_nj ht, i32_64]
end SHARED

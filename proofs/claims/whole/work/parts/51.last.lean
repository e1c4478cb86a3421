/-! ===== which statement holds: the last that stands ===== -/
section LAST
variable {K n : Nat} {h : mm_H}
def lastS (w : Nat → Int64) (k o : Nat) : List Stm → Nat → Option Nat → Option Nat
  | [], _, a => a
  | s :: L, i, a => lastS w k o L (i + 1) (if sK s = k ∧ sO s = o ∧ tstV w (sT s) = false then some i else a)
def oI : Option Nat → Int32
  | none => -1
  | some i => ni i
def bI (z : Nat) : Option Nat → Int32
  | none => -1
  | some i => ni (300 * z + i)
theorem lastS_snoc (w : Nat → Int64) (k o : Nat) (s : Stm) : ∀ (L : List Stm) (i : Nat) (a : Option Nat), lastS w k o (L ++ [s]) i a = if sK s = k ∧ sO s = o ∧ tstV w (sT s) = false then some (i + L.length) else lastS w k o L i a
  | [], i, a => rfl
  | t :: L, i, a => by
    show lastS w k o (L ++ [s]) (i + 1) _ = _
    rw [lastS_snoc w k o s L (i + 1)]
    rw [List.length_cons, show i + 1 + L.length = i + (L.length + 1) by omega]
    rfl
theorem lastS_lt (w : Nat → Int64) (k o : Nat) : ∀ (L : List Stm) (i : Nat) (a : Option Nat), (∀ j, a = some j → j < i + L.length) → ∀ j, lastS w k o L i a = some j → j < i + L.length
  | [], i, a, q, j, e => q j e
  | t :: L, i, a, q, j, e => by
    have := lastS_lt w k o L (i + 1) _ (fun z ez => by
      split at ez
      · cases ez; omega
      · have := q z ez; rw [List.length_cons] at this; omega) j e
    rw [List.length_cons]
    omega
/-- the one that is found is of the kind -/
theorem lastS_at (w : Nat → Int64) (k o : Nat) : ∀ (M L : List Stm) (a : Option Nat), (∀ j, a = some j → ∃ s, (M ++ L)[j]? = some s ∧ sK s = k ∧ sO s = o) → ∀ j, lastS w k o L M.length a = some j → ∃ s, (M ++ L)[j]? = some s ∧ sK s = k ∧ sO s = o
  | M, [], a, q, j, e => q j e
  | M, t :: L, a, q, j, e => by
    have e' : lastS w k o L (M ++ [t]).length (if sK t = k ∧ sO t = o ∧ tstV w (sT t) = false then some M.length else a) = some j := by
      rw [List.length_append]
      exact e
    have eq : M ++ t :: L = (M ++ [t]) ++ L := by rw [List.append_assoc]; rfl
    rw [eq] at q ⊢
    refine lastS_at w k o (M ++ [t]) L _ (fun z ez => ?_) j e'
    split at ez
    · rename_i hc
      cases ez
      refine ⟨t, ?_, hc.1, hc.2.1⟩
      rw [List.append_assoc, List.getElem?_append_right (Nat.le_refl _), Nat.sub_self]
      rfl
    · exact q z ez
/-- a test's value is by its five words -/
theorem cmpV_w {w v : Nat → Int64} (e : ∀ i, i < 5 → w i = v i) (t : Int32) : cmpV w t = cmpV v t := by
  unfold cmpV
  rw [e _ (Nat.mod_lt _ (by omega))]
theorem evP_w {w v : Nat → Int64} (e : ∀ i, i < 5 → w i = v i) : ∀ (L : List Int32) (st : List Bool), evP w st L = evP v st L
  | [], st => by rw [evP, evP]
  | t :: L, st => by
    have ih := evP_w e L
    unfold evP
    rw [cmpV_w e t]
    by_cases t1 : t = -1
    · rw [if_pos t1, if_pos t1]
      cases st with
      | nil => rfl
      | cons a s => exact ih _
    rw [if_neg t1, if_neg t1]
    by_cases t2 : t = -2
    · rw [if_pos t2, if_pos t2]
      match st with
      | [] => rfl
      | [_] => rfl
      | b :: a :: s => exact ih _
    rw [if_neg t2, if_neg t2]
    by_cases t3 : t = -3
    · rw [if_pos t3, if_pos t3]
      match st with
      | [] => rfl
      | [_] => rfl
      | b :: a :: s => exact ih _
    rw [if_neg t3, if_neg t3]
    exact ih _
theorem tstV_w {w v : Nat → Int64} (e : ∀ i, i < 5 → w i = v i) (L : List Int32) : tstV w L = tstV v L := by
  unfold tstV
  rw [evP_w e]
theorem lastS_w {w v : Nat → Int64} (e : ∀ i, i < 5 → w i = v i) (k o : Nat) : ∀ (L : List Stm) (i : Nat) (a : Option Nat), lastS w k o L i a = lastS v k o L i a
  | [], _, _ => rfl
  | s :: L, i, a => by
    unfold lastS
    rw [tstV_w e, lastS_w e k o L]
/-- the model's walk through a set's rows -/
theorem z_stLp (hK : 3000 ≤ K) (c : PS h) (hn : 208 ≤ n) {z N : Nat} {L : List Stm} (hz : z < 13) (hL : L.length ≤ 270) (hN : N ≤ 6480) (ok : ∀ s, s ∈ L → sOk s) (R : setR h z L N) {kk o : Nat} (hkk : kk ≤ 8) (ho : o ≤ 3) : ∀ (rest pre : List Stm) (k : Nat) (a : Option Nat), L = pre ++ rest → rest.length < k → lp_X11_statement_34 K h n 159 (ni kk) (ni o) (ni z) k (bI z a) (ni (300 * z + pre.length)) = some (bI z (lastS (jA h 203) kk o rest pre.length a)) := by
  obtain ⟨st1, st2, st3⟩ := R
  have iz : inb (ni z) 14 = true := ni_inb (by omega) (by omega)
  have tz : (ni z).toNatClampNeg = z := ni_tn (by omega)
  have w1 : ∀ j, (300 : Int32) * ni z + ni j = ni (300 * z + j) := fun j => by
    show ni 300 * ni z + ni j = _
    rw [ni_mul, ni_add]
  intro rest
  induction rest with
  | nil =>
    intro pre k a hL0 hk
    obtain ⟨k, rfl⟩ : ∃ x, k = x + 1 := ⟨k - 1, by omega⟩
    rw [List.append_nil] at hL0
    unfold lp_X11_statement_34
    simp only [g_159_32 c hn, ge_178 c hn, iz, tz, if_true, st1, Option.bind_some, w1]
    rw [if_pos (by rw [hL0]; exact Int32.le_refl _)]
    rfl
  | cons s rest ih =>
    intro pre k a hL0 hk
    obtain ⟨k, rfl⟩ : ∃ x, k = x + 1 := ⟨k - 1, by omega⟩
    rw [List.length_cons] at hk
    have hlen : L.length = pre.length + (rest.length + 1) := by rw [hL0, List.length_append, List.length_cons]
    have hget : L[pre.length]? = some s := by rw [hL0, List.getElem?_append_right (Nat.le_refl _), Nat.sub_self]; rfl
    have hL2 : L = (pre ++ [s]) ++ rest := by rw [hL0, List.append_assoc]; rfl
    have hpl : (pre ++ [s]).length = pre.length + 1 := by rw [List.length_append]; rfl
    have os := ok s (List.mem_of_getElem? hget)
    have R := st3 _ _ hget
    have rk := row_k R (by omega)
    obtain ⟨r1, r2, -, -, -, -, r7⟩ := R
    have ir : inb (ni (300 * z + pre.length)) 4200 = true := ni_inb (by omega) (by omega)
    have tr : (ni (300 * z + pre.length)).toNatClampNeg = 300 * z + pre.length := ni_tn (by omega)
    have os3 : sO s ≤ 3 := by
      obtain ⟨a0, a1, a2, a3, a4, -⟩ := os
      omega
    have e1 : (ni (sK s) = ni kk) = (sK s = kk) := propext (ni_inj (by have := os.1; omega) (by omega))
    have e2 : (ni (sO s) = ni o) = (sO s = o) := propext (ni_inj (by omega) (by omega))
    have nx := ih (pre ++ [s]) k
    rw [hpl] at nx
    have bI_s : bI z (some pre.length) = ni (300 * z + pre.length) := rfl
    unfold lp_X11_statement_34 lastS
    simp only [g_159_32 c hn, ge_178 c hn, iz, tz, if_true, st1, Option.bind_some, w1]
    rw [if_neg (fun q => by have := (ni_le (by omega) (by omega)).mp q; omega)]
    simp only [g_159_36 c hn, g_159_37 c hn, g_159_44 c hn, ge_182 c hn, ge_183 c hn, ge_190 c hn, ir, tr, if_true, Option.bind_some, r1, r2, e1, e2, rk, ni_1, gq_159 c hn]
    by_cases h1 : sK s = kk
    · rw [if_pos h1]
      by_cases h2 : sO s = o
      · rw [if_pos h2]
        rcases r7 with ⟨t0, -⟩ | ⟨t0, q, q1, q2⟩
        · rw [if_pos t0, if_pos ⟨h1, h2, by rw [t0]; rfl⟩, ← bI_s]
          exact nx _ hL2 (by omega)
        · rw [if_neg t0]
          have tl : (sT s).length ≤ 900 := by
            rcases os.2.2.2.2.2 with q | q
            · exact absurd q t0
            · exact q.1
          rw [q1, z_holds hK c hn (by omega) q2 tl]
          simp only [Option.bind_some]
          cases hb : tstV (jA h 203) (sT s) with
          | true =>
            rw [if_neg (show ¬ (if true = true then (1 : Int32) else 0) = 0 by decide), if_neg (fun q : sK s = kk ∧ sO s = o ∧ true = false => absurd q.2.2 (by decide))]
            exact nx _ hL2 (by omega)
          | false =>
            rw [if_pos (show (if false = true then (1 : Int32) else 0) = 0 by decide), if_pos (show sK s = kk ∧ sO s = o ∧ false = false from ⟨h1, h2, rfl⟩), ← bI_s]
            exact nx _ hL2 (by omega)
      · rw [if_neg h2, if_neg (fun q => h2 q.2.1)]
        exact nx _ hL2 (by omega)
    · rw [if_neg h1, if_neg (fun q => h1 q.1)]
      exact nx _ hL2 (by omega)
end LAST

/-! ===== which statement holds: the last that stands ===== -/
section LAST
variable {K n : Nat} {h : mm_H}
def lastS (w : Nat → Int64) (k o : Nat) : List Stm → Nat → Option Nat → Option Nat
  | [], _, a => a
  | s :: L, i, a => lastS w k o L (i + 1) (if sK s = k ∧ sO s = o ∧ tstV w (sT s) = false then some i else a)
def oI : Option Nat → Int32
  | none => -1
  | some i => ni i
def bI (z : Nat) : Option Nat → Int32
  | none => -1
  | some i => ni (300 * z + i)
theorem lastS_snoc (w : Nat → Int64) (k o : Nat) (s : Stm) : ∀ (L : List Stm) (i : Nat) (a : Option Nat), lastS w k o (L ++ [s]) i a = if sK s = k ∧ sO s = o ∧ tstV w (sT s) = false then some (i + L.length) else lastS w k o L i a
  | [], i, a => rfl
  | t :: L, i, a => by
    show lastS w k o (L ++ [s]) (i + 1) _ = _
    rw [lastS_snoc w k o s L (i + 1)]
    rw [List.length_cons, show i + 1 + L.length = i + (L.length + 1) by omega]
    rfl
theorem lastS_lt (w : Nat → Int64) (k o : Nat) : ∀ (L : List Stm) (i : Nat) (a : Option Nat), (∀ j, a = some j → j < i + L.length) → ∀ j, lastS w k o L i a = some j → j < i + L.length
  | [], i, a, q, j, e => q j e
  | t :: L, i, a, q, j, e => by
    have := lastS_lt w k o L (i + 1) _ (fun z ez => by
      split at ez
      · cases ez; omega
      · have := q z ez; rw [List.length_cons] at this; omega) j e
    rw [List.length_cons]
    omega
/-- the one that is found is of the kind -/
theorem lastS_at (w : Nat → Int64) (k o : Nat) : ∀ (M L : List Stm) (a : Option Nat), (∀ j, a = some j → ∃ s, (M ++ L)[j]? = some s ∧ sK s = k ∧ sO s = o) → ∀ j, lastS w k o L M.length a = some j → ∃ s, (M ++ L)[j]? = some s ∧ sK s = k ∧ sO s = o
  | M, [], a, q, j, e => q j e
  | M, t :: L, a, q, j, e => by
    have e' : lastS w k o L (M ++ [t]).length (if sK t = k ∧ sO t = o ∧ tstV w (sT t) = false then some M.length else a) = some j := by
      rw [List.length_append]
      exact e
    have eq : M ++ t :: L = (M ++ [t]) ++ L := by rw [List.append_assoc]; rfl
    rw [eq] at q ⊢
    refine lastS_at w k o (M ++ [t]) L _ (fun z ez => ?_) j e'
    split at ez
    · rename_i hc
      cases ez
      refine ⟨t, ?_, hc.1, hc.2.1⟩
      rw [List.append_assoc, List.getElem?_append_right (Nat.le_refl _), Nat.sub_self]
      rfl
    · exact q z ez
/-- a test's value is by its five words -/
theorem cmpV_w {w v : Nat → Int64} (e : ∀ i, i < 5 → w i = v i) (t : Int32) : cmpV w t = cmpV v t := by
  unfold cmpV
  rw [e _ (Nat.mod_lt _ (by omega))]
theorem evP_w {w v : Nat → Int64} (e : ∀ i, i < 5 → w i = v i) : ∀ (L : List Int32) (st : List Bool), evP w st L = evP v st L
  | [], st => by rw [evP, evP]
  | t :: L, st => by
    have ih := evP_w e L
    unfold evP
    rw [cmpV_w e t]
    by_cases t1 : t = -1
    · rw [if_pos t1, if_pos t1]
      cases st with
      | nil => rfl
      | cons a s => exact ih _
    rw [if_neg t1, if_neg t1]
    by_cases t2 : t = -2
    · rw [if_pos t2, if_pos t2]
      match st with
      | [] => rfl
      | [_] => rfl
      | b :: a :: s => exact ih _
    rw [if_neg t2, if_neg t2]
    by_cases t3 : t = -3
    · rw [if_pos t3, if_pos t3]
      match st with
      | [] => rfl
      | [_] => rfl
      | b :: a :: s => exact ih _
    rw [if_neg t3, if_neg t3]
    exact ih _
theorem tstV_w {w v : Nat → Int64} (e : ∀ i, i < 5 → w i = v i) (L : List Int32) : tstV w L = tstV v L := by
  unfold tstV
  rw [evP_w e]
theorem lastS_w {w v : Nat → Int64} (e : ∀ i, i < 5 → w i = v i) (k o : Nat) : ∀ (L : List Stm) (i : Nat) (a : Option Nat), lastS w k o L i a = lastS v k o L i a
  | [], _, _ => rfl
  | s :: L, i, a => by
    unfold lastS
    rw [tstV_w e, lastS_w e k o L]
end LAST

/-! ===== rules: what a statement is; what a book holds, what a set of the model's holds ===== -/
section RULES
variable {K n : Nat} {h : mm_H}
/-- a statement: kind, of, mode; its numbers; its test as it is written, each sign behind what it joins -/
abbrev Stm : Type := (Nat × Nat × Nat) × (Nat × Nat × Nat × Nat × Nat) × List Int32
abbrev sK (s : Stm) : Nat := s.1.1
abbrev sO (s : Stm) : Nat := s.1.2.1
abbrev sM (s : Stm) : Nat := s.1.2.2
abbrev sA (s : Stm) : Nat := s.2.1.1
abbrev sB (s : Stm) : Nat := s.2.1.2.1
abbrev sC (s : Stm) : Nat := s.2.1.2.2.1
abbrev sD (s : Stm) : Nat := s.2.1.2.2.2.1
abbrev sE (s : Stm) : Nat := s.2.1.2.2.2.2
abbrev sT (s : Stm) : List Int32 := s.2.2
/-- one that says nothing -/
def sNo : Stm := ((3, 0, 0), (0, 0, 0, 0, 0), [])
/-- how many answers wait behind a test; none: it is none -/
def tDeep : Nat → List Int32 → Option Nat
  | d, [] => some d
  | d, t :: L => if t = -1 then (if 1 ≤ d then tDeep d L else none) else if t = -2 ∨ t = -3 then (if 2 ≤ d then tDeep (d - 1) L else none) else if d < 40 then tDeep (d + 1) L else none
/-- a comparison: the word, the sign, the number -/
def cmpI (w s k : Nat) : Int32 := ni ((k * 5 + w) * 3 + s)
def tOk (t : Int32) : Prop := t = -1 ∨ t = -2 ∨ t = -3 ∨ ∃ w s k, w < 5 ∧ s < 3 ∧ k ≤ 99999 ∧ t = cmpI w s k
def sOk (s : Stm) : Prop := sK s ≤ 8 ∧ (sK s = 0 → sO s ≤ 3 ∧ sM s ≤ 3 ∧ sA s ≤ 2 ∧ sB s ≤ 200) ∧ (sK s = 1 → sO s ≤ 3 ∧ sA s ≤ 100 ∧ sB s ≤ 100) ∧ (sK s = 2 → sO s ≤ 2 ∧ sM s ≤ 1 ∧ sA s ≤ 99999 ∧ 1 ≤ sB s ∧ sB s ≤ 99999 ∧ sC s ≤ 99999 ∧ sD s ≤ 99999 ∧ sE s ≤ 99999) ∧ (3 ≤ sK s → sO s = 0 ∧ sA s ≤ 500) ∧ (sT s = [] ∨ (sT s).length ≤ 900 ∧ tDeep 0 (sT s) = some 1 ∧ ∀ t, t ∈ sT s → tOk t)
/-- a Rule's fields -/
def ruleV (s : Stm) (u : Nat) : List Value := [.int (ni (sK s)), .int (if sK s ≤ 2 then ni (sO s) else 0), .int (if sK s = 0 ∨ sK s = 2 then ni (sM s) else 0), .int (if sK s = 0 then ni (sA s) else 0), .int (if sK s = 0 then ni (sB s) else ni (sA s)), .int (if sK s = 1 then ni (sB s) else 0), .int (if sK s = 2 then ni (sB s) else 0), .int (if sK s = 2 then ni (sC s) else 0), .int (if sK s = 2 then ni (sD s) else 0), .int (if sK s = 2 then ni (sE s) else 0), .ref u]
/-- an array of just these numbers -/
def lstC (h : mm_H) (u : Nat) (L : List Int32) : Prop := ∃ f, h u = .inl (.int, L.length, .inl f) ∧ ∀ i t, L[i]? = some t → f i = t
def testC (h : mm_H) (n u : Nat) (L : List Int32) : Prop := (L = [] ∧ u = 2) ∨ (L ≠ [] ∧ 159 ≤ u ∧ u < n ∧ lstC h u L)
def ruleC (h : mm_H) (n p : Nat) (s : Stm) : Prop := 159 ≤ p ∧ p < n ∧ ∃ u : Nat, h p = .inr (5, ruleV s u) ∧ testC h n u (sT s)
/-- a book: its statements, whose review, when -/
def bookC (h : mm_H) (n p : Nat) (L : List Stm) (a b : Nat) : Prop := 159 ≤ p ∧ p < n ∧ ∃ (q : Nat) (f : Nat → Option Nat), h p = .inr (6, [.ref q, .int (ni L.length), .int (ni a), .int (ni b)]) ∧ 159 ≤ q ∧ q < n ∧ h q = .inl (.object "WaterReview$Rule", L.length, .inr (.inr (.inr (.inr f)))) ∧ ∀ i s, L[i]? = some s → ∃ r, f i = some r ∧ ruleC h n r s
/-- the tests of some nodes, joined -/
def joinR (op : Int32) : List (List Int32) → List Int32
  | [] => []
  | N :: t => N ++ op :: joinR op t
def joinT (op : Int32) : List (List Int32) → List Int32
  | [] => []
  | M :: t => M ++ joinR op t
/-- one node behind the other -/
def chainN (h : mm_H) : Int32 → List Nat → Prop
  | x, [] => x = -1
  | x, y :: t => x = ni y ∧ chainN h (iA h 193 y) t
/-- what a node of the model's says -/
def nodeR (h : mm_H) (lo hi : Nat) : Nat → Nat → List Int32 → Prop
  | 0, _, _ => False
  | k + 1, q, L => lo ≤ q ∧ q < hi ∧ (
      (iA h 191 q = 3 ∧ ∃ w s v, w < 5 ∧ s < 3 ∧ v ≤ 99999 ∧ iA h 194 q = ni w ∧ iA h 195 q = (if s = 0 then 60 else if s = 1 then 62 else 61) ∧ iA h 196 q = ni v ∧ L = [cmpI w s v])
      ∨ (iA h 191 q = 2 ∧ ∃ x M, iA h 192 q = ni x ∧ nodeR h lo hi k x M ∧ L = M ++ [-1])
      ∨ (∃ e : Nat, e ≤ 1 ∧ iA h 191 q = ni e ∧ ∃ c : List (Nat × List Int32), c ≠ [] ∧ chainN h (iA h 192 q) (c.map Prod.fst) ∧ (∀ m, m ∈ c → nodeR h lo hi k m.1 m.2) ∧ L = joinT (if e = 0 then -3 else -2) (c.map Prod.snd)))
/-- a book and a set hold the same -/
def bothR (h : mm_H) (n p z : Nat) (B : Nat) (L : List Stm) (a b : Nat) : Prop := bookC h n p L a b ∧ L.length ≤ 30 * B ∧ (∀ s, s ∈ L → sOk s) ∧ True
/-- what stands of the rules between the calls -/
def JK (h : mm_H) (n : Nat) : Prop := (∃ f, h 2 = .inl (.int, 0, .inl f))
  ∧ ∃ m : Nat, fI h 48 7 = ni m ∧ m ≤ 8 ∧ ∀ i, i < m → ∃ p L a b, rA h 156 i = some p ∧ bothR h n p i (i + 1) L a b ∧ a ≤ 2 ∧ b ≤ 1499
/-! what a read of a book's and a rule's cell answers -/
theorem rdI_o {a ci k : Nat} {fs : List Value} {x : Int32} (ha : 48 ≤ a ∧ a < n) (e : h a = .inr (ci, fs)) (q : fs[k]? = some (.int x)) : rdI h n a ci k = some x := by
  unfold rdI
  rw [if_pos ha, e]
  show (if ci = ci then (match fs[k]? with | some (.int x) => some x | _ => none) else none) = some x
  rw [if_pos rfl, q]
theorem rdR_o {a ci k r : Nat} {fs : List Value} (ha : 48 ≤ a ∧ a < n) (e : h a = .inr (ci, fs)) (q : fs[k]? = some (.ref r)) : rdR h n a ci k = some (some r) := by
  unfold rdR
  rw [if_pos ha, e]
  show (if ci = ci then (match fs[k]? with | some (.ref x) => some (some x) | some .null => some none | _ => none) else none) = some (some r)
  rw [if_pos rfl, q]
theorem ckq_o {a ci : Nat} {fs : List Value} (ha : 48 ≤ a ∧ a < n) (e : h a = .inr (ci, fs)) : ckq h n a ci = some () := by
  unfold ckq ckr
  rw [e]
  simp
  omega
theorem ldR_o {a t N : Nat} {ty : FieldType} {f : Nat → Option Nat} {i : Nat} (ha : 48 ≤ a ∧ a < n) (e : h a = .inl (ty, N, .inr (.inr (.inr (.inr f))))) (ht : mm_tys[t]? = some ty) (hr : ty.isReference = true) (hi : i < N) (hN : N < 2147483648) : ldR h n a t (ni i) = some (f i) := by
  unfold ldR
  rw [if_pos ha, e]
  show (if mm_tys[t]? = some ty ∧ ty.isReference = true ∧ inb (ni i) N = true then some (f (ni i).toNatClampNeg) else none) = some (f i)
  rw [if_pos ⟨ht, hr, ni_inb (by omega) hi⟩, ni_tn (by omega)]
theorem ldI_o {a N : Nat} {f : Nat → Int32} {i : Nat} (ha : a < n) (e : h a = .inl (.int, N, .inl f)) (hi : i < N) (hN : N < 2147483648) : ldI h n a (ni i) = some (f i) := by
  unfold ldI
  rw [if_pos ha, e]
  show (if inb (ni i) N = true then some (f (ni i).toNatClampNeg) else none) = some (f i)
  rw [if_pos (ni_inb (by omega) hi), ni_tn (by omega)]
theorem ty4 : mm_tys[4]? = some (.object "WaterReview$Rule") := rfl
theorem book_at {p a b : Nat} {L : List Stm} (B : bookC h n p L a b) (hL : L.length ≤ 300) {i : Nat} {s : Stm} (e : L[i]? = some s) : ∃ r, q_X6_at K h n p (ni i) = some (some r) ∧ ruleC h n r s := by
  obtain ⟨hp, hpn, q, f, e1, hq, hqn, e2, e3⟩ := B
  obtain ⟨r, e4, e5⟩ := e3 i s e
  have hi : i < L.length := (List.getElem?_eq_some_iff.mp e).1
  refine ⟨r, ?_, e5⟩
  unfold q_X6_at
  rw [if_neg (ni_pos (by omega)), rdI_o (x := ni L.length) ⟨by omega, hpn⟩ e1 rfl]
  show (if ni L.length ≤ ni i then some none else _) = _
  rw [if_neg (fun q => by have := (ni_le (by omega) (by omega)).mp q; omega), rdR_o (r := q) ⟨by omega, hpn⟩ e1 rfl]
  show (ldR h n q 4 (ni i)).bind _ = _
  rw [ldR_o (by omega) e2 ty4 rfl hi (by omega), e4]
  rfl
theorem rule_has {r : Nat} {s : Stm} (B : ruleC h n r s) (z : ∃ f, h 2 = .inl (.int, 0, .inl f)) (w : sOk s) : q_X5_hasUnless K h n r = some (if sT s = [] then 0 else 1) := by
  obtain ⟨hr, hrn, u, e1, e2⟩ := B
  unfold q_X5_hasUnless
  rw [rdR_o (r := u) ⟨by omega, hrn⟩ e1 rfl]
  show (lenA h n u 0).bind _ = _
  rcases e2 with ⟨t0, rfl⟩ | ⟨t0, hu, hun, f, e3, -⟩
  · obtain ⟨f, z⟩ := z
    have : lenA h n 2 0 = some 0 := by
      unfold lenA
      rw [if_neg (by omega), if_pos (by omega), z]
      rfl
    rw [this, if_pos t0]
    rfl
  · have : lenA h n u 0 = some (ni (sT s).length) := by
      unfold lenA
      rw [if_pos ⟨by omega, hun⟩, e3]
      rfl
    have hl : 0 < (sT s).length := List.length_pos_iff.mpr t0
    have hm : (sT s).length ≤ 900 := by
      rcases w.2.2.2.2.2 with q | q
      · exact absurd q t0
      · exact q.1
    rw [this, if_neg t0]
    show (if ni (sT s).length ≤ 0 then some 0 else some 1) = _
    rw [if_neg (fun q => by have := (ni_le (b := 0) (by omega) (by omega)).mp q; omega)]
def slotN (s : Stm) : Nat := if sK s = 0 then sO s else if sK s = 1 then 4 + sO s else if sK s = 2 then 8 + sO s else 11 + sK s - 3
theorem rule_slot {r : Nat} {s : Stm} (B : ruleC h n r s) (w : sOk s) : q_X5_slot K h n r = some (ni (slotN s)) := by
  obtain ⟨hr, hrn, u, e1, -⟩ := B
  obtain ⟨w0, -⟩ := w
  have k0 : (ni (sK s) = 0) = (sK s = 0) := propext (ni_inj (b := 0) (by omega) (by omega))
  have k1 : (ni (sK s) = 1) = (sK s = 1) := propext (ni_inj (b := 1) (by omega) (by omega))
  have k2 : (ni (sK s) = 2) = (sK s = 2) := propext (ni_inj (b := 2) (by omega) (by omega))
  unfold q_X5_slot
  rw [rdI_o (x := ni (sK s)) ⟨by omega, hrn⟩ e1 rfl, rdI_o (x := if sK s ≤ 2 then ni (sO s) else 0) ⟨by omega, hrn⟩ e1 rfl]
  show (q_X5_slotOf K h n (ni (sK s)) (if sK s ≤ 2 then ni (sO s) else 0)).bind _ = _
  unfold q_X5_slotOf slotN
  simp only [k0, k1, k2]
  by_cases h0 : sK s = 0
  · rw [if_pos h0, if_pos h0, if_pos (by omega)]; rfl
  rw [if_neg h0, if_neg h0]
  by_cases h1 : sK s = 1
  · rw [if_pos h1, if_pos h1, if_pos (by omega)]
    show some (ni 4 + ni (sO s)) = _
    rw [ni_add]
  rw [if_neg h1, if_neg h1]
  by_cases h2 : sK s = 2
  · rw [if_pos h2, if_pos h2, if_pos (by omega)]
    show some (ni 8 + ni (sO s)) = _
    rw [ni_add]
  rw [if_neg h2, if_neg h2]
  show some (ni 11 + ni (sK s) - ni 3) = _
  obtain ⟨k, hk⟩ : ∃ k, sK s = k + 3 := ⟨sK s - 3, by omega⟩
  rw [hk, ni_add, show 11 + (k + 3) = 11 + k + 3 by omega, ← ni_add (11 + k) 3, Int32.add_sub_cancel, show 11 + k + 3 - 3 = 11 + k by omega]
theorem slot_eq {s t : Stm} (a : sOk s) (b : sOk t) : slotN s = slotN t ↔ sK s = sK t ∧ sO s = sO t := by
  obtain ⟨a0, a1, a2, a3, a4, -⟩ := a
  obtain ⟨b0, b1, b2, b3, b4, -⟩ := b
  have f : ∀ s : Stm, (sK s = 0 ∧ slotN s = sO s) ∨ (sK s = 1 ∧ slotN s = 4 + sO s) ∨ (sK s = 2 ∧ slotN s = 8 + sO s) ∨ (3 ≤ sK s ∧ slotN s = 11 + sK s - 3) := by
    intro s
    unfold slotN
    by_cases h0 : sK s = 0
    · rw [if_pos h0]; exact Or.inl ⟨h0, rfl⟩
    rw [if_neg h0]
    by_cases h1 : sK s = 1
    · rw [if_pos h1]; exact Or.inr (Or.inl ⟨h1, rfl⟩)
    rw [if_neg h1]
    by_cases h2 : sK s = 2
    · rw [if_pos h2]; exact Or.inr (Or.inr (Or.inl ⟨h2, rfl⟩))
    rw [if_neg h2]
    exact Or.inr (Or.inr (Or.inr ⟨by omega, rfl⟩))
  have fs := f s
  have ft := f t
  omega
theorem slot_lt {s : Stm} (a : sOk s) : slotN s ≤ 16 := by
  obtain ⟨a0, a1, a2, a3, a4, -⟩ := a
  unfold slotN
  by_cases h0 : sK s = 0
  · rw [if_pos h0]; omega
  rw [if_neg h0]
  by_cases h1 : sK s = 1
  · rw [if_pos h1]; omega
  rw [if_neg h1]
  by_cases h2 : sK s = 2
  · rw [if_pos h2]; omega
  rw [if_neg h2]
  omega
end RULES

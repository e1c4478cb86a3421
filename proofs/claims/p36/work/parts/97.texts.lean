/-! ===== a text: what is read ===== -/
section TEXTS
variable {K n : Nat} {h : mm_H} {b : Nat → Nat} {N : Nat}
def wAmd : List Nat := [97, 109, 101, 110, 100]
def wStk : List Nat := [115, 116, 114, 105, 107, 101]
theorem wds_amd : wds 0 = [wAmd] := by decide +kernel
theorem wds_stk : wds 1 = [wStk] := by decide +kernel
/-- a statement goes: which one -/
def stkS (b : Nat → Nat) (N base : Nat) (S : Nat → Bool) (σ : RSt) : Option Nat × RSt := match stpS b N σ with
  | .inl p => (none, .inl p)
  | .inr s => if tkk b N s = 2 ∧ tee b N s - s ≤ 5 ∧ vl b N s < base ∧ S (vl b N s) = false then (some (vl b N s), sgS b N 59 (.inr (nx b N s))) else (none, .inl s)
def upS (S : Nat → Bool) : Option Nat → Nat → Bool
  | none => S
  | some v => fun i => if i = v then true else S i
def addS (M : List Stm) (s : Stm) : RSt → List Stm
  | .inl _ => M
  | .inr _ => M ++ [s]
abbrev X3S : Type := RSt × List Stm × (Nat → Bool)
/-- one statement of a text -/
def oneS (b : Nat → Nat) (N : Nat) (am : Bool) (base : Nat) (x : X3S) : X3S := if am = true ∧ isWS b N wStk x.1 = true then ((stkS b N base x.2.2 x.1).2, x.2.1, upS x.2.2 (stkS b N base x.2.2 x.1).1) else ((ruleS b N x.1).2, addS x.2.1 (vK (ruleS b N x.1).1.1 (ruleS b N x.1).1.2.1 (ruleS b N x.1).1.2.2) (ruleS b N x.1).2, x.2.2)
def isE (N : Nat) : RSt → Bool
  | .inl _ => true
  | .inr s => decide (s = N)
/-- so many statements of a text -/
def rdS (b : Nat → Nat) (N : Nat) (am : Bool) (base : Nat) : Nat → X3S → X3S
  | 0, x => x
  | m + 1, x => if isE N x.1 = true then x else rdS b N am base m (oneS b N am base x)
def amS (b : Nat → Nat) (N : Nat) : Bool := isWS b N wAmd (.inr (sk b N 0))
def begS (b : Nat → Nat) (N : Nat) : RSt := if amS b N = true then sgS b N 59 (stpS b N (.inr (sk b N 0))) else .inr (sk b N 0)
/-- what a set keeps -/
def kptS (S : Nat → Bool) : List Stm → Nat → List Stm
  | [], _ => []
  | s :: L, i => if S i = true then kptS S L (i + 1) else s :: kptS S L (i + 1)
def endS (b : Nat → Nat) (N base : Nat) : X3S := rdS b N (amS b N) base 30 (begS b N, [], fun _ => false)
def fltS (N : Nat) : RSt → Option Nat
  | .inl p => some p
  | .inr s => if s = N then none else some s
def amL (b : Nat → Nat) (N : Nat) (L : List Stm) : List Stm := if amS b N = true then L else []
/-- a text: where its fault lies, or what it says -/
def txS (b : Nat → Nat) (N : Nat) (L : List Stm) : Nat ⊕ List Stm := match fltS N (endS b N (amL b N L).length).1 with
  | some p => .inl p
  | none => .inr (kptS (endS b N (amL b N L).length).2.2 (amL b N L) 0 ++ (endS b N (amL b N L).length).2.1)
theorem kptS_len (S : Nat → Bool) : ∀ (L : List Stm) (i : Nat), (kptS S L i).length ≤ L.length
  | [], _ => Nat.le_refl _
  | s :: L, i => by
    have := kptS_len S L (i + 1)
    unfold kptS
    split
    · simp only [List.length_cons]; omega
    · simp only [List.length_cons]; omega
theorem kptS_mem {S : Nat → Bool} {x : Stm} : ∀ (L : List Stm) (i : Nat), x ∈ kptS S L i → x ∈ L
  | [], _, q => q
  | s :: L, i, q => by
    unfold kptS at q
    split at q
    · exact List.mem_cons_of_mem _ (kptS_mem L (i + 1) q)
    · rcases List.mem_cons.mp q with rfl | q
      · exact List.mem_cons_self
      · exact List.mem_cons_of_mem _ (kptS_mem L (i + 1) q)
theorem kptS_out {S : Nat → Bool} {v : Nat} : ∀ (L : List Stm) (i : Nat), v < i → kptS (upS S (some v)) L i = kptS S L i
  | [], _, _ => rfl
  | s :: L, i, q => by
    have := kptS_out (S := S) (v := v) L (i + 1) (by omega)
    unfold kptS
    rw [this, show upS S (some v) i = S i from if_neg (by omega)]
theorem kptS_one {S : Nat → Bool} {v : Nat} (hv : S v = false) : ∀ (L : List Stm) (i : Nat), i ≤ v → v < i + L.length → (kptS (upS S (some v)) L i).length + 1 = (kptS S L i).length
  | [], i, h1, h2 => by simp only [List.length_nil] at h2; omega
  | s :: L, i, h1, h2 => by
    simp only [List.length_cons] at h2
    unfold kptS
    by_cases q : i = v
    · subst q
      rw [if_pos (show upS S (some i) i = true from if_pos rfl), if_neg (by rw [hv]; decide), kptS_out L (i + 1) (by omega), List.length_cons]
    · rw [show upS S (some v) i = S i from if_neg q]
      have := kptS_one hv L (i + 1) (by omega) (by omega)
      split
      · exact this
      · simp only [List.length_cons]; omega
theorem kptS_no : ∀ (L : List Stm) (i : Nat), kptS (fun _ => false) L i = L
  | [], _ => rfl
  | s :: L, i => by
    unfold kptS
    rw [if_neg (by decide), kptS_no L (i + 1)]
theorem stk_inv {base : Nat} {S : Nat → Bool} {σ : RSt} {s' : Nat} (e : (stkS b N base S σ).2 = .inr s') : ∃ s v, σ = .inr s ∧ (s < N → s < s') ∧ s' ≤ N ∧ (stkS b N base S σ).1 = some v ∧ v < base ∧ S v = false := by
  cases σ with
  | inl p => cases e
  | inr s =>
    have eu : stkS b N base S (.inr s) = if tkk b N (nx b N s) = 2 ∧ tee b N (nx b N s) - nx b N s ≤ 5 ∧ vl b N (nx b N s) < base ∧ S (vl b N (nx b N s)) = false then (some (vl b N (nx b N s)), sgS b N 59 (.inr (nx b N (nx b N s)))) else (none, .inl (nx b N s)) := rfl
    rw [eu] at e ⊢
    by_cases q : tkk b N (nx b N s) = 2 ∧ tee b N (nx b N s) - nx b N s ≤ 5 ∧ vl b N (nx b N s) < base ∧ S (vl b N (nx b N s)) = false
    · rw [if_pos q] at e ⊢
      obtain ⟨s2, e2, -, h1, h2, h3, -⟩ := sg_inv e
      have e3 : nx b N (nx b N s) = s2 := Sum.inr.inj e2
      have g1 := nx_ge (b := b) (N := N) s
      have g2 := nx_ge (b := b) (N := N) (nx b N s)
      exact ⟨s, _, rfl, fun _ => by omega, h3, rfl, q.2.2.1, q.2.2.2⟩
    · rw [if_neg q] at e
      cases e
/-- a step through a text goes on -/
theorem one_inv (N9 : N ≤ 900) {am : Bool} {base : Nat} {x : X3S} {s' : Nat} (e : (oneS b N am base x).1 = .inr s') : ∃ s, x.1 = .inr s ∧ (s < N → s < s') ∧ s' ≤ N := by
  unfold oneS at e
  split at e
  · obtain ⟨s, v, h1, h2, h3, -⟩ := stk_inv e
    exact ⟨s, h1, h2, h3⟩
  · obtain ⟨s, k, h1, h2, h3, h4, -⟩ := ruleS_ok N9 e
    exact ⟨s, h1, fun _ => h2, h4⟩
/-- the text under way -/
def XI (am : Bool) (base : Nat) (L : List Stm) (i : Nat) (x : X3S) : Prop := x.2.1.length ≤ i ∧ (∀ s, s ∈ x.2.1 → sOk s) ∧ (∀ v, base ≤ v → x.2.2 v = false)
theorem XI.one (N9 : N ≤ 900) {am : Bool} {base i : Nat} {L : List Stm} {x : X3S} (I : XI am base L i x) : XI am base L (i + 1) (oneS b N am base x) := by
  obtain ⟨i1, i2, i3⟩ := I
  unfold oneS
  split
  · refine ⟨Nat.le_succ_of_le i1, i2, fun v hv => ?_⟩
    show upS x.2.2 (stkS b N base x.2.2 x.1).1 v = false
    have hh : ∀ w, (stkS b N base x.2.2 x.1).1 = some w → w < base := fun w ew => by
      unfold stkS at ew
      split at ew
      · cases ew
      · split at ew
        · rename_i q
          cases ew
          exact q.2.2.1
        · cases ew
    cases es : (stkS b N base x.2.2 x.1).1 with
    | none => exact i3 v hv
    | some w =>
      show (if v = w then true else x.2.2 v) = false
      rw [if_neg (fun q => by have := hh w es; omega)]
      exact i3 v hv
  · cases er : (ruleS b N x.1).2 with
    | inl p => exact ⟨Nat.le_succ_of_le i1, i2, i3⟩
    | inr s =>
      obtain ⟨-, -, -, -, -, -, -, -, ok, -⟩ := ruleS_ok N9 er
      refine ⟨?_, fun s hs => ?_, i3⟩
      · show (x.2.1 ++ [_]).length ≤ i + 1
        rw [List.length_append, List.length_singleton]
        omega
      · rcases List.mem_append.mp hs with q | q
        · exact i2 s q
        · rw [List.mem_singleton.mp q]
          exact ok
theorem XI.all (N9 : N ≤ 900) {am : Bool} {base : Nat} {L : List Stm} : ∀ (m i : Nat) (x : X3S), i + m = 30 → XI am base L i x → XI am base L 30 (rdS b N am base m x)
  | 0, i, x, hi, I => by
    have : i = 30 := by omega
    subst this
    exact I
  | m + 1, i, x, hi, I => by
    unfold rdS
    split
    · exact ⟨by have := I.1; omega, I.2⟩
    · exact XI.all N9 m (i + 1) _ (by omega) (I.one N9)
theorem endS_i (N9 : N ≤ 900) (base : Nat) (L : List Stm) : XI (amS b N) base L 30 (endS b N base) := XI.all N9 30 0 _ rfl ⟨Nat.le_refl 0, (fun s q => nomatch q), fun _ _ => rfl⟩
theorem txS_ok (N9 : N ≤ 900) {L L' : List Stm} (ok : ∀ s, s ∈ L → sOk s) (e : txS b N L = .inr L') : L'.length ≤ L.length + 30 ∧ ∀ s, s ∈ L' → sOk s := by
  have I := endS_i (b := b) N9 (amL b N L).length (amL b N L)
  have h1 : ∀ s, s ∈ amL b N L → s ∈ L := fun s q => by
    unfold amL at q
    split at q
    · exact q
    · cases q
  have h2 : (amL b N L).length ≤ L.length := by
    unfold amL
    split
    · exact Nat.le_refl _
    · exact Nat.zero_le _
  unfold txS at e
  split at e
  · cases e
  · cases e
    have := kptS_len (endS b N (amL b N L).length).2.2 (amL b N L) 0
    refine ⟨by rw [List.length_append]; have := I.1; omega, fun s q => ?_⟩
    rcases List.mem_append.mp q with q | q
    · exact ok s (h1 s (kptS_mem _ _ q))
    · exact I.2.1 s q
end TEXTS

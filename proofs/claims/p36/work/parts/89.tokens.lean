/-! ===== the text of rules: tokens ===== -/
section TOKENS
/-- the kind of a byte: letter, digit, sign, blank, stray -/
def kd (v : Nat) : Nat := if 97 ≤ v ∧ v ≤ 122 then 1 else if 48 ≤ v ∧ v ≤ 57 then 2 else if v = 32 ∨ v = 10 then 4 else if v = 59 ∨ v = 40 ∨ v = 41 ∨ v = 60 ∨ v = 61 ∨ v = 62 then 3 else 5
variable {b : Nat → Nat} {N : Nat}
def rnF (b : Nat → Nat) (N k : Nat) : Nat → Nat → Nat
  | 0, p => p
  | f + 1, p => if p < N ∧ kd (b p) = k then rnF b N k f (p + 1) else p
/-- the first place on from p that isn't of this kind -/
def rn (b : Nat → Nat) (N k p : Nat) : Nat := rnF b N k (N - p) p
theorem rn_eq (k p : Nat) : rn b N k p = if p < N ∧ kd (b p) = k then rn b N k (p + 1) else p := by
  unfold rn
  by_cases h : p < N
  · obtain ⟨m, hm⟩ : ∃ m, N - p = m + 1 := ⟨N - p - 1, by omega⟩
    rw [hm, show N - (p + 1) = m by omega]
    rfl
  · rw [show N - p = 0 by omega, if_neg (fun q => h q.1)]
    rfl
theorem rn_ge (k : Nat) : ∀ (m p : Nat), N - p = m → p ≤ rn b N k p ∧ (p ≤ N → rn b N k p ≤ N) ∧ ¬ (rn b N k p < N ∧ kd (b (rn b N k p)) = k) := by
  intro m
  induction m with
  | zero =>
    intro p h
    rw [rn_eq, if_neg (fun q => by omega)]
    exact ⟨Nat.le_refl _, fun q => q, fun q => by omega⟩
  | succ m ih =>
    intro p h
    rw [rn_eq]
    by_cases q : p < N ∧ kd (b p) = k
    · rw [if_pos q]
      obtain ⟨h1, h2, h3⟩ := ih (p + 1) (by omega)
      exact ⟨by omega, fun _ => h2 (by omega), h3⟩
    · rw [if_neg q]
      exact ⟨Nat.le_refl _, fun q => q, q⟩
/-- all between are of the kind -/
theorem rn_in (k : Nat) : ∀ (m p i : Nat), N - p = m → p ≤ i → i < rn b N k p → kd (b i) = k := by
  intro m
  induction m with
  | zero =>
    intro p i h h1 h2
    rw [rn_eq, if_neg (fun q => by omega)] at h2
    omega
  | succ m ih =>
    intro p i h h1 h2
    rw [rn_eq] at h2
    by_cases q : p < N ∧ kd (b p) = k
    · rw [if_pos q] at h2
      by_cases e : i = p
      · rw [e]; exact q.2
      · exact ih (p + 1) i (by omega) (by omega) h2
    · rw [if_neg q] at h2
      omega
abbrev sk (b : Nat → Nat) (N p : Nat) : Nat := rn b N 4 p
theorem sk_ge (p : Nat) : p ≤ sk b N p := (rn_ge (b := b) (N := N) 4 _ p rfl).1
theorem sk_le {p : Nat} (h : p ≤ N) : sk b N p ≤ N := (rn_ge (b := b) (N := N) 4 _ p rfl).2.1 h
theorem sk_sk (p : Nat) : sk b N (sk b N p) = sk b N p := by
  have h := (rn_ge (b := b) (N := N) 4 _ p rfl).2.2
  show rn b N 4 (rn b N 4 p) = rn b N 4 p
  rw [rn_eq, if_neg h]
theorem sk_of {a p : Nat} (h1 : a ≤ p) (h2 : p ≤ sk b N a) : sk b N p = sk b N a := by
  have go : ∀ (m a : Nat), p - a = m → a ≤ p → p ≤ rn b N 4 a → rn b N 4 p = rn b N 4 a := by
    intro m
    induction m with
    | zero =>
      intro a h h1 _
      rw [show p = a by omega]
    | succ m ih =>
      intro a h h1 h2
      have e := rn_eq (b := b) (N := N) 4 a
      by_cases q : a < N ∧ kd (b a) = 4
      · rw [if_pos q] at e
        rw [e] at h2 ⊢
        exact ih (a + 1) (by omega) (by omega) h2
      · rw [if_neg q] at e
        rw [e] at h2
        omega
  exact go _ a rfl h1 h2
/-- the token at a place: its kind (0: the end), its end -/
def tkk (b : Nat → Nat) (N s : Nat) : Nat := if N ≤ s then 0 else kd (b s)
def tee (b : Nat → Nat) (N s : Nat) : Nat := if N ≤ s then s else if kd (b s) = 1 ∨ kd (b s) = 2 then rn b N (kd (b s)) (s + 1) else s + 1
def nx (b : Nat → Nat) (N s : Nat) : Nat := sk b N (tee b N s)
theorem tee_ge (s : Nat) : s ≤ tee b N s := by
  unfold tee
  by_cases h : N ≤ s
  · rw [if_pos h]; exact Nat.le_refl _
  · rw [if_neg h]
    by_cases q : kd (b s) = 1 ∨ kd (b s) = 2
    · rw [if_pos q]
      have := (rn_ge (b := b) (N := N) (kd (b s)) _ (s + 1) rfl).1
      omega
    · rw [if_neg q]; omega
theorem tee_gt {s : Nat} (h : s < N) : s < tee b N s := by
  unfold tee
  rw [if_neg (by omega)]
  by_cases q : kd (b s) = 1 ∨ kd (b s) = 2
  · rw [if_pos q]
    have := (rn_ge (b := b) (N := N) (kd (b s)) _ (s + 1) rfl).1
    omega
  · rw [if_neg q]; omega
theorem tee_le {s : Nat} (h : s ≤ N) : tee b N s ≤ N := by
  unfold tee
  by_cases h1 : N ≤ s
  · rw [if_pos h1]; exact h
  · rw [if_neg h1]
    by_cases q : kd (b s) = 1 ∨ kd (b s) = 2
    · rw [if_pos q]
      exact (rn_ge (b := b) (N := N) (kd (b s)) _ (s + 1) rfl).2.1 (by omega)
    · rw [if_neg q]; omega
theorem nx_gt {s : Nat} (h : s < N) : s < nx b N s := Nat.lt_of_lt_of_le (tee_gt h) (sk_ge _)
theorem nx_ge (s : Nat) : s ≤ nx b N s := Nat.le_trans (tee_ge s) (sk_ge _)
theorem nx_le {s : Nat} (h : s ≤ N) : nx b N s ≤ N := sk_le (tee_le h)
theorem sk_nx (s : Nat) : sk b N (nx b N s) = nx b N s := sk_sk _
/-- letters of a word against the text, up to an end -/
def mt (b : Nat → Nat) (N e : Nat) : Nat → List Nat → Nat
  | p, [] => p
  | p, c :: w => mt b N e (if p < e ∧ b p = c then p + 1 else N + 1) w
def isW (b : Nat → Nat) (N : Nat) (w : List Nat) (s : Nat) : Bool := decide (tkk b N s = 1) && decide (mt b N (tee b N s) s w = tee b N s)
theorem mt_dead {e : Nat} (he : e ≤ N) : ∀ w : List Nat, mt b N e (N + 1) w = N + 1
  | [] => rfl
  | c :: w => by
    unfold mt
    rw [if_neg (fun q => by omega)]
    exact mt_dead he w
theorem mt_iff {e : Nat} (he : e ≤ N) : ∀ (w : List Nat) (p : Nat), p ≤ e → (mt b N e p w = e ↔ e = p + w.length ∧ ∀ i c, w[i]? = some c → b (p + i) = c)
  | [], p, _ => by
    unfold mt
    constructor
    · intro h
      exact ⟨by rw [List.length_nil]; omega, fun i c q => by cases q⟩
    · intro h
      rw [h.1, List.length_nil]; rfl
  | c :: w, p, hp => by
    unfold mt
    by_cases q : p < e ∧ b p = c
    · rw [if_pos q, mt_iff he w (p + 1) (by omega)]
      constructor
      · intro h
        refine ⟨by rw [List.length_cons]; omega, fun i c' hc => ?_⟩
        cases i with
        | zero => cases hc; exact q.2
        | succ i =>
          have := h.2 i c' hc
          rw [show p + (i + 1) = p + 1 + i by omega]
          exact this
      · intro h
        refine ⟨by have := h.1; rw [List.length_cons] at this; omega, fun i c' hc => ?_⟩
        have := h.2 (i + 1) c' hc
        rw [show p + 1 + i = p + (i + 1) by omega]
        exact this
    · rw [if_neg q, mt_dead he]
      constructor
      · intro h; omega
      · intro h
        exact absurd ⟨by have := h.1; rw [List.length_cons] at this; omega, h.2 0 c rfl⟩ q
/-- the first of some words that stands there -/
def pkW (b : Nat → Nat) (N : Nat) (s : Nat) : List (List Nat) → Nat → Option Nat
  | [], _ => none
  | w :: t, i => if isW b N w s = true then some i else pkW b N s t (i + 1)
/-- what digits tell -/
def vlF (b : Nat → Nat) (s : Nat) : Nat → Nat
  | 0 => 0
  | i + 1 => vlF b s i * 10 + (b (s + i) - 48)
def vl (b : Nat → Nat) (N s : Nat) : Nat := vlF b s (tee b N s - s)
theorem vlF_lt (s : Nat) : ∀ m, (∀ i, i < m → kd (b (s + i)) = 2) → vlF b s m < 10 ^ m
  | 0, _ => Nat.zero_lt_one
  | m + 1, h => by
    have ih := vlF_lt s m (fun i hi => h i (by omega))
    have hk := h m (by omega)
    have hb : b (s + m) ≤ 57 := by
      unfold kd at hk
      by_cases q1 : 97 ≤ b (s + m) ∧ b (s + m) ≤ 122
      · rw [if_pos q1] at hk; omega
      rw [if_neg q1] at hk
      by_cases q2 : 48 ≤ b (s + m) ∧ b (s + m) ≤ 57
      · exact q2.2
      rw [if_neg q2] at hk
      by_cases q3 : b (s + m) = 32 ∨ b (s + m) = 10
      · rw [if_pos q3] at hk; omega
      rw [if_neg q3] at hk
      split at hk <;> omega
    show vlF b s m * 10 + (b (s + m) - 48) < 10 ^ (m + 1)
    rw [Nat.pow_succ]
    omega
/-- a state: the token at a place stands; or FAULT at a place -/
abbrev RSt : Type := Nat ⊕ Nat
def stpS (b : Nat → Nat) (N : Nat) : RSt → RSt
  | .inl p => .inl p
  | .inr s => .inr (nx b N s)
def flS : RSt → RSt
  | .inl p => .inl p
  | .inr s => .inl s
def pkS (b : Nat → Nat) (N : Nat) (ws : List (List Nat)) : RSt → Int32 × RSt
  | .inl p => (-1, .inl p)
  | .inr s => match pkW b N s ws 0 with
    | some i => (ni i, .inr (nx b N s))
    | none => (-1, .inl s)
def nmS (b : Nat → Nat) (N lo hi : Nat) : RSt → Int32 × RSt
  | .inl p => (-1, .inl p)
  | .inr s => if tkk b N s = 2 ∧ tee b N s - s ≤ 5 ∧ lo ≤ vl b N s ∧ vl b N s ≤ hi then (ni (vl b N s), .inr (nx b N s)) else (-1, .inl s)
def isG (b : Nat → Nat) (N c : Nat) : RSt → Bool
  | .inl _ => false
  | .inr s => decide (tkk b N s = 3) && decide (b s = c)
def isWS (b : Nat → Nat) (N : Nat) (w : List Nat) : RSt → Bool
  | .inl _ => false
  | .inr s => isW b N w s
def sgS (b : Nat → Nat) (N c : Nat) (σ : RSt) : RSt := if isG b N c σ = true then stpS b N σ else flS σ
end TOKENS

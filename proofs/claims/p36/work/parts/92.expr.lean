/-! ===== tests behind "unless": what is read ===== -/
section EXPR
variable {b : Nat → Nat} {N : Nat}
def cmE (b : Nat → Nat) (N : Nat) (w : Int32) (sg : Nat) (σ : RSt) : List Int32 × RSt := ([((nmS b N 0 99999 (stpS b N σ)).1 * 5 + w) * 3 + ni sg], (nmS b N 0 99999 (stpS b N σ)).2)
/-- a comparison -/
def cmS (b : Nat → Nat) (N : Nat) (σ : RSt) : List Int32 × RSt :=
  if isG b N 60 (pkS b N (wds 14) σ).2 = true then cmE b N (pkS b N (wds 14) σ).1 0 (pkS b N (wds 14) σ).2
  else if isG b N 62 (pkS b N (wds 14) σ).2 = true then cmE b N (pkS b N (wds 14) σ).1 1 (pkS b N (wds 14) σ).2
  else if isG b N 61 (pkS b N (wds 14) σ).2 = true then cmE b N (pkS b N (wds 14) σ).1 2 (pkS b N (wds 14) σ).2
  else ([], flS (pkS b N (wds 14) σ).2)
def lpO (b : Nat → Nat) (N : Nat) (w : List Nat) (op : Int32) (f : RSt → List Int32 × RSt) : Nat → List Int32 → RSt → List Int32 × RSt
  | 0, L, σ => (L, σ)
  | k + 1, L, σ => if isWS b N w σ = true then lpO b N w op f k (L ++ ((f (stpS b N σ)).1 ++ [op])) (f (stpS b N σ)).2 else (L, σ)
def wOr : List Nat := [111, 114]
def wAnd : List Nat := [97, 110, 100]
def wNot : List Nat := [110, 111, 116]
theorem wds_or : wds 11 = [wOr] := by decide +kernel
theorem wds_and : wds 12 = [wAnd] := by decide +kernel
theorem wds_not : wds 13 = [wNot] := by decide +kernel
abbrev EX : Type := Nat → RSt → List Int32 × RSt
def anyB (b : Nat → Nat) (N : Nat) (a : EX) : EX := fun o σ => lpO b N wOr (-3) (a o) 900 (a o σ).1 (a o σ).2
def allB (b : Nat → Nat) (N : Nat) (a : EX) : EX := fun o σ => lpO b N wAnd (-2) (a o) 900 (a o σ).1 (a o σ).2
def oneB (b : Nat → Nat) (N : Nat) (y a : EX) : EX := fun o σ =>
  if isWS b N wNot σ = true then (if o < 10 then ((a (o + 1) (stpS b N σ)).1 ++ [-1], (a (o + 1) (stpS b N σ)).2) else ([], flS σ))
  else if isG b N 40 σ = true then (if o < 10 then ((y (o + 1) (stpS b N σ)).1, sgS b N 41 (y (o + 1) (stpS b N σ)).2) else ([], flS σ))
  else cmS b N σ
def exS (b : Nat → Nat) (N : Nat) : Nat → EX × EX × EX
  | 0 => (fun _ σ => ([], flS σ), fun _ σ => ([], flS σ), fun _ σ => ([], flS σ))
  | d + 1 => (anyB b N (exS b N d).2.1, allB b N (exS b N d).2.2, oneB b N (exS b N d).1 (exS b N d).2.2)
/-- FAULT stays -/
theorem cmS_l (p : Nat) : cmS b N (.inl p) = ([], .inl p) := rfl
theorem lpO_l (w : List Nat) (op : Int32) (f : RSt → List Int32 × RSt) (p : Nat) : ∀ k L, lpO b N w op f k L (.inl p) = (L, .inl p)
  | 0, _ => rfl
  | k + 1, L => if_neg (fun q => by cases q)
theorem exS_l (p : Nat) : ∀ (d o : Nat), ((exS b N d).1 o (.inl p)).2 = .inl p ∧ ((exS b N d).2.1 o (.inl p)).2 = .inl p ∧ ((exS b N d).2.2 o (.inl p)).2 = .inl p
  | 0, o => ⟨rfl, rfl, rfl⟩
  | d + 1, o => by
    obtain ⟨h1, h2, h3⟩ := exS_l p d o
    refine ⟨?_, ?_, ?_⟩
    · show (lpO b N wOr (-3) _ 900 _ ((exS b N d).2.1 o (.inl p)).2).2 = _
      rw [h2, lpO_l]
    · show (lpO b N wAnd (-2) _ 900 _ ((exS b N d).2.2 o (.inl p)).2).2 = _
      rw [h3, lpO_l]
    · rfl
/-- what a test that is read has: it is short, its numbers are right, one answer is left -/
def Gd (N o c s : Nat) (r : List Int32 × RSt) : Prop := ∀ s', r.2 = .inr s' → s + r.1.length ≤ s' ∧ s < s' ∧ s' ≤ N ∧ (∀ t, t ∈ r.1 → tOk t) ∧ ∀ D R, D + 2 * (10 - o) + c < 40 → tDeep D (r.1 ++ R) = tDeep (D + 1) R
theorem tD_3 {D : Nat} (h : 1 ≤ D) (R : List Int32) : tDeep (D + 1) ((-3) :: R) = tDeep D R := by
  rw [tDeep, if_neg (by decide), if_pos (Or.inr rfl), if_pos (by omega), show D + 1 - 1 = D by omega]
theorem tD_2 {D : Nat} (h : 1 ≤ D) (R : List Int32) : tDeep (D + 1) ((-2) :: R) = tDeep D R := by
  rw [tDeep, if_neg (by decide), if_pos (Or.inl rfl), if_pos (by omega), show D + 1 - 1 = D by omega]
theorem tD_1 (D : Nat) (R : List Int32) : tDeep (D + 1) ((-1) :: R) = tDeep (D + 1) R := by
  rw [tDeep, if_pos rfl, if_pos (by omega)]
theorem Gd.lp {o c s0 : Nat} {w : List Nat} {op : Int32} {f : RSt → List Int32 × RSt} (ho : op = -3 ∨ op = -2) (F : ∀ s, s < N → Gd N o c (nx b N s) (f (.inr (nx b N s)))) (Fl : ∀ p, (f (.inl p)).2 = .inl p) : ∀ (k : Nat) (L : List Int32) (σ : RSt), Gd N o (c + 1) s0 (L, σ) → Gd N o (c + 1) s0 (lpO b N w op f k L σ)
  | 0, L, σ, g => g
  | k + 1, L, σ, g => by
    unfold lpO
    by_cases q : isWS b N w σ = true
    · rw [if_pos q]
      refine Gd.lp ho F Fl k _ _ ?_
      cases σ with
      | inl p => cases q
      | inr s =>
        obtain ⟨g1, g2, g3, g4, g5⟩ := g s rfl
        have hsN : s < N := by
          refine Nat.not_le.mp fun z => ?_
          have e : tkk b N s = 0 := by
            unfold tkk
            rw [if_pos z]
          have q' : isW b N w s = true := q
          unfold isW at q'
          rw [e, show decide ((0 : Nat) = 1) = false from rfl, Bool.false_and] at q'
          cases q'
        intro s' e
        obtain ⟨f1, f2, f3, f4, f5⟩ := F s hsN s' e
        have hn := nx_gt (b := b) hsN
        refine ⟨?_, ?_, f3, fun t ht => ?_, fun D R hD => ?_⟩
        · show s0 + (L ++ ((f (stpS b N (.inr s))).1 ++ [op])).length ≤ s'
          have f1' : nx b N s + (f (stpS b N (.inr s))).1.length ≤ s' := f1
          have g1' : s0 + L.length ≤ s := g1
          rw [List.length_append, List.length_append, List.length_singleton]
          omega
        · omega
        · rcases List.mem_append.mp ht with ht | ht
          · exact g4 t ht
          · rcases List.mem_append.mp ht with ht | ht
            · exact f4 t ht
            · rw [List.mem_singleton.mp ht]
              rcases ho with e | e
              · exact Or.inr (Or.inr (Or.inl e))
              · exact Or.inr (Or.inl e)
        · show tDeep D ((L ++ ((f (stpS b N (.inr s))).1 ++ [op])) ++ R) = _
          have g5' : tDeep D (L ++ (((f (stpS b N (.inr s))).1 ++ [op]) ++ R)) = tDeep (D + 1) (((f (stpS b N (.inr s))).1 ++ [op]) ++ R) := g5 D _ hD
          have f5' : tDeep (D + 1) ((f (stpS b N (.inr s))).1 ++ ([op] ++ R)) = tDeep (D + 2) ([op] ++ R) := f5 (D + 1) _ (by omega)
          rw [List.append_assoc, g5', List.append_assoc, f5']
          rcases ho with e | e
          · rw [e]; exact tD_3 (by omega) R
          · rw [e]; exact tD_2 (by omega) R
    · rw [if_neg q]
      exact g
theorem isW_lt {w : List Nat} {s : Nat} (q : isW b N w s = true) : s < N := by
  refine Nat.not_le.mp fun z => ?_
  have e : tkk b N s = 0 := by
    unfold tkk
    rw [if_pos z]
  unfold isW at q
  rw [e, show decide ((0 : Nat) = 1) = false from rfl, Bool.false_and] at q
  cases q
theorem isG_lt {v s : Nat} (q : isG b N v (.inr s) = true) : s < N := by
  refine Nat.not_le.mp fun z => ?_
  have e : tkk b N s = 0 := by
    unfold tkk
    rw [if_pos z]
  have q' : (decide (tkk b N s = 3) && decide (b s = v)) = true := q
  rw [e, show decide ((0 : Nat) = 3) = false from rfl, Bool.false_and] at q'
  cases q'
theorem pkW_is (s : Nat) : ∀ (ws : List (List Nat)) (i j : Nat), pkW b N s ws i = some j → ∃ w, w ∈ ws ∧ isW b N w s = true
  | [], i, j, e => by cases e
  | w :: ws, i, j, e => by
    unfold pkW at e
    split at e
    · rename_i q
      exact ⟨w, List.mem_cons_self, q⟩
    · obtain ⟨w', h1, h2⟩ := pkW_is s ws (i + 1) j e
      exact ⟨w', List.mem_cons_of_mem _ h1, h2⟩
/-- where a pick, a number, a sign lead -/
theorem pkS_r {s s' : Nat} {ws : List (List Nat)} (e : (pkS b N ws (.inr s)).2 = .inr s') : s < N ∧ s' = nx b N s ∧ ∃ i, i < ws.length ∧ pkW b N s ws 0 = some i ∧ (pkS b N ws (.inr s)).1 = ni i := by
  cases q : pkW b N s ws 0 with
  | none => rw [pkS_none q] at e; cases e
  | some i =>
    rw [pkS_some q] at e
    obtain ⟨w, h1, h2⟩ := pkW_is s ws 0 i q
    have := pkW_lt s ws 0 i q
    exact ⟨isW_lt h2, (Sum.inr.inj e).symm, i, by omega, rfl, by rw [pkS_some q]⟩
theorem nmS_r {s s' lo hi : Nat} (e : (nmS b N lo hi (.inr s)).2 = .inr s') : s < N ∧ s' = nx b N s ∧ ∃ v, lo ≤ v ∧ v ≤ hi ∧ (nmS b N lo hi (.inr s)).1 = ni v ∧ v = vl b N s := by
  by_cases q : tkk b N s = 2 ∧ tee b N s - s ≤ 5 ∧ lo ≤ vl b N s ∧ vl b N s ≤ hi
  · rw [nmS_yes q] at e
    refine ⟨?_, (Sum.inr.inj e).symm, vl b N s, q.2.2.1, q.2.2.2, by rw [nmS_yes q], rfl⟩
    refine Nat.not_le.mp fun z => ?_
    have := q.1
    unfold tkk at this
    rw [if_pos z] at this
    omega
  · rw [nmS_no q] at e
    cases e
theorem cmI_eq (v w sg : Nat) : (ni v * 5 + ni w) * 3 + ni sg = cmpI w sg v := by
  show (ni v * ni 5 + ni w) * ni 3 + ni sg = _
  rw [ni_mul, ni_add, ni_mul, ni_add]
  rfl
theorem tD_0 {D w sg v : Nat} (hD : D < 40) (hw : w < 5) (hs : sg < 3) (hv : v ≤ 99999) (R : List Int32) : tDeep D (cmpI w sg v :: R) = tDeep (D + 1) R := by
  obtain ⟨n1, n2, n3⟩ := cmp_ne hv hw hs
  rw [tDeep, if_neg n1, if_neg (fun q => q.elim n2 n3), if_pos hD]
theorem cmE_gd {o s0 s w sg : Nat} (hw : w < 5) (hs : sg < 3) (h0 : s0 < s) (hsN : s < N) : Gd N o 0 s0 (cmE b N (ni w) sg (.inr s)) := by
  intro s' e
  have e' : (nmS b N 0 99999 (.inr (nx b N s))).2 = .inr s' := e
  obtain ⟨h1, h2, v, h3, h4, h5, -⟩ := nmS_r e'
  have n1 := nx_gt (b := b) hsN
  have n2 := nx_gt (b := b) h1
  have n3 := nx_le (b := b) (N := N) (s := nx b N s) (by omega)
  have eL : (cmE b N (ni w) sg (.inr s)).1 = [cmpI w sg v] := by
    show [((nmS b N 0 99999 (.inr (nx b N s))).1 * 5 + ni w) * 3 + ni sg] = _
    rw [h5, cmI_eq]
  rw [eL, h2]
  refine ⟨by rw [List.length_singleton]; omega, by omega, n3, fun t ht => ?_, fun D R hD => ?_⟩
  · rw [List.mem_singleton.mp ht]
    exact Or.inr (Or.inr (Or.inr ⟨w, sg, v, hw, hs, h4, rfl⟩))
  · show tDeep D (cmpI w sg v :: R) = _
    exact tD_0 (by omega) hw hs h4 R
theorem wds14 : (wds 14).length = 5 := by decide +kernel
theorem cmS_gd {o s : Nat} : Gd N o 0 s (cmS b N (.inr s)) := by
  intro s' e
  have key : ∀ sg, sg < 3 → isG b N (if sg = 0 then 60 else if sg = 1 then 62 else 61) (pkS b N (wds 14) (.inr s)).2 = true → Gd N o 0 s (cmE b N (pkS b N (wds 14) (.inr s)).1 sg (pkS b N (wds 14) (.inr s)).2) := by
    intro sg hs q
    cases hp : (pkS b N (wds 14) (.inr s)).2 with
    | inl p => rw [hp] at q; cases q
    | inr s1 =>
      obtain ⟨h1, h2, i, h3, h4, h5⟩ := pkS_r hp
      rw [hp] at q
      have hl := isG_lt q
      have := nx_gt (b := b) h1
      rw [wds14] at h3
      rw [h5]
      exact cmE_gd h3 hs (by omega) hl
  unfold cmS at e ⊢
  by_cases q0 : isG b N 60 (pkS b N (wds 14) (.inr s)).2 = true
  · rw [if_pos q0] at e ⊢
    exact key 0 (by omega) q0 s' e
  rw [if_neg q0] at e ⊢
  by_cases q1 : isG b N 62 (pkS b N (wds 14) (.inr s)).2 = true
  · rw [if_pos q1] at e ⊢
    exact key 1 (by omega) q1 s' e
  rw [if_neg q1] at e ⊢
  by_cases q2 : isG b N 61 (pkS b N (wds 14) (.inr s)).2 = true
  · rw [if_pos q2] at e ⊢
    exact key 2 (by omega) q2 s' e
  rw [if_neg q2] at e
  cases hp : (pkS b N (wds 14) (.inr s)).2 with
  | inl p => rw [hp] at e; cases e
  | inr s1 => rw [hp] at e; cases e
theorem exS_gd : ∀ (d : Nat), (∀ o s, s ≤ N → Gd N o 2 s ((exS b N d).1 o (.inr s))) ∧ (∀ o s, s ≤ N → Gd N o 1 s ((exS b N d).2.1 o (.inr s))) ∧ ∀ o s, s ≤ N → Gd N o 0 s ((exS b N d).2.2 o (.inr s))
  | 0 => ⟨fun o s _ s' e => (by cases e), fun o s _ s' e => (by cases e), fun o s _ s' e => (by cases e)⟩
  | d + 1 => by
    obtain ⟨h1, h2, h3⟩ := exS_gd d
    have wk : ∀ {o c s : Nat} {r : List Int32 × RSt}, Gd N o c s r → Gd N o (c + 1) s r := fun g s' e => by
      obtain ⟨a1, a2, a3, a4, a5⟩ := g s' e
      exact ⟨a1, a2, a3, a4, fun D R hD => a5 D R (by omega)⟩
    refine ⟨fun o s hs => ?_, fun o s hs => ?_, fun o s hs => ?_⟩
    · refine Gd.lp (c := 1) (Or.inl rfl) (fun s1 q => h2 o _ (nx_le (by omega))) (fun p => (exS_l p d o).2.1) 900 _ _ (wk (h2 o s hs))
    · refine Gd.lp (c := 0) (Or.inr rfl) (fun s1 q => h3 o _ (nx_le (by omega))) (fun p => (exS_l p d o).2.2) 900 _ _ (wk (h3 o s hs))
    · show Gd N o 0 s (oneB b N (exS b N d).1 (exS b N d).2.2 o (.inr s))
      unfold oneB
      by_cases q : isWS b N wNot (.inr s) = true
      · rw [if_pos q]
        have hsN := isW_lt (b := b) q
        have hn := nx_gt (b := b) hsN
        by_cases ho : o < 10
        · rw [if_pos ho]
          intro s' e
          obtain ⟨a1, a2, a3, a4, a5⟩ := h3 (o + 1) (nx b N s) (nx_le hs) s' e
          refine ⟨?_, by omega, a3, fun t ht => ?_, fun D R hD => ?_⟩
          · show s + (((exS b N d).2.2 (o + 1) (stpS b N (.inr s))).1 ++ [-1]).length ≤ s'
            have a1' : nx b N s + ((exS b N d).2.2 (o + 1) (stpS b N (.inr s))).1.length ≤ s' := a1
            rw [List.length_append, List.length_singleton]
            omega
          · rcases List.mem_append.mp ht with ht | ht
            · exact a4 t ht
            · exact Or.inl (List.mem_singleton.mp ht)
          · show tDeep D ((((exS b N d).2.2 (o + 1) (stpS b N (.inr s))).1 ++ [-1]) ++ R) = _
            have a5' : tDeep D (((exS b N d).2.2 (o + 1) (stpS b N (.inr s))).1 ++ ([-1] ++ R)) = tDeep (D + 1) ([-1] ++ R) := a5 D _ (by omega)
            rw [List.append_assoc, a5']
            exact tD_1 D R
        · rw [if_neg ho]
          intro s' e
          cases e
      · rw [if_neg q]
        by_cases q2 : isG b N 40 (.inr s) = true
        · rw [if_pos q2]
          have hsN := isG_lt q2
          have hn := nx_gt (b := b) hsN
          by_cases ho : o < 10
          · rw [if_pos ho]
            intro s' e
            have e' : sgS b N 41 ((exS b N d).1 (o + 1) (stpS b N (.inr s))).2 = .inr s' := e
            unfold sgS at e'
            cases hp : ((exS b N d).1 (o + 1) (stpS b N (.inr s))).2 with
            | inl p =>
              rw [hp] at e'
              cases e'
            | inr s1 =>
              rw [hp] at e'
              by_cases q3 : isG b N 41 (.inr s1) = true
              · rw [if_pos q3] at e'
                obtain ⟨a1, a2, a3, a4, a5⟩ := h1 (o + 1) (nx b N s) (nx_le hs) s1 hp
                have es : s' = nx b N s1 := (Sum.inr.inj e').symm
                have n1 := nx_ge (b := b) (N := N) s1
                have n2 := nx_le (b := b) a3
                refine ⟨?_, by omega, by omega, a4, fun D R hD => a5 D R (by omega)⟩
                have a1' : nx b N s + ((exS b N d).1 (o + 1) (stpS b N (.inr s))).1.length ≤ s1 := a1
                show s + ((exS b N d).1 (o + 1) (stpS b N (.inr s))).1.length ≤ s'
                omega
              · rw [if_neg q3] at e'
                cases e'
          · rw [if_neg ho]
            intro s' e
            cases e
        · rw [if_neg q2]
          exact cmS_gd
end EXPR

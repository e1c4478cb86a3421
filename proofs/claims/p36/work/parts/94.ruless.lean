/-! ===== a rule: what is read ===== -/
section RULES
variable {b : Nat → Nat} {N : Nat}
theorem pk_inv {ws : List (List Nat)} {σ : RSt} {s' : Nat} (e : (pkS b N ws σ).2 = .inr s') : ∃ s i, σ = .inr s ∧ i < ws.length ∧ (pkS b N ws σ).1 = ni i ∧ s < s' ∧ s < N ∧ s' ≤ N ∧ s' = nx b N s ∧ pkW b N s ws 0 = some i := by
  cases σ with
  | inl p => cases e
  | inr s =>
    obtain ⟨h1, h2, i, h3, h4, h5⟩ := pkS_r e
    exact ⟨s, i, rfl, h3, h5, by rw [h2]; exact nx_gt h1, h1, by rw [h2]; exact nx_le (by omega), h2, h4⟩
theorem nm_inv {lo hi : Nat} {σ : RSt} {s' : Nat} (e : (nmS b N lo hi σ).2 = .inr s') : ∃ s v, σ = .inr s ∧ lo ≤ v ∧ v ≤ hi ∧ (nmS b N lo hi σ).1 = ni v ∧ s < s' ∧ s < N ∧ s' ≤ N ∧ s' = nx b N s ∧ v = vl b N s := by
  cases σ with
  | inl p => cases e
  | inr s =>
    obtain ⟨h1, h2, v, h3, h4, h5, h6⟩ := nmS_r e
    exact ⟨s, v, rfl, h3, h4, h5, by rw [h2]; exact nx_gt h1, h1, by rw [h2]; exact nx_le (by omega), h2, h6⟩
theorem sg_inv {v : Nat} {σ : RSt} {s' : Nat} (e : sgS b N v σ = .inr s') : ∃ s, σ = .inr s ∧ isG b N v σ = true ∧ s < s' ∧ s < N ∧ s' ≤ N ∧ s' = nx b N s := by
  unfold sgS at e
  by_cases q : isG b N v σ = true
  · rw [if_pos q] at e
    cases σ with
    | inl p => cases e
    | inr s =>
      have h1 := isG_lt q
      have h2 : s' = nx b N s := (Sum.inr.inj e).symm
      exact ⟨s, rfl, q, by rw [h2]; exact nx_gt h1, h1, by rw [h2]; exact nx_le (by omega), h2⟩
  · rw [if_neg q] at e
    cases σ with
    | inl p => cases e
    | inr s => cases e
/-- of, mode, driver, number, second, step, coin, dead, cap -/
abbrev V9 : Type := Int32 × Int32 × Int32 × Int32 × Int32 × Int32 × Int32 × Int32 × Int32
def alS_ (b : Nat → Nat) (N : Nat) (σ : RSt) : V9 × RSt :=
  let o := pkS b N (wds 3) σ
  let m := pkS b N (wds 5) o.2
  if m.1 = 3 then
    let x := nmS b N 0 200 m.2
    ((o.1, m.1, 0, x.1, 0, 0, 0, 0, 0), x.2)
  else
    let d := nmS b N 0 2 m.2
    let x := nmS b N 0 200 d.2
    ((o.1, m.1, d.1, x.1, 0, 0, 0, 0, 0), x.2)
def shS_ (b : Nat → Nat) (N : Nat) (σ : RSt) : V9 × RSt :=
  let o := pkS b N (wds 3) σ
  let x := nmS b N 0 100 o.2
  let y := nmS b N 0 100 x.2
  ((o.1, 0, 0, x.1, y.1, 0, 0, 0, 0), y.2)
def tgS_ (b : Nat → Nat) (N : Nat) (σ : RSt) : V9 × RSt :=
  let o := nmS b N 0 2 σ
  let m := pkS b N (wds 6) o.2
  let x := nmS b N 0 99999 m.2
  let s := nmS b N 1 99999 (pkS b N (wds 7) x.2).2
  let c := nmS b N 0 99999 (pkS b N (wds 8) s.2).2
  let d := nmS b N 0 99999 (pkS b N (wds 9) c.2).2
  let e := nmS b N 0 99999 (pkS b N (wds 10) d.2).2
  ((o.1, m.1, 0, x.1, 0, s.1, c.1, d.1, e.1), e.2)
def plS_ (b : Nat → Nat) (N lo hi : Nat) (σ : RSt) : V9 × RSt :=
  let x := nmS b N lo hi σ
  ((0, 0, 0, x.1, 0, 0, 0, 0, 0), x.2)
def bodyS (b : Nat → Nat) (N : Nat) (k : Int32) (σ : RSt) : V9 × RSt :=
  if k = 0 then alS_ b N σ else if k = 1 then shS_ b N σ else if k = 2 then tgS_ b N σ else if k = 3 then plS_ b N 0 500 σ else if k = 4 then plS_ b N 50 150 σ else plS_ b N 0 100 σ
def wUnl : List Nat := [117, 110, 108, 101, 115, 115]
theorem wds_unl : wds 4 = [wUnl] := by decide +kernel
def tailS (b : Nat → Nat) (N : Nat) (σ : RSt) : List Int32 × RSt := if isWS b N wUnl σ = true then (((exS b N 48).1 0 (stpS b N σ)).1, sgS b N 59 ((exS b N 48).1 0 (stpS b N σ)).2) else ([], sgS b N 59 σ)
/-- a rule: its kind, its numbers, its test -/
def ruleS (b : Nat → Nat) (N : Nat) (σ : RSt) : (Int32 × V9 × List Int32) × RSt :=
  (((pkS b N (wds 2) σ).1, (bodyS b N (pkS b N (wds 2) σ).1 (pkS b N (wds 2) σ).2).1, (tailS b N (bodyS b N (pkS b N (wds 2) σ).1 (pkS b N (wds 2) σ).2).2).1), (tailS b N (bodyS b N (pkS b N (wds 2) σ).1 (pkS b N (wds 2) σ).2).2).2)
def vK (k : Int32) (v : V9) (L : List Int32) : Stm :=
  if k = 0 then ((0, v.1.toNatClampNeg, v.2.1.toNatClampNeg), (v.2.2.1.toNatClampNeg, v.2.2.2.1.toNatClampNeg, 0, 0, 0), L)
  else if k = 1 then ((1, v.1.toNatClampNeg, 0), (v.2.2.2.1.toNatClampNeg, v.2.2.2.2.1.toNatClampNeg, 0, 0, 0), L)
  else if k = 2 then ((2, v.1.toNatClampNeg, v.2.1.toNatClampNeg), (v.2.2.2.1.toNatClampNeg, v.2.2.2.2.2.1.toNatClampNeg, v.2.2.2.2.2.2.1.toNatClampNeg, v.2.2.2.2.2.2.2.1.toNatClampNeg, v.2.2.2.2.2.2.2.2.toNatClampNeg), L)
  else ((k.toNatClampNeg, 0, 0), (v.2.2.2.1.toNatClampNeg, 0, 0, 0, 0), L)
/-- a Rule's cells -/
def vV (k : Int32) (v : V9) (u : Nat) : List Value := [.int k, .int v.1, .int v.2.1, .int v.2.2.1, .int v.2.2.2.1, .int v.2.2.2.2.1, .int v.2.2.2.2.2.1, .int v.2.2.2.2.2.2.1, .int v.2.2.2.2.2.2.2.1, .int v.2.2.2.2.2.2.2.2, .ref u]
theorem w2_len : (wds 2).length = 9 := by decide +kernel
theorem w3_len : (wds 3).length = 4 := by decide +kernel
theorem w5_len : (wds 5).length = 4 := by decide +kernel
theorem w6_len : (wds 6).length = 2 := by decide +kernel
/-- the rest of a rule: where it leads -/
theorem tail_inv {σ : RSt} {s' : Nat} (e : (tailS b N σ).2 = .inr s') : ∃ s, σ = .inr s ∧ s < s' ∧ s < N ∧ s' ≤ N ∧ ((tailS b N σ).1 = [] ∨ ((tailS b N σ).1.length ≤ 900 ∨ 900 < N) ∧ tDeep 0 (tailS b N σ).1 = some 1 ∧ ∀ t, t ∈ (tailS b N σ).1 → tOk t) := by
  unfold tailS at e ⊢
  by_cases q : isWS b N wUnl σ = true
  · rw [if_pos q] at e ⊢
    cases σ with
    | inl p => cases q
    | inr s =>
      have hs := isW_lt (b := b) q
      obtain ⟨s2, e2, -, h1, h2, h3, -⟩ := sg_inv e
      obtain ⟨a1, a2, a3, a4, a5⟩ := (exS_gd (b := b) (N := N) 48).1 0 (nx b N s) (nx_le (by omega)) s2 e2
      have hn := nx_gt (b := b) hs
      have a1' : nx b N s + ((exS b N 48).1 0 (stpS b N (.inr s))).1.length ≤ s2 := a1
      refine ⟨s, rfl, by omega, hs, h3, Or.inr ⟨?_, ?_, a4⟩⟩
      · show ((exS b N 48).1 0 (stpS b N (.inr s))).1.length ≤ 900 ∨ 900 < N
        omega
      · have a5' := a5 0 [] (by omega)
        rw [List.append_nil] at a5'
        show tDeep 0 ((exS b N 48).1 0 (.inr (nx b N s))).1 = some 1
        rw [a5']
        rfl
  · rw [if_neg q] at e ⊢
    obtain ⟨s, h1, -, h2, h3, h4, -⟩ := sg_inv e
    exact ⟨s, h1, h2, h3, h4, Or.inl rfl⟩
theorem ruleS_l (p : Nat) : (ruleS b N (.inl p)).2 = .inl p := rfl
abbrev TL (L : List Int32) : Prop := L = [] ∨ L.length ≤ 900 ∧ tDeep 0 L = some 1 ∧ ∀ t, t ∈ L → tOk t
theorem no_01 : ¬ (0 : Nat) = 1 := by decide
theorem sOk_0 {o m a c : Nat} {L : List Int32} (h1 : o ≤ 3) (h2 : m ≤ 3) (h3 : a ≤ 2) (h4 : c ≤ 200) (t : TL L) : sOk ((0, o, m), (a, c, 0, 0, 0), L) := ⟨Nat.zero_le 8, fun _ => ⟨h1, h2, h3, h4⟩, fun z => absurd z (show ¬ (0 : Nat) = 1 by decide), fun z => absurd z (show ¬ (0 : Nat) = 2 by decide), fun z => absurd z (show ¬ 3 ≤ 0 by decide), t⟩
theorem sOk_1 {o a c : Nat} {L : List Int32} (h1 : o ≤ 3) (h3 : a ≤ 100) (h4 : c ≤ 100) (t : TL L) : sOk ((1, o, 0), (a, c, 0, 0, 0), L) := ⟨show 1 ≤ 8 by decide, fun z => absurd z (show ¬ (1 : Nat) = 0 by decide), fun _ => ⟨h1, h3, h4⟩, fun z => absurd z (show ¬ (1 : Nat) = 2 by decide), fun z => absurd z (show ¬ 3 ≤ 1 by decide), t⟩
theorem sOk_2 {o m a c d e f : Nat} {L : List Int32} (h1 : o ≤ 2) (h2 : m ≤ 1) (h3 : a ≤ 99999) (h4 : 1 ≤ c) (h5 : c ≤ 99999) (h6 : d ≤ 99999) (h7 : e ≤ 99999) (h8 : f ≤ 99999) (t : TL L) : sOk ((2, o, m), (a, c, d, e, f), L) := ⟨show 2 ≤ 8 by decide, fun z => absurd z (show ¬ (2 : Nat) = 0 by decide), fun z => absurd z (show ¬ (2 : Nat) = 1 by decide), fun _ => ⟨h1, h2, h3, h4, h5, h6, h7, h8⟩, fun z => absurd z (show ¬ 3 ≤ 2 by decide), t⟩
theorem sOk_3 {k a : Nat} {L : List Int32} (hk : 3 ≤ k) (h8 : k ≤ 8) (h1 : a ≤ 500) (t : TL L) : sOk ((k, 0, 0), (a, 0, 0, 0, 0), L) := ⟨h8, fun z => absurd z (show ¬ k = 0 by omega), fun z => absurd z (show ¬ k = 1 by omega), fun z => absurd z (show ¬ k = 2 by omega), fun _ => ⟨rfl, h1⟩, t⟩
theorem ruleV_3 {k a u : Nat} {L : List Int32} (hk : 3 ≤ k) : ruleV ((k, 0, 0), (a, 0, 0, 0, 0), L) u = [.int (ni k), .int 0, .int 0, .int 0, .int (ni a), .int 0, .int 0, .int 0, .int 0, .int 0, .ref u] := by
  show ([.int (ni k), .int (if k ≤ 2 then ni 0 else 0), .int (if k = 0 ∨ k = 2 then ni 0 else 0), .int (if k = 0 then ni a else 0), .int (if k = 0 then ni 0 else ni a), .int (if k = 1 then ni 0 else 0), .int (if k = 2 then ni 0 else 0), .int (if k = 2 then ni 0 else 0), .int (if k = 2 then ni 0 else 0), .int (if k = 2 then ni 0 else 0), .ref u] : List Value) = _
  rw [if_neg (show ¬ k ≤ 2 by omega), if_neg (show ¬ (k = 0 ∨ k = 2) by omega), if_neg (show ¬ k = 0 by omega), if_neg (show ¬ k = 0 by omega), if_neg (show ¬ k = 1 by omega), if_neg (show ¬ k = 2 by omega)]
/-- a rule that is read is one -/
theorem ruleS_ok (N9 : N ≤ 900) {σ : RSt} {s' : Nat} (e : (ruleS b N σ).2 = .inr s') : ∃ s k, σ = .inr s ∧ s < s' ∧ s < N ∧ s' ≤ N ∧ k ≤ 8 ∧ (ruleS b N σ).1.1 = ni k ∧ sOk (vK (ruleS b N σ).1.1 (ruleS b N σ).1.2.1 (ruleS b N σ).1.2.2) ∧ sT (vK (ruleS b N σ).1.1 (ruleS b N σ).1.2.1 (ruleS b N σ).1.2.2) = (ruleS b N σ).1.2.2 ∧ ∀ u, vV (ruleS b N σ).1.1 (ruleS b N σ).1.2.1 u = ruleV (vK (ruleS b N σ).1.1 (ruleS b N σ).1.2.1 (ruleS b N σ).1.2.2) u := by
  have e' : (tailS b N (bodyS b N (pkS b N (wds 2) σ).1 (pkS b N (wds 2) σ).2).2).2 = .inr s' := e
  obtain ⟨s2, e2, t1, t2, t3, t4⟩ := tail_inv e'
  have eL : (ruleS b N σ).1.2.2 = (tailS b N (bodyS b N (pkS b N (wds 2) σ).1 (pkS b N (wds 2) σ).2).2).1 := rfl
  have tl : (ruleS b N σ).1.2.2 = [] ∨ (ruleS b N σ).1.2.2.length ≤ 900 ∧ tDeep 0 (ruleS b N σ).1.2.2 = some 1 ∧ ∀ t, t ∈ (ruleS b N σ).1.2.2 → tOk t := by
    rw [eL]
    rcases t4 with z | ⟨z1, z2, z3⟩
    · exact Or.inl z
    · exact Or.inr ⟨by omega, z2, z3⟩
  -- the body
  have eK : (ruleS b N σ).1.1 = (pkS b N (wds 2) σ).1 := rfl
  have eV : (ruleS b N σ).1.2.1 = (bodyS b N (pkS b N (wds 2) σ).1 (pkS b N (wds 2) σ).2).1 := rfl
  generalize (ruleS b N σ).1.2.2 = L at tl ⊢
  rw [eK, eV]
  have tn : ∀ v : Nat, v ≤ 99999 → (ni v).toNatClampNeg = v := fun v hv => ni_tn (by omega)
  have fin : ∀ {σ1 : RSt} {s1 : Nat}, σ1 = .inr s1 → s1 < s2 → (pkS b N (wds 2) σ).2 = σ1 → ∃ s k, σ = .inr s ∧ s < s' ∧ s < N ∧ k ≤ 8 ∧ (pkS b N (wds 2) σ).1 = ni k := by
    intro σ1 s1 h1 h2 h3
    rw [h1] at h3
    obtain ⟨s, i, a1, a2, a3, a4, a5, -⟩ := pk_inv h3
    rw [w2_len] at a2
    exact ⟨s, i, a1, by omega, a5, by omega, a3⟩
  by_cases k0 : (pkS b N (wds 2) σ).1 = 0
  · unfold bodyS at e2 ⊢
    rw [if_pos k0] at e2 ⊢
    unfold alS_ at e2 ⊢
    dsimp only at e2 ⊢
    by_cases m3 : (pkS b N (wds 5) (pkS b N (wds 3) (pkS b N (wds 2) σ).2).2).1 = 3
    · rw [if_pos m3] at e2 ⊢
      obtain ⟨u1, v1, x1, y1, z1, r1, q1, -⟩ := nm_inv e2
      obtain ⟨u2, v2, x2, z2, r2, q2, -⟩ := pk_inv x1
      obtain ⟨u3, v3, x3, z3, r3, q3, -⟩ := pk_inv x2
      obtain ⟨s, k, a1, a2, a3, a4, a5⟩ := fin x3 (by omega) rfl
      rw [w5_len] at z2
      rw [w3_len] at z3
      dsimp only
      refine ⟨s, k, a1, by omega, a3, t3, a4, a5, ?_⟩
      have m3' : v2 = 3 := (ni_inj (by omega) (by omega)).mp (r2.symm.trans m3)
      rw [r1, r2, r3, k0]
      unfold vK
      rw [if_pos rfl]
      dsimp only
      rw [tn v1 (by omega), tn v2 (by omega), tn v3 (by omega)]
      refine ⟨sOk_0 (by omega) (by omega) (show (0 : Int32).toNatClampNeg ≤ 2 by decide) (by omega) tl, rfl, fun u => ?_⟩
      rfl
    · rw [if_neg m3] at e2 ⊢
      obtain ⟨u1, v1, x1, y1, z1, r1, q1, -⟩ := nm_inv e2
      obtain ⟨u4, v4, x4, y4, z4, r4, q4, -⟩ := nm_inv x1
      obtain ⟨u2, v2, x2, z2, r2, q2, -⟩ := pk_inv x4
      obtain ⟨u3, v3, x3, z3, r3, q3, -⟩ := pk_inv x2
      obtain ⟨s, k, a1, a2, a3, a4, a5⟩ := fin x3 (by omega) rfl
      rw [w5_len] at z2
      rw [w3_len] at z3
      dsimp only
      refine ⟨s, k, a1, by omega, a3, t3, a4, a5, ?_⟩
      rw [r1, r2, r3, r4, k0]
      unfold vK
      rw [if_pos rfl]
      dsimp only
      rw [tn v1 (by omega), tn v2 (by omega), tn v3 (by omega), tn v4 (by omega)]
      refine ⟨sOk_0 (by omega) (by omega) (by omega) (by omega) tl, rfl, fun u => ?_⟩
      rfl
  by_cases k1 : (pkS b N (wds 2) σ).1 = 1
  · unfold bodyS at e2 ⊢
    rw [if_neg k0, if_pos k1] at e2 ⊢
    unfold shS_ at e2 ⊢
    dsimp only at e2 ⊢
    obtain ⟨u1, v1, x1, y1, z1, r1, q1, -⟩ := nm_inv e2
    obtain ⟨u4, v4, x4, y4, z4, r4, q4, -⟩ := nm_inv x1
    obtain ⟨u3, v3, x3, z3, r3, q3, -⟩ := pk_inv x4
    obtain ⟨s, k, a1, a2, a3, a4, a5⟩ := fin x3 (by omega) rfl
    rw [w3_len] at z3
    refine ⟨s, k, a1, by omega, a3, t3, a4, a5, ?_⟩
    rw [r1, r3, r4, k1]
    unfold vK
    rw [if_neg (by decide), if_pos rfl]
    dsimp only
    rw [tn v1 (by omega), tn v3 (by omega), tn v4 (by omega)]
    refine ⟨sOk_1 (by omega) (by omega) (by omega) tl, rfl, fun u => ?_⟩
    rfl
  by_cases k2 : (pkS b N (wds 2) σ).1 = 2
  · unfold bodyS at e2 ⊢
    rw [if_neg k0, if_neg k1, if_pos k2] at e2 ⊢
    unfold tgS_ at e2 ⊢
    dsimp only at e2 ⊢
    obtain ⟨u1, v1, x1, y1, z1, r1, q1, -⟩ := nm_inv e2
    obtain ⟨u2, v2, x2, z2, r2, q2, -⟩ := pk_inv x1
    obtain ⟨u3, v3, x3, y3, z3, r3, q3, -⟩ := nm_inv x2
    obtain ⟨u4, v4, x4, z4, r4, q4, -⟩ := pk_inv x3
    obtain ⟨u5, v5, x5, y5, z5, r5, q5, -⟩ := nm_inv x4
    obtain ⟨u6, v6, x6, z6, r6, q6, -⟩ := pk_inv x5
    obtain ⟨u7, v7, x7, y7, z7, r7, q7, -⟩ := nm_inv x6
    obtain ⟨u8, v8, x8, z8, r8, q8, -⟩ := pk_inv x7
    obtain ⟨u9, v9, x9, y9, z9, r9, q9, -⟩ := nm_inv x8
    obtain ⟨ua, va, xa, za, ra, qa, -⟩ := pk_inv x9
    obtain ⟨ub, vb, xb, yb, zb, rb, qb, -⟩ := nm_inv xa
    obtain ⟨s, k, a1, a2, a3, a4, a5⟩ := fin xb (by omega) rfl
    rw [w6_len] at za
    refine ⟨s, k, a1, by omega, a3, t3, a4, a5, ?_⟩
    rw [r1, r3, r5, r7, r9, ra, rb, k2]
    unfold vK
    rw [if_neg (by decide), if_neg (by decide), if_pos rfl]
    dsimp only
    rw [tn v1 (by omega), tn v3 (by omega), tn v5 (by omega), tn v7 (by omega), tn v9 (by omega), tn va (by omega), tn vb (by omega)]
    refine ⟨sOk_2 (by omega) (by omega) (by omega) (by omega) (by omega) (by omega) (by omega) (by omega) tl, rfl, fun u => ?_⟩
    rfl
  have pl : ∀ lo hi : Nat, hi ≤ 500 → bodyS b N (pkS b N (wds 2) σ).1 (pkS b N (wds 2) σ).2 = plS_ b N lo hi (pkS b N (wds 2) σ).2 → ∃ s k, σ = .inr s ∧ s < s' ∧ s < N ∧ s' ≤ N ∧ k ≤ 8 ∧ (pkS b N (wds 2) σ).1 = ni k ∧ sOk (vK (pkS b N (wds 2) σ).1 (bodyS b N (pkS b N (wds 2) σ).1 (pkS b N (wds 2) σ).2).1 L) ∧ sT (vK (pkS b N (wds 2) σ).1 (bodyS b N (pkS b N (wds 2) σ).1 (pkS b N (wds 2) σ).2).1 L) = L ∧ ∀ u, vV (pkS b N (wds 2) σ).1 (bodyS b N (pkS b N (wds 2) σ).1 (pkS b N (wds 2) σ).2).1 u = ruleV (vK (pkS b N (wds 2) σ).1 (bodyS b N (pkS b N (wds 2) σ).1 (pkS b N (wds 2) σ).2).1 L) u := by
    intro lo hi hh eB
    rw [eB] at e2 ⊢
    unfold plS_ at e2 ⊢
    dsimp only at e2 ⊢
    obtain ⟨u1, v1, x1, y1, z1, r1, q1, -⟩ := nm_inv e2
    obtain ⟨s, k, a1, a2, a3, a4, a5⟩ := fin x1 (by omega) rfl
    have b0 : k ≠ 0 := fun z => k0 (by rw [a5, z]; rfl)
    have b1 : k ≠ 1 := fun z => k1 (by rw [a5, z]; rfl)
    have b2 : k ≠ 2 := fun z => k2 (by rw [a5, z]; rfl)
    refine ⟨s, k, a1, by omega, a3, t3, a4, a5, ?_⟩
    rw [r1]
    unfold vK
    rw [if_neg k0, if_neg k1, if_neg k2, a5]
    dsimp only
    rw [tn v1 (by omega), tn k (by omega)]
    have hk3 : 3 ≤ k := by omega
    refine ⟨sOk_3 hk3 a4 (by omega) tl, rfl, fun u => ?_⟩
    rw [ruleV_3 hk3]
    rfl
  by_cases k3 : (pkS b N (wds 2) σ).1 = 3
  · exact pl 0 500 (by omega) (by unfold bodyS; rw [if_neg k0, if_neg k1, if_neg k2, if_pos k3])
  by_cases k4 : (pkS b N (wds 2) σ).1 = 4
  · exact pl 50 150 (by omega) (by unfold bodyS; rw [if_neg k0, if_neg k1, if_neg k2, if_neg k3, if_pos k4])
  · exact pl 0 100 (by omega) (by unfold bodyS; rw [if_neg k0, if_neg k1, if_neg k2, if_neg k3, if_neg k4])
end RULES

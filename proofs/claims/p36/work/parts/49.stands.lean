/-! ===== both answer the same of a test ===== -/
section STANDS
variable {K n : Nat} {h : mm_H}
theorem z_standsLp (c : PS h) (hn : 159 ≤ n) {r u : Nat} {W : List Int32} (hu : 159 ≤ u ∧ u < n) (hc : lstC h u W) (hW : W.length ≤ 900) (ok : ∀ t, t ∈ W → tOk t) (cr : ckq h n r 5 = some ()) : ∀ (rest pre : List Int32) (k : Nat) (st : List Bool) (l : Int64), W = pre ++ rest → rest.length < k → tDeep st.length rest = some 1 → waitB l st → st.length ≤ 40 → ∃ l2 b, lp_X5_stands_25 K h n r (some 142) u (ni W.length) k l (ni pre.length) = some l2 ∧ waitB l2 [b] ∧ evP (jA h 142) st rest = [b] := by
  obtain ⟨f, e1, e2⟩ := hc
  intro rest
  induction rest with
  | nil =>
    intro pre k st l hL hk hd hw hl
    obtain ⟨k, rfl⟩ : ∃ z, k = z + 1 := ⟨k - 1, by omega⟩
    rw [List.append_nil] at hL
    have d : st.length = 1 := by
      unfold tDeep at hd
      exact Option.some.inj hd
    obtain ⟨b, rfl⟩ := List.length_eq_one_iff.mp d
    refine ⟨l, b, ?_, hw, rfl⟩
    unfold lp_X5_stands_25
    rw [if_pos (by rw [hL]; exact Int32.le_refl _)]
  | cons t rest ih =>
    intro pre k st l hL hk hd hw hl
    obtain ⟨k, rfl⟩ : ∃ z, k = z + 1 := ⟨k - 1, by omega⟩
    rw [List.length_cons] at hk
    have hlen : W.length = pre.length + (rest.length + 1) := by rw [hL, List.length_append, List.length_cons]
    have hget : W[pre.length]? = some t := by rw [hL, List.getElem?_append_right (Nat.le_refl _), Nat.sub_self]; rfl
    have hL2 : W = (pre ++ [t]) ++ rest := by rw [hL, List.append_assoc]; rfl
    have hpl : ni (pre.length + 1) = ni (pre ++ [t]).length := by rw [List.length_append]; rfl
    have rd : ldI h n u (ni pre.length) = some t := by
      rw [ldI_o hu.2 e1 (by omega) (by omega), e2 _ _ hget]
    have ht := ok t (List.mem_of_getElem? hget)
    unfold lp_X5_stands_25 evP
    unfold tDeep at hd
    rw [if_neg (fun q => by have := (ni_le (by omega) (by omega)).mp q; omega), rd]
    simp only [Option.bind_some, ni_1, hpl]
    by_cases t1 : t = -1
    · rw [if_pos t1] at hd ⊢
      rw [if_pos t1]
      cases st with
      | nil => rw [if_neg (by decide)] at hd; cases hd
      | cons a st =>
        rw [if_pos (by rw [List.length_cons]; omega)] at hd
        exact ih (pre ++ [t]) k _ _ hL2 (by omega) (by rw [List.length_cons] at hd ⊢; exact hd) (waitB_not hw) (by rw [List.length_cons] at hl ⊢; exact hl)
    rw [if_neg t1] at hd ⊢
    rw [if_neg t1]
    by_cases t2 : t = -2
    · rw [if_pos (Or.inl t2)] at hd
      rw [if_pos t2, if_pos t2]
      match st, hw, hl, hd with
      | [], _, _, hd => rw [if_neg (by decide)] at hd; cases hd
      | [b], _, _, hd => rw [if_neg (fun q => by have : (2 : Nat) ≤ 1 := q; omega)] at hd; cases hd
      | b :: a :: st, hw, hl, hd =>
        rw [List.length_cons, List.length_cons] at hl
        rw [if_pos (by rw [List.length_cons, List.length_cons]; omega), List.length_cons, List.length_cons, show st.length + 1 + 1 - 1 = st.length + 1 by omega] at hd
        exact ih (pre ++ [t]) k ((a && b) :: st) _ hL2 (by omega) (by rw [List.length_cons]; exact hd) (waitB_and (by omega) hw) (by rw [List.length_cons]; omega)
    rw [if_neg t2, if_neg t2]
    by_cases t3 : t = -3
    · rw [if_pos (Or.inr t3)] at hd
      rw [if_pos t3, if_pos t3]
      match st, hw, hl, hd with
      | [], _, _, hd => rw [if_neg (by decide)] at hd; cases hd
      | [b], _, _, hd => rw [if_neg (fun q => by have : (2 : Nat) ≤ 1 := q; omega)] at hd; cases hd
      | b :: a :: st, hw, hl, hd =>
        rw [List.length_cons, List.length_cons] at hl
        rw [if_pos (by rw [List.length_cons, List.length_cons]; omega), List.length_cons, List.length_cons, show st.length + 1 + 1 - 1 = st.length + 1 by omega] at hd
        exact ih (pre ++ [t]) k ((a || b) :: st) _ hL2 (by omega) (by rw [List.length_cons]; exact hd) (waitB_or (by omega) hw) (by rw [List.length_cons]; omega)
    rw [if_neg (fun q => q.elim t2 t3)] at hd
    rw [if_neg t3, if_neg t3]
    by_cases d40 : st.length < 40
    · rw [if_pos d40] at hd
      rcases ht with q | q | q | ⟨a, s, v, ha, hs, hv, q⟩
      · exact absurd q t1
      · exact absurd q t2
      · exact absurd q t3
      · rw [cr]
        have zc := z_compares (K := K) (r := r) c hn ha hs hv
        rw [← q] at zc
        simp only [Option.bind_some, zc]
        have nx := ih (pre ++ [t]) k (cmpV (jA h 142) t :: st) _ hL2 (by omega) (by rw [List.length_cons]; exact hd) (waitB_push hw (cmpV (jA h 142) t)) (by rw [List.length_cons]; omega)
        cases hb : cmpV (jA h 142) t with
        | true =>
          rw [hb] at nx
          rw [if_neg (by decide)]
          exact nx
        | false =>
          rw [hb] at nx
          rw [if_pos (by decide)]
          exact nx
    · rw [if_neg d40] at hd; cases hd
/-- whether a rule stands: the words that are asked lie in cell 142 -/
theorem z_stands (hK : 3000 ≤ K) (c : PS h) (hn : 159 ≤ n) (z2 : ∃ f, h 2 = .inl (.int, 0, .inl f)) {r : Nat} {s : Stm} (R : ruleC h n r s) (w : sOk s) : q_X5_stands K h n r (some 142) = some (if tstV (jA h 142) (sT s) = true then 0 else 1) := by
  have hz := rule_has (K := K) R z2 w
  obtain ⟨hr, hrn, u, e1, e2⟩ := R
  have cr : ckq h n r 5 = some () := ckq_o (by omega) e1
  unfold q_X5_stands
  simp only [cr, hz, Option.bind_some]
  by_cases h0 : sT s = []
  · rw [if_pos h0, if_pos rfl, h0]
    rfl
  · rw [if_neg h0, if_neg (by decide)]
    rcases e2 with ⟨t0, -⟩ | ⟨-, hu, hun, e3⟩
    · exact absurd t0 h0
    · obtain ⟨-, -, -, -, -, w5⟩ := w
      rcases w5 with q | ⟨w6, w7, w8⟩
      · exact absurd q h0
      · obtain ⟨l2, b, q1, q2, q3⟩ := z_standsLp (K := K) c hn ⟨hu, hun⟩ e3 w6 w8 cr (sT s) [] K [] 0 rfl (by omega) w7 waitB_nil (by decide)
        have q1' : lp_X5_stands_25 K h n r (some 142) u (ni (sT s).length) K 0 0 = some l2 := q1
        have le : lenA h n u 0 = some (ni (sT s).length) := by
          obtain ⟨f, e4, -⟩ := e3
          unfold lenA
          rw [if_pos ⟨by omega, hun⟩, e4]
          rfl
        rw [rdR_o (r := u) ⟨by omega, hrn⟩ e1 rfl]
        simp only [Option.bind_some, le, q1', lg_cmp_eq, waitB_top q2]
        have tv : tstV (jA h 142) (sT s) = b := by
          unfold tstV
          rw [q3]
          rfl
        rw [tv]
        cases b <;> rfl
/-! the model's walk -/
theorem evP_or (w : Nat → Int64) (a b : Bool) (st : List Bool) (L : List Int32) : evP w (b :: a :: st) ((-3) :: L) = evP w ((a || b) :: st) L := by
  rw [evP, if_neg (by decide), if_neg (by decide), if_pos rfl]
theorem evP_and (w : Nat → Int64) (a b : Bool) (st : List Bool) (L : List Int32) : evP w (b :: a :: st) ((-2) :: L) = evP w ((a && b) :: st) L := by
  rw [evP, if_neg (by decide), if_pos rfl]
theorem evP_not (w : Nat → Int64) (a : Bool) (st : List Bool) (L : List Int32) : evP w (a :: st) ((-1) :: L) = evP w ((!a) :: st) L := by
  rw [evP, if_pos rfl]
theorem joinR_len (op : Int32) : ∀ (l : List (Nat × List Int32)), l.length ≤ (joinR op (l.map Prod.snd)).length
  | [] => Nat.le_refl _
  | m :: l => by
    show (m :: l).length ≤ (m.2 ++ op :: joinR op (l.map Prod.snd)).length
    have := joinR_len op l
    rw [List.length_cons, List.length_append, List.length_cons]
    omega
theorem joinR_mem (op : Int32) : ∀ (l : List (Nat × List Int32)) (m : Nat × List Int32), m ∈ l → m.2.length ≤ (joinR op (l.map Prod.snd)).length
  | [], m, q => by cases q
  | x :: l, m, q => by
    show m.2.length ≤ (x.2 ++ op :: joinR op (l.map Prod.snd)).length
    rw [List.length_append, List.length_cons]
    rcases List.mem_cons.mp q with rfl | q
    · omega
    · have := joinR_mem op l m q
      omega
end STANDS

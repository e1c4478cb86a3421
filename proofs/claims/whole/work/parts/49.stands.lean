/-! ===== both answer the same of a test ===== -/
section STANDS
variable {K n : Nat} {h : mm_H}
theorem z_standsLp (c : PS h) (hn : 208 ≤ n) {r u : Nat} {W : List Int32} (hu : 208 ≤ u ∧ u < n) (hc : lstC h u W) (hW : W.length ≤ 900) (ok : ∀ t, t ∈ W → tOk t) (cr : ckq h n r 5 = some ()) : ∀ (rest pre : List Int32) (k : Nat) (st : List Bool) (l : Int64), W = pre ++ rest → rest.length < k → tDeep st.length rest = some 1 → waitB l st → st.length ≤ 40 → ∃ l2 b, lp_X5_stands_25 K h n r (some 142) u (ni W.length) k l (ni pre.length) = some l2 ∧ waitB l2 [b] ∧ evP (jA h 142) st rest = [b] := by
  obtain ⟨f, e1, e2⟩ := hc
  intro rest
  induction rest with
  | nil =>
    intro pre k st l hL hk hd hw hl
    obtain ⟨k, rfl⟩ : ∃ z, k = z + 1 := ⟨k - 1, by omega⟩
    rw [List.append_nil] at hL
    have d : st.length = 1 := by
      unfold tDeep at hd
      exact Option.some.inj hd
    obtain ⟨b, rfl⟩ := List.length_eq_one_iff.mp d
    refine ⟨l, b, ?_, hw, rfl⟩
    unfold lp_X5_stands_25
    rw [if_pos (by rw [hL]; exact Int32.le_refl _)]
  | cons t rest ih =>
    intro pre k st l hL hk hd hw hl
    obtain ⟨k, rfl⟩ : ∃ z, k = z + 1 := ⟨k - 1, by omega⟩
    rw [List.length_cons] at hk
    have hlen : W.length = pre.length + (rest.length + 1) := by rw [hL, List.length_append, List.length_cons]
    have hget : W[pre.length]? = some t := by rw [hL, List.getElem?_append_right (Nat.le_refl _), Nat.sub_self]; rfl
    have hL2 : W = (pre ++ [t]) ++ rest := by rw [hL, List.append_assoc]; rfl
    have hpl : ni (pre.length + 1) = ni (pre ++ [t]).length := by rw [List.length_append]; rfl
    have rd : ldI h n u (ni pre.length) = some t := by
      rw [ldI_o hu.2 e1 (by omega) (by omega), e2 _ _ hget]
    have ht := ok t (List.mem_of_getElem? hget)
    unfold lp_X5_stands_25 evP
    unfold tDeep at hd
    rw [if_neg (fun q => by have := (ni_le (by omega) (by omega)).mp q; omega), rd]
    simp only [Option.bind_some, ni_1, hpl]
    by_cases t1 : t = -1
    · rw [if_pos t1] at hd ⊢
      rw [if_pos t1]
      cases st with
      | nil => rw [if_neg (by decide)] at hd; cases hd
      | cons a st =>
        rw [if_pos (by rw [List.length_cons]; omega)] at hd
        exact ih (pre ++ [t]) k _ _ hL2 (by omega) (by rw [List.length_cons] at hd ⊢; exact hd) (waitB_not hw) (by rw [List.length_cons] at hl ⊢; exact hl)
    rw [if_neg t1] at hd ⊢
    rw [if_neg t1]
    by_cases t2 : t = -2
    · rw [if_pos (Or.inl t2)] at hd
      rw [if_pos t2, if_pos t2]
      match st, hw, hl, hd with
      | [], _, _, hd => rw [if_neg (by decide)] at hd; cases hd
      | [b], _, _, hd => rw [if_neg (fun q => by have : (2 : Nat) ≤ 1 := q; omega)] at hd; cases hd
      | b :: a :: st, hw, hl, hd =>
        rw [List.length_cons, List.length_cons] at hl
        rw [if_pos (by rw [List.length_cons, List.length_cons]; omega), List.length_cons, List.length_cons, show st.length + 1 + 1 - 1 = st.length + 1 by omega] at hd
        exact ih (pre ++ [t]) k ((a && b) :: st) _ hL2 (by omega) (by rw [List.length_cons]; exact hd) (waitB_and (by omega) hw) (by rw [List.length_cons]; omega)
    rw [if_neg t2, if_neg t2]
    by_cases t3 : t = -3
    · rw [if_pos (Or.inr t3)] at hd
      rw [if_pos t3, if_pos t3]
      match st, hw, hl, hd with
      | [], _, _, hd => rw [if_neg (by decide)] at hd; cases hd
      | [b], _, _, hd => rw [if_neg (fun q => by have : (2 : Nat) ≤ 1 := q; omega)] at hd; cases hd
      | b :: a :: st, hw, hl, hd =>
        rw [List.length_cons, List.length_cons] at hl
        rw [if_pos (by rw [List.length_cons, List.length_cons]; omega), List.length_cons, List.length_cons, show st.length + 1 + 1 - 1 = st.length + 1 by omega] at hd
        exact ih (pre ++ [t]) k ((a || b) :: st) _ hL2 (by omega) (by rw [List.length_cons]; exact hd) (waitB_or (by omega) hw) (by rw [List.length_cons]; omega)
    rw [if_neg (fun q => q.elim t2 t3)] at hd
    rw [if_neg t3, if_neg t3]
    by_cases d40 : st.length < 40
    · rw [if_pos d40] at hd
      rcases ht with q | q | q | ⟨a, s, v, ha, hs, hv, q⟩
      · exact absurd q t1
      · exact absurd q t2
      · exact absurd q t3
      · rw [cr]
        have zc := z_compares (K := K) (r := r) c hn ha hs hv
        rw [← q] at zc
        simp only [Option.bind_some, zc]
        have nx := ih (pre ++ [t]) k (cmpV (jA h 142) t :: st) _ hL2 (by omega) (by rw [List.length_cons]; exact hd) (waitB_push hw (cmpV (jA h 142) t)) (by rw [List.length_cons]; omega)
        cases hb : cmpV (jA h 142) t with
        | true =>
          rw [hb] at nx
          rw [if_neg (by decide)]
          exact nx
        | false =>
          rw [hb] at nx
          rw [if_pos (by decide)]
          exact nx
    · rw [if_neg d40] at hd; cases hd
/-- whether a rule stands: the words that are asked lie in cell 142 -/
theorem z_stands (hK : 3000 ≤ K) (c : PS h) (hn : 208 ≤ n) (z2 : ∃ f, h 2 = .inl (.int, 0, .inl f)) {r : Nat} {s : Stm} (R : ruleC h n r s) (w : sOk s) : q_X5_stands K h n r (some 142) = some (if tstV (jA h 142) (sT s) = true then 0 else 1) := by
  have hz := rule_has (K := K) R z2 w
  obtain ⟨hr, hrn, u, e1, e2⟩ := R
  have cr : ckq h n r 5 = some () := ckq_o (by omega) e1
  unfold q_X5_stands
  simp only [cr, hz, Option.bind_some]
  by_cases h0 : sT s = []
  · rw [if_pos h0, if_pos rfl, h0]
    rfl
  · rw [if_neg h0, if_neg (by decide)]
    rcases e2 with ⟨t0, -⟩ | ⟨-, hu, hun, e3⟩
    · exact absurd t0 h0
    · obtain ⟨-, -, -, -, -, w5⟩ := w
      rcases w5 with q | ⟨w6, w7, w8⟩
      · exact absurd q h0
      · obtain ⟨l2, b, q1, q2, q3⟩ := z_standsLp (K := K) c hn ⟨hu, hun⟩ e3 w6 w8 cr (sT s) [] K [] 0 rfl (by omega) w7 waitB_nil (by decide)
        have q1' : lp_X5_stands_25 K h n r (some 142) u (ni (sT s).length) K 0 0 = some l2 := q1
        have le : lenA h n u 0 = some (ni (sT s).length) := by
          obtain ⟨f, e4, -⟩ := e3
          unfold lenA
          rw [if_pos ⟨by omega, hun⟩, e4]
          rfl
        rw [rdR_o (r := u) ⟨by omega, hrn⟩ e1 rfl]
        simp only [Option.bind_some, le, q1', lg_cmp_eq, waitB_top q2]
        have tv : tstV (jA h 142) (sT s) = b := by
          unfold tstV
          rw [q3]
          rfl
        rw [tv]
        cases b <;> rfl
/-! the model's walk -/
def bvN (K n : Nat) (h : mm_H) (f : Nat) (m : Nat × List Int32) : Bool := decide (g_X11_holdsN K f h n 159 (ni m.1) = some 1)
def goodN (K n : Nat) (h : mm_H) (f : Nat) (m : Nat × List Int32) : Prop := m.1 < 91000 ∧ g_X11_holdsN K f h n 159 (ni m.1) = some (if bvN K n h f m = true then 1 else 0) ∧ ∀ st R, evP (jA h 203) st (m.2 ++ R) = evP (jA h 203) (bvN K n h f m :: st) R
theorem evP_or (w : Nat → Int64) (a b : Bool) (st : List Bool) (L : List Int32) : evP w (b :: a :: st) ((-3) :: L) = evP w ((a || b) :: st) L := by
  rw [evP, if_neg (by decide), if_neg (by decide), if_pos rfl]
theorem evP_and (w : Nat → Int64) (a b : Bool) (st : List Bool) (L : List Int32) : evP w (b :: a :: st) ((-2) :: L) = evP w ((a && b) :: st) L := by
  rw [evP, if_neg (by decide), if_pos rfl]
theorem evP_not (w : Nat → Int64) (a : Bool) (st : List Bool) (L : List Int32) : evP w (a :: st) ((-1) :: L) = evP w ((!a) :: st) L := by
  rw [evP, if_pos rfl]
theorem ev_any (f : Nat) : ∀ (l : List (Nat × List Int32)), (∀ m, m ∈ l → goodN K n h f m) → ∀ a st R, evP (jA h 203) (a :: st) (joinR (-3) (l.map Prod.snd) ++ R) = evP (jA h 203) ((a || l.any (bvN K n h f)) :: st) R
  | [], _, a, st, R => by
    show evP _ (a :: st) R = _
    rw [List.any_nil, Bool.or_false]
  | m :: l, H, a, st, R => by
    show evP _ (a :: st) ((m.2 ++ (-3) :: joinR (-3) (l.map Prod.snd)) ++ R) = _
    rw [List.append_assoc, (H m List.mem_cons_self).2.2, List.cons_append, evP_or, ev_any f l (fun x hx => H x (List.mem_cons_of_mem _ hx)), List.any_cons, Bool.or_assoc]
theorem ev_all (f : Nat) : ∀ (l : List (Nat × List Int32)), (∀ m, m ∈ l → goodN K n h f m) → ∀ a st R, evP (jA h 203) (a :: st) (joinR (-2) (l.map Prod.snd) ++ R) = evP (jA h 203) ((a && l.all (bvN K n h f)) :: st) R
  | [], _, a, st, R => by
    show evP _ (a :: st) R = _
    rw [List.all_nil, Bool.and_true]
  | m :: l, H, a, st, R => by
    show evP _ (a :: st) ((m.2 ++ (-2) :: joinR (-2) (l.map Prod.snd)) ++ R) = _
    rw [List.append_assoc, (H m List.mem_cons_self).2.2, List.cons_append, evP_and, ev_all f l (fun x hx => H x (List.mem_cons_of_mem _ hx)), List.all_cons, Bool.and_assoc]
theorem lp_any (c : PS h) (hn : 208 ≤ n) (f : Nat) : ∀ (l : List (Nat × List Int32)) (x : Int32) (k : Nat), (∀ m, m ∈ l → goodN K n h f m) → chainN h x (l.map Prod.fst) → l.length < k → lp_X11_holds_39 K (g_X11_holdsN K f) h n 159 k x = some (if l.any (bvN K n h f) = true then 0 else 1)
  | [], x, k, _, hc, hk => by
    obtain ⟨k, rfl⟩ : ∃ z, k = z + 1 := ⟨k - 1, by omega⟩
    have e : x = -1 := hc
    subst e
    rfl
  | m :: l, x, k, H, hc, hk => by
    obtain ⟨k, rfl⟩ : ∃ z, k = z + 1 := ⟨k - 1, by omega⟩
    rw [List.length_cons] at hk
    obtain ⟨e, hc⟩ : x = ni m.1 ∧ chainN h (iA h 193 m.1) (l.map Prod.fst) := hc
    obtain ⟨g1, g2, -⟩ := H m List.mem_cons_self
    have im : inb (ni m.1) 91000 = true := ni_inb (by omega) g1
    have tm : (ni m.1).toNatClampNeg = m.1 := ni_tn (by omega)
    subst e
    unfold lp_X11_holds_39
    rw [if_neg (ni_n1 (by omega)), gq_159 c hn]
    simp only [Option.bind_some, g2, g_159_47 c hn, ge_193 c hn, im, tm, if_true]
    by_cases hb : bvN K n h f m = true
    · have e1 : (if bvN K n h f m = true then (1 : Int32) else 0) = 1 := if_pos hb
      rw [if_neg (fun q => absurd (e1.symm.trans q) (by decide))]
      exact congrArg some (if_pos (by rw [List.any_cons, hb]; rfl)).symm
    · have e1 : (if bvN K n h f m = true then (1 : Int32) else 0) = 0 := if_neg hb
      rw [if_pos e1]
      have e2 : (m :: l).any (bvN K n h f) = l.any (bvN K n h f) := by rw [List.any_cons, Bool.eq_false_iff.mpr hb, Bool.false_or]
      exact (lp_any c hn f l _ k (fun x hx => H x (List.mem_cons_of_mem _ hx)) hc (by omega)).trans (by rw [e2])
theorem lp_all (c : PS h) (hn : 208 ≤ n) (f : Nat) : ∀ (l : List (Nat × List Int32)) (x : Int32) (k : Nat), (∀ m, m ∈ l → goodN K n h f m) → chainN h x (l.map Prod.fst) → l.length < k → lp_X11_holds_73 K (g_X11_holdsN K f) h n 159 k x = some (if l.all (bvN K n h f) = true then 1 else 0)
  | [], x, k, _, hc, hk => by
    obtain ⟨k, rfl⟩ : ∃ z, k = z + 1 := ⟨k - 1, by omega⟩
    have e : x = -1 := hc
    subst e
    rfl
  | m :: l, x, k, H, hc, hk => by
    obtain ⟨k, rfl⟩ : ∃ z, k = z + 1 := ⟨k - 1, by omega⟩
    rw [List.length_cons] at hk
    obtain ⟨e, hc⟩ : x = ni m.1 ∧ chainN h (iA h 193 m.1) (l.map Prod.fst) := hc
    obtain ⟨g1, g2, -⟩ := H m List.mem_cons_self
    have im : inb (ni m.1) 91000 = true := ni_inb (by omega) g1
    have tm : (ni m.1).toNatClampNeg = m.1 := ni_tn (by omega)
    subst e
    unfold lp_X11_holds_73
    rw [if_neg (ni_n1 (by omega)), gq_159 c hn]
    simp only [Option.bind_some, g2, g_159_47 c hn, ge_193 c hn, im, tm, if_true]
    by_cases hb : bvN K n h f m = true
    · have e1 : (if bvN K n h f m = true then (1 : Int32) else 0) = 1 := if_pos hb
      rw [if_neg (fun q => absurd (e1.symm.trans q) (by decide))]
      have e2 : (m :: l).all (bvN K n h f) = l.all (bvN K n h f) := by rw [List.all_cons, hb, Bool.true_and]
      exact (lp_all c hn f l _ k (fun x hx => H x (List.mem_cons_of_mem _ hx)) hc (by omega)).trans (by rw [e2])
    · have e1 : (if bvN K n h f m = true then (1 : Int32) else 0) = 0 := if_neg hb
      rw [if_pos e1]
      exact congrArg some (if_neg (by rw [List.all_cons, Bool.eq_false_iff.mpr hb, Bool.false_and]; exact Bool.false_ne_true)).symm
theorem joinR_len (op : Int32) : ∀ (l : List (Nat × List Int32)), l.length ≤ (joinR op (l.map Prod.snd)).length
  | [] => Nat.le_refl _
  | m :: l => by
    show (m :: l).length ≤ (m.2 ++ op :: joinR op (l.map Prod.snd)).length
    have := joinR_len op l
    rw [List.length_cons, List.length_append, List.length_cons]
    omega
theorem joinR_mem (op : Int32) : ∀ (l : List (Nat × List Int32)) (m : Nat × List Int32), m ∈ l → m.2.length ≤ (joinR op (l.map Prod.snd)).length
  | [], m, q => by cases q
  | x :: l, m, q => by
    show m.2.length ≤ (x.2 ++ op :: joinR op (l.map Prod.snd)).length
    rw [List.length_append, List.length_cons]
    rcases List.mem_cons.mp q with rfl | q
    · omega
    · have := joinR_mem op l m q
      omega
/-- a node's answer is that of what it says -/
theorem z_node (hK : 3000 ≤ K) (c : PS h) (hn : 208 ≤ n) {lo hi : Nat} (hhi : hi ≤ 91000) : ∀ (k q : Nat) (L : List Int32), nodeR h lo hi k q L → L.length ≤ 900 → ∀ f, k ≤ f → goodN K n h f (q, L) := by
  intro k
  induction k with
  | zero => intro q L e; cases e
  | succ k ih =>
    intro q L e hL f hf
    obtain ⟨f, rfl⟩ : ∃ z, f = z + 1 := ⟨f - 1, by omega⟩
    obtain ⟨q1, q2, e⟩ := e
    have iq : inb (ni q) 91000 = true := ni_inb (by omega) (by omega)
    have tq : (ni q).toNatClampNeg = q := ni_tn (by omega)
    have fin : ∀ b : Bool, g_X11_holdsN K (f + 1) h n 159 (ni q) = some (if b = true then 1 else 0) → (∀ st R, evP (jA h 203) st (L ++ R) = evP (jA h 203) (b :: st) R) → goodN K n h (f + 1) (q, L) := by
      intro b v1 v2
      have eb : bvN K n h (f + 1) (q, L) = b := by
        unfold bvN
        show decide (g_X11_holdsN K (f + 1) h n 159 (ni q) = some 1) = b
        rw [v1]
        cases b <;> rfl
      refine ⟨by show q < 91000; omega, ?_, ?_⟩
      · rw [eb]; exact v1
      · rw [eb]; exact v2
    rcases e with ⟨k3, a, s, v, ha, hs, hv, e1, e2, e3, rfl⟩ | ⟨k2, x, M, e1, e2, rfl⟩ | ⟨e, he, ke, l, l0, lc, lm, eL⟩
    · refine fin (cmpV (jA h 203) (cmpI a s v)) ?_ (fun st R => ?_)
      · show b_X11_holds K (g_X11_holdsN K f) h n 159 (ni q) = _
        have ia : inb (ni a) 5 = true := ni_inb (by omega) ha
        have ta : (ni a).toNatClampNeg = a := ni_tn (by omega)
        have n0 : ¬ (3 : Int32) = 0 := by decide
        have n1 : ¬ (3 : Int32) = 1 := by decide
        have n2 : ¬ (3 : Int32) = 2 := by decide
        unfold b_X11_holds
        simp only [g_159_45 c hn, ge_191 c hn, iq, tq, if_true, k3, Option.bind_some, n0, n1, n2, if_false, g_159_61 c hn, g_159_48 c hn, ge_194 c hn, e1, ge_203 c hn, ia, ta, g_159_49 c hn, ge_195 c hn, e2, g_159_50 c hn, ge_196 c hn, e3, lg_cmp_ge, lg_cmp_le, lg_cmp_eq]
        rw [cmp_v ha hs hv]
        by_cases h0 : s = 0
        · rw [if_pos h0, if_pos h0, if_pos rfl]
          by_cases z : jA h 203 a < (ni v).toInt64
          · rw [if_neg (fun y => absurd z (Int64.not_lt.mpr y)), if_pos (decide_eq_true z)]
          · rw [if_pos (Int64.not_lt.mp z), if_neg (by rw [decide_eq_false z]; decide)]
        rw [if_neg h0, if_neg h0]
        by_cases h1 : s = 1
        · rw [if_pos h1, if_pos h1, if_neg (by decide), if_pos rfl]
          by_cases z : (ni v).toInt64 < jA h 203 a
          · rw [if_neg (fun y => absurd z (Int64.not_lt.mpr y)), if_pos (decide_eq_true z)]
          · rw [if_pos (Int64.not_lt.mp z), if_neg (by rw [decide_eq_false z]; decide)]
        rw [if_neg h1, if_neg h1, if_neg (by decide), if_neg (by decide)]
        by_cases z : jA h 203 a = (ni v).toInt64
        · rw [if_pos z, if_pos (decide_eq_true z)]
        · rw [if_neg z, if_neg (by rw [decide_eq_false z]; decide)]
      · obtain ⟨n1, n2, n3⟩ := cmp_ne hv ha hs
        show evP (jA h 203) st (cmpI a s v :: R) = _
        conv => lhs; unfold evP
        rw [if_neg n1, if_neg n2, if_neg n3]
    · rw [List.length_append] at hL
      have g := ih x M e2 (by omega) f (by omega)
      obtain ⟨g1, g2, g3⟩ := g
      refine fin (!(bvN K n h f (x, M))) ?_ (fun st R => ?_)
      · show b_X11_holds K (g_X11_holdsN K f) h n 159 (ni q) = _
        have n0 : ¬ (2 : Int32) = 0 := by decide
        have n1 : ¬ (2 : Int32) = 1 := by decide
        have g2' : g_X11_holdsN K f h n 159 (ni x) = some (if bvN K n h f (x, M) = true then 1 else 0) := g2
        unfold b_X11_holds
        simp only [g_159_45 c hn, ge_191 c hn, iq, tq, if_true, k2, Option.bind_some, n0, n1, if_false, g_159_46 c hn, ge_192 c hn, e1, gq_159 c hn, g2']
        cases bvN K n h f (x, M) <;> rfl
      · have g3' : ∀ st R, evP (jA h 203) st (M ++ R) = evP (jA h 203) (bvN K n h f (x, M) :: st) R := g3
        rw [List.append_assoc, g3']
        show evP _ _ ((-1) :: R) = _
        rw [evP_not]
    · obtain ⟨m0, l, rfl⟩ : ∃ m l', l = m :: l' := by
        cases l with
        | nil => exact absurd rfl l0
        | cons m l' => exact ⟨m, l', rfl⟩
      have eL' : L = m0.2 ++ joinR (if e = 0 then -3 else -2) (l.map Prod.snd) := eL
      have hl := joinR_len (if e = 0 then -3 else -2) l
      have hLl : L.length = m0.2.length + (joinR (if e = 0 then -3 else -2) (l.map Prod.snd)).length := by rw [eL', List.length_append]
      have G : ∀ m, m ∈ m0 :: l → goodN K n h f m := by
        intro m hm
        have hlen : m.2.length ≤ 900 := by
          rcases List.mem_cons.mp hm with rfl | hm'
          · omega
          · have := joinR_mem (if e = 0 then -3 else -2) l m hm'
            omega
        exact ih m.1 m.2 (lm m hm) hlen f (by omega)
      have G' : ∀ m, m ∈ l → goodN K n h f m := fun m hm => G m (List.mem_cons_of_mem _ hm)
      have hlk : (m0 :: l).length < K := by rw [List.length_cons]; omega
      obtain ⟨-, -, g3⟩ := G m0 List.mem_cons_self
      by_cases e0 : e = 0
      · subst e0
        rw [if_pos rfl] at eL'
        refine fin ((m0 :: l).any (bvN K n h f)) ?_ (fun st R => ?_)
        · show b_X11_holds K (g_X11_holdsN K f) h n 159 (ni q) = _
          have ke' : iA h 191 q = 0 := ke
          have lp := lp_any (K := K) c hn f (m0 :: l) _ K G lc hlk
          unfold b_X11_holds
          simp only [g_159_45 c hn, ge_191 c hn, iq, tq, if_true, ke', Option.bind_some, g_159_46 c hn, ge_192 c hn, lp]
          cases (m0 :: l).any (bvN K n h f) <;> rfl
        · rw [eL', List.append_assoc, g3, ev_any f l G', List.any_cons]
      · have e1 : e = 1 := by omega
        subst e1
        rw [if_neg (by decide)] at eL'
        refine fin ((m0 :: l).all (bvN K n h f)) ?_ (fun st R => ?_)
        · show b_X11_holds K (g_X11_holdsN K f) h n 159 (ni q) = _
          have ke' : iA h 191 q = 1 := ke
          have n0 : ¬ (1 : Int32) = 0 := by decide
          have lp := lp_all (K := K) c hn f (m0 :: l) _ K G lc hlk
          unfold b_X11_holds
          simp only [g_159_45 c hn, ge_191 c hn, iq, tq, if_true, ke', Option.bind_some, n0, if_false, g_159_46 c hn, ge_192 c hn, lp]
          cases (m0 :: l).all (bvN K n h f) <;> rfl
        · rw [eL', List.append_assoc, g3, ev_all f l G', List.all_cons]
/-- whether a row's test holds: the words that are asked lie in cell 203 -/
theorem z_holds (hK : 3000 ≤ K) (c : PS h) (hn : 208 ≤ n) {lo hi q : Nat} {L : List Int32} (hhi : hi ≤ 91000) (e : nodeR h lo hi 40 q L) (hL : L.length ≤ 900) : q_X11_holds K h n 159 (ni q) = some (if tstV (jA h 203) L = true then 1 else 0) := by
  obtain ⟨-, g2, g3⟩ := z_node hK c hn hhi 40 q L e hL 48 (by omega)
  have g := g3 [] []
  rw [List.append_nil] at g
  have tv : tstV (jA h 203) L = bvN K n h 48 (q, L) := by
    unfold tstV
    have g' : evP (jA h 203) [] L = evP (jA h 203) [bvN K n h 48 (q, L)] [] := g
    rw [g']
    rfl
  rw [tv]
  exact g2
end STANDS

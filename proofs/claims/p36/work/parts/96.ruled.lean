/-! ===== the class reads a rule: its end ===== -/
section RULED
variable {K n : Nat} {h : mm_H} {b : Nat → Nat} {N : Nat}
def qT (K : Nat) (g : mm_H) (n : Nat) : Option (mm_H × Nat) :=
    (ckq g (n + 1) 151 3).bind fun u18 =>
    (q_X3_isWord K g (n + 1) 151 (some 7)).bind fun v20 =>
    if v20 = 0 then
      (ckq g (n + 1) 151 3).bind fun u22 =>
      (q_X3_sign K g (n + 1) 151 59).bind fun v24 =>
      (rdI v24 (n + 1) 151 3 5).bind fun v26 =>
      if v26 = (-1) then
        (rdI v24 (n + 1) 151 3 9).bind fun v28 =>
        (rdR v24 (n + 1) 151 3 8).bind fun v30 =>
        v30.bind fun a32 =>
        (lenA v24 (n + 1) a32 4).bind fun v34 =>
        if v34 ≤ v28 then
          some (v24, n + 1)
        else
        (rdR v24 (n + 1) 151 3 8).bind fun v36 =>
        (rdI v24 (n + 1) 151 3 9).bind fun v38 =>
        v36.bind fun a40 =>
        (stR v24 (n + 1) a40 4 5 v38 n).bind fun h42 =>
        (rdI h42 (n + 1) 151 3 9).bind fun v44 =>
        (wrF h42 (n + 1) 151 3 9 (.int (v44 + 1))).bind fun h46 =>
        some (h46, n + 1)
      else
      some (v24, n + 1)
    else
    (ckq g (n + 1) 151 3).bind fun u48 =>
    (q_X3_step K g (n + 1) 151).bind fun v50 =>
    (ckq v50 (n + 1) 151 3).bind fun u52 =>
    (q_X3_any K v50 (n + 1) 151 0).bind fun v54 =>
    (rdR v54 (n + 1) 151 3 10).bind fun v56 =>
    (rdI v54 (n + 1) 151 3 11).bind fun v58 =>
    (rdR v54 (n + 1) 151 3 10).bind fun v60 =>
    v60.bind fun a62 =>
    (lenA v54 (n + 1) a62 0).bind fun v64 =>
    (q_J7_copyOf_59c91 K v54 (n + 1) v56 (i_min v58 v64)).bind fun (v68, h66, n67) =>
    (wrF h66 n67 n 5 10 (va_rf v68)).bind fun h71 =>
    (ckq h71 n67 151 3).bind fun u73 =>
    (q_X3_sign K h71 n67 151 59).bind fun v75 =>
    (rdI v75 n67 151 3 5).bind fun v77 =>
    if v77 = (-1) then
      (rdI v75 n67 151 3 9).bind fun v79 =>
      (rdR v75 n67 151 3 8).bind fun v81 =>
      v81.bind fun a83 =>
      (lenA v75 n67 a83 4).bind fun v85 =>
      if v85 ≤ v79 then
        some (v75, n67)
      else
      (rdR v75 n67 151 3 8).bind fun v87 =>
      (rdI v75 n67 151 3 9).bind fun v89 =>
      v87.bind fun a91 =>
      (stR v75 n67 a91 4 5 v89 n).bind fun h93 =>
      (rdI h93 n67 151 3 9).bind fun v95 =>
      (wrF h93 n67 151 3 9 (.int (v95 + 1))).bind fun h97 =>
      some (h97, n67)
    else
    some (v75, n67)

theorem z_copyOf {g : mm_H} {m z : Nat} (c : PS g) (hm : 159 ≤ m) (hm9 : m < 1000000) (hz : z ≤ 900) : ∃ f : Nat → Int32, q_J7_copyOf_59c91 K g m (some 154) (ni z) = some (some m, mm_up g m (.inl (.int, z, .inl f)), m + 1) ∧ ∀ i, i < z → f i = iA g 154 i := by
  have ck : ∀ f : Nat → Int32, ∀ y : Nat, ckA (mm_up g m (.inl (.int, y, .inl f))) (m + 1) m = some () := fun f y => by
    unfold ckA
    rw [mm_up_s]
    simp
    omega
  unfold q_J7_copyOf_59c91
  rw [Option.bind_some, gl_154 c hm, Option.bind_some]
  by_cases q : z = 900
  · subst q
    refine ⟨iA g 154, ?_, fun _ _ => rfl⟩
    have e : clA g m 154 900 = some (mm_up g m (.inl (.int, 900, .inl (iA g 154)))) := by
      unfold clA
      rw [cs_154 c]
      exact if_pos ⟨⟨by omega, by omega⟩, Nat.le_refl _, hm9⟩
    rw [if_pos (show ni 900 = 900 from rfl), e, Option.bind_some, ck, Option.bind_some]
  · have e0 : mm_up g m (.inl (.int, z, .inl (fun _ => (0 : Int32)))) 154 = g 154 := mm_up_n (by omega)
    refine ⟨va_cpy (iA g 154) (fun _ => 0) 0 0 z, ?_, fun i hi => ?_⟩
    · have e1 : newI g m .int 900 (ni z) = some (mm_up g m (.inl (.int, z, .inl (fun _ => 0)))) := by
        unfold newI
        rw [ni_tn (by omega), if_pos ⟨ni_pos (by omega), hz, hm9⟩]
      have e2 : lenA (mm_up g m (.inl (.int, z, .inl (fun _ => (0 : Int32))))) (m + 1) 154 0 = some 900 := by
        unfold lenA
        rw [if_pos ⟨by decide, by omega⟩, e0, cs_154 c]
        rfl
      have e3 : i_min 900 (ni z) = ni z := if_pos (show ni z < 900 from (ni_lt (b := 900) (by omega) (by omega)).mpr (by omega))
      have e4 : cpA (mm_up g m (.inl (.int, z, .inl (fun _ => (0 : Int32))))) (m + 1) 154 m (ni z) = some (mm_up g m (.inl (.int, z, .inl (va_cpy (iA g 154) (fun _ => 0) 0 0 z)))) := by
        unfold cpA
        rw [e0, cs_154 c, mm_up_s]
        show (if (48 ≤ 154 ∧ 154 < m + 1) ∧ (48 ≤ m ∧ m < m + 1) ∧ ¬ ni z < 0 ∧ (ni z).toNatClampNeg ≤ 900 ∧ (ni z).toNatClampNeg ≤ z then some (mm_up _ m (.inl (.int, z, .inl (va_cpy (iA g 154) (fun _ => 0) 0 0 (ni z).toNatClampNeg)))) else none) = _
        rw [ni_tn (by omega), if_pos ⟨⟨by decide, by omega⟩, ⟨by omega, by omega⟩, ni_pos (by omega), hz, Nat.le_refl _⟩]
        congr 1
        funext x
        unfold mm_up
        split <;> rfl
      rw [if_neg (show ¬ ni z = 900 from fun y => q ((ni_inj (b := 900) (by omega) (by omega)).mp y)), e1, Option.bind_some, e2, Option.bind_some, e3, e4, Option.bind_some]
    · unfold va_cpy
      rw [if_pos ⟨Nat.zero_le i, by omega⟩]
      congr 1
      omega
def RE (b : Nat → Nat) (N n : Nat) (h g : mm_H) (n' m : Nat) (σ : RSt) (k : Int32) (v : V9) (L : List Int32) : Prop := RF n h g ∧ Tk b N g σ ∧ (∀ s, σ = .inr s → (∃ u, g n = .inr (5, vV k v u) ∧ testC g n' u L) ∧ fI g 151 9 = ni (m + 1) ∧ rA g 153 = va_up (rA h 153) m (some n)) ∧ (∀ p, σ = .inl p → fI g 151 9 = ni m ∧ rA g 153 = rA h 153) ∧ n < n' ∧ n' ≤ n + 2
theorem exS_ne {s s' : Nat} (hs : s ≤ N) (e : ((exS b N 48).1 0 (.inr s)).2 = .inr s') : ((exS b N 48).1 0 (.inr s)).1 ≠ [] := fun z => by
  obtain ⟨a1, a2, a3, a4, a5⟩ := (exS_gd (b := b) (N := N) 48).1 0 s hs s' e
  have a5' := a5 0 [] (by omega)
  rw [z] at a5'
  cases a5'
theorem z_qT (hK : 3000 ≤ K) (hn : 159 ≤ n) (hn9 : n + 5 < 1000000) (T : TXT h) (t : TX b N h) {g : mm_H} {σ : RSt} {k : Int32} {v : V9} (r : RB b N n h g σ (vV k v 2)) {m : Nat} (em : fI h 151 9 = ni m) (hm : m < 30) : ∃ g' n', qT K g n = some (g', n') ∧ RE b N n h g' n' m (tailS b N σ).2 k v (tailS b N σ).1 := by
  have hn1 : 159 ≤ n + 1 := by omega
  have hn2 : 159 ≤ n + 1 + 1 := by omega
  have n10 : ¬ (1 : Int32) = 0 := by decide
  have Tg := T.rb hn r
  have tg := t.rb hn r
  obtain ⟨r1, r2, r3, r4, r5, r6⟩ := id r
  have iw : q_X3_isWord K g (n + 1) 151 (some 7) = some (if isWS b N wUnl σ = true then 1 else 0) := z_isWord hK r1 hn1 Tg tg (i := 4) (by omega) wds_unl r6
  unfold qT tailS
  rw [gq_151 r1 hn1, Option.bind_some, iw, Option.bind_some]
  by_cases q : isWS b N wUnl σ = true
  · have v1 : (if isWS b N wUnl σ = true then (1 : Int32) else 0) = 1 := if_pos q
    rw [v1, if_neg n10, if_pos q]
    obtain ⟨g1, f1, l1, k1⟩ := z_step hK r1 hn1 tg r6
    have s1 := r.lf hn l1 k1
    obtain ⟨g2, f2, l2, k2, ts⟩ := (z_expr (K := K) (n := n + 1) (b := b) (N := N) hK hn1 48).1 0 (by omega) (by omega) g1 (stpS b N σ) [] l1.1 (T.rb hn s1) (t.rb hn s1) k1 ⟨⟨0, by omega, s1.2.2.2.1⟩, fun s _ => ⟨s1.2.2.2.1, Nat.zero_le s, fun i t e => by cases e⟩⟩
    have f2' : q_X3_any K g1 (n + 1) 151 0 = some g2 := f2
    obtain ⟨⟨z, hz, ez⟩, ts2⟩ := ts
    have c2 := l2.1
    obtain ⟨f, ef, cp⟩ := z_copyOf (K := K) (m := n + 1) c2 hn1 (by omega) hz
    have e2 : g2 n = .inr (5, vV k v 2) := (l2.2.1 n (by omega) (by omega)).trans s1.2.2.2.2.1
    have i1 : i_min (ni z) 900 = ni z := if_neg (fun y => by have := (ni_lt (a := 900) (by omega) (by omega)).mp y; omega)
    have c3 : PS (mm_up g2 (n + 1) (.inl (.int, z, .inl f))) := c2.top hn1 _
    have e3 : mm_up g2 (n + 1) (.inl (.int, z, .inl f)) n = .inr (5, vV k v 2) := (mm_up_n (by omega)).trans e2
    have w4 : wrF (mm_up g2 (n + 1) (.inl (.int, z, .inl f))) (n + 1 + 1) n 5 10 (.ref (n + 1)) = some (mm_up (mm_up g2 (n + 1) (.inl (.int, z, .inl f))) n (.inr (5, vV k v (n + 1)))) := wrF_o _ ⟨by omega, by omega⟩ e3 (by decide : 10 < 11)
    have c4 : PS (mm_up (mm_up g2 (n + 1) (.inl (.int, z, .inl f))) n (.inr (5, vV k v (n + 1)))) := c3.top hn _
    generalize hg4 : mm_up (mm_up g2 (n + 1) (.inl (.int, z, .inl f))) n (.inr (5, vV k v (n + 1))) = g4 at w4 c4
    have o4 : ∀ a, a < n → g4 a = g2 a := fun a ha => by
      rw [← hg4, mm_up_n (by omega), mm_up_n (by omega)]
    have n4 : g4 n = .inr (5, vV k v (n + 1)) := by
      rw [← hg4, mm_up_s]
    have u4 : g4 (n + 1) = .inl (.int, z, .inl f) := by
      rw [← hg4, mm_up_n (by omega), mm_up_s]
    have t2 : TX b N g2 := (t.rb hn s1).xf l2
    have t4 : TX b N g4 := by
      obtain ⟨x1, x2, x3, x4⟩ := t2
      exact ⟨(fR_c (o4 151 (by omega)) 0).trans x1, (fI_c (o4 151 (by omega)) 1).trans x2, x3, fun j hj => by rw [iA_c (o4 155 (by omega))]; exact x4 j hj⟩
    obtain ⟨g5, f5, l5, k5⟩ := z_sign hK c4 hn2 t4 (v := 59) (by omega) (k2.same (o4 151 (by omega)))
    have f5' : q_X3_sign K g4 (n + 1 + 1) 151 59 = some g5 := f5
    have n5 : g5 n = .inr (5, vV k v (n + 1)) := (l5.2.1 n (by omega)).trans n4
    have a5 : ∀ a, a < n → a ≠ 151 → a ≠ 154 → g5 a = h a := fun a h1 h2 h3 => (l5.2.1 a h2).trans ((o4 a h1).trans ((l2.2.1 a h2 h3).trans (s1.2.1 a h1 h2 h3)))
    have b5 : ∀ j, j < 2 ∨ (5 < j ∧ j ≠ 11) → fI g5 151 j = fI h 151 j ∧ fR g5 151 j = fR h 151 j := fun j hj => ⟨(l5.2.2 j (by omega)).1.trans ((fI_c (o4 151 (by omega)) j).trans ((l2.2.2 j hj).1.trans (s1.2.2.1 j hj).1)), (l5.2.2 j (by omega)).2.trans ((fR_c (o4 151 (by omega)) j).trans ((l2.2.2 j hj).2.trans (s1.2.2.1 j hj).2))⟩
    have r5' : rA g5 153 = rA h 153 := rA_c (a5 153 (by omega) (by decide) (by decide))
    obtain ⟨g6, f6, c6, a6, b6, k6, x6, y6⟩ := z_made l5.1 hn (show n < n + 1 + 1 by omega) k5 t.2.2.1 n5 ((b5 9 (by omega)).1.trans em) hm
    refine ⟨g6, n + 1 + 1, ?_, ⟨c6, fun a h1 h2 h3 h4 => (a6 a h2 h3).trans (a5 a h1 h2 h4), fun j hj => ⟨(b6 j (by omega)).1.trans (b5 j (by omega)).1, (b6 j (by omega)).2.trans (b5 j (by omega)).2⟩⟩, k6, fun s es => ?_, fun p ep => ?_, by omega, by omega⟩
    · simp only [gq_151 r1 hn1, Option.bind_some, f1, gq_151 l1.1 hn1, f2', g_151_10 c2 hn1, g_151_11 c2 hn1, ez, gl_154 c2 hn1, i1, ef]
      have w4' : wrF (mm_up g2 (n + 1) (.inl (.int, z, .inl f))) (n + 1 + 1) n 5 10 (va_rf (some (n + 1))) = some g4 := w4
      simp only [w4', Option.bind_some, gq_151 c4 hn2, f5']
      exact f6
    · obtain ⟨x1, x2⟩ := x6 s es
      obtain ⟨s2, es2, -⟩ := sg_inv es
      obtain ⟨ts3, ts4, ts5⟩ := ts2 s2 es2
      rw [List.nil_append] at ts3 ts4 ts5
      have hz2 : z = ((exS b N 48).1 0 (stpS b N σ)).1.length := by
        have h1 := k2
        rw [es2] at h1
        have h2 := h1.1
        have h3 := t.2.2.1
        exact (ni_inj (by omega) (by omega)).mp (ez.symm.trans ts3)
      have hne : ((exS b N 48).1 0 (stpS b N σ)).1 ≠ [] := by
        cases σ with
        | inl p => cases q
        | inr s => exact exS_ne (nx_le (Nat.le_of_lt (isW_lt (b := b) q))) es2
      refine ⟨⟨n + 1, (a6 n (by omega) (by omega)).trans n5, Or.inr ⟨hne, by omega, by omega, f, ?_, fun i t ht => ?_⟩⟩, x1, by rw [x2, r5']⟩
      · rw [a6 (n + 1) (by omega) (by omega), l5.2.1 (n + 1) (by omega), u4, ← hz2]
      · have hi : i < ((exS b N 48).1 0 (stpS b N σ)).1.length := (List.getElem?_eq_some_iff.mp ht).1
        rw [cp i (by omega)]
        exact ts5 i t ht
    · have := y6 p ep
      subst this
      exact ⟨(b5 9 (by omega)).1.trans em, r5'⟩
  · have v0 : (if isWS b N wUnl σ = true then (1 : Int32) else 0) = 0 := if_neg q
    rw [v0, if_pos rfl, if_neg q]
    obtain ⟨g5, f5, l5, k5⟩ := z_sign hK r1 hn1 tg (v := 59) (by omega) r6
    have f5' : q_X3_sign K g (n + 1) 151 59 = some g5 := f5
    have s5 := r.lf hn l5 k5
    obtain ⟨g6, f6, c6, a6, b6, k6, x6, y6⟩ := z_made l5.1 hn (show n < n + 1 by omega) k5 t.2.2.1 s5.2.2.2.2.1 ((s5.2.2.1 9 (by omega)).1.trans em) hm
    have r5' : rA g5 153 = rA h 153 := rA_c (s5.2.1 153 (by omega) (by decide) (by decide))
    refine ⟨g6, n + 1, ?_, ⟨c6, fun a h1 h2 h3 h4 => (a6 a h2 h3).trans (s5.2.1 a h1 h2 h4), fun j hj => ⟨(b6 j (by omega)).1.trans (s5.2.2.1 j (by omega)).1, (b6 j (by omega)).2.trans (s5.2.2.1 j (by omega)).2⟩⟩, k6, fun s es => ?_, fun p ep => ?_, by omega, by omega⟩
    · simp only [gq_151 r1 hn1, Option.bind_some, f5']
      exact f6
    · obtain ⟨x1, x2⟩ := x6 s es
      exact ⟨⟨2, (a6 n (by omega) (by omega)).trans s5.2.2.2.2.1, Or.inl ⟨rfl, rfl⟩⟩, x1, by rw [x2, r5']⟩
    · have := y6 p ep
      subst this
      exact ⟨(s5.2.2.1 9 (by omega)).1.trans em, r5'⟩
def plC (K : Nat) (lo hi : Int32) (g : mm_H) (n : Nat) : Option (mm_H × Nat) := (ckq g (n + 1) 151 3).bind fun _ => (q_X3_number K g (n + 1) 151 lo hi).bind fun v => (wrF v.2 (n + 1) n 5 4 (.int v.1)).bind fun h => qT K h n
def shC (K : Nat) (g : mm_H) (n : Nat) : Option (mm_H × Nat) := (ckq g (n + 1) 151 3).bind fun _ => (q_X3_pick K g (n + 1) 151 (some 6)).bind fun v => (wrF v.2 (n + 1) n 5 1 (.int v.1)).bind fun h => (ckq h (n + 1) 151 3).bind fun _ => (q_X3_number K h (n + 1) 151 0 100).bind fun v => (wrF v.2 (n + 1) n 5 4 (.int v.1)).bind fun h => (ckq h (n + 1) 151 3).bind fun _ => (q_X3_number K h (n + 1) 151 0 100).bind fun v => (wrF v.2 (n + 1) n 5 5 (.int v.1)).bind fun h => qT K h n
def kiC (K : Nat) (k : Int32) (g : mm_H) (n : Nat) : Option (mm_H × Nat) := if k = 0 then (ckq g (n + 1) 151 3).bind fun _ => (q_X3_allow K g (n + 1) 151 (some n)).bind fun h => qT K h n else if k = 1 then shC K g n else if k = 2 then (ckq g (n + 1) 151 3).bind fun _ => (q_X3_target K g (n + 1) 151 (some n)).bind fun h => qT K h n else if k = 3 then plC K 0 500 g n else if k = 4 then plC K 50 150 g n else plC K 0 100 g n
theorem z_plC (hK : 3000 ≤ K) (hn : 159 ≤ n) (t : TX b N h) {g : mm_H} {σ : RSt} {k : Int32} (r : RB b N n h g σ (r0V k)) (lo hi : Nat) (hlo : lo ≤ 99999) (hhi : hi ≤ 99999) : ∃ g', RB b N n h g' (plS_ b N lo hi σ).2 (vV k (plS_ b N lo hi σ).1 2) ∧ plC K (ni lo) (ni hi) g n = qT K g' n := by
  obtain ⟨g1, f1, r1⟩ := rb_num hK hn t r lo hi hlo hhi
  obtain ⟨w1, r2⟩ := r1.put hn 4 (by decide : 4 < 11) (.int (nmS b N lo hi σ).1)
  refine ⟨_, r2, ?_⟩
  unfold plC
  simp only [gq_151 r.1 (show 159 ≤ n + 1 by omega), Option.bind_some, f1, w1]
theorem z_shC (hK : 3000 ≤ K) (hn : 159 ≤ n) (T : TXT h) (t : TX b N h) {g : mm_H} {σ : RSt} {k : Int32} (r : RB b N n h g σ (r0V k)) : ∃ g', RB b N n h g' (shS_ b N σ).2 (vV k (shS_ b N σ).1 2) ∧ shC K g n = qT K g' n := by
  have hn1 : 159 ≤ n + 1 := by omega
  obtain ⟨g1, f1, r1⟩ := rb_pick hK hn T t r 3 (by omega)
  obtain ⟨w1, r2⟩ := r1.put hn 1 (by decide : 1 < 11) (.int (pkS b N (wds 3) σ).1)
  obtain ⟨g3, f3, r3⟩ := rb_num hK hn t r2 0 100 (by omega) (by omega)
  obtain ⟨w3, r4⟩ := r3.put hn 4 (by decide : 4 < 11) (.int (nmS b N 0 100 (pkS b N (wds 3) σ).2).1)
  obtain ⟨g5, f5, r5⟩ := rb_num hK hn t r4 0 100 (by omega) (by omega)
  obtain ⟨w5, r6⟩ := r5.put hn 5 (by decide : 5 < 11) (.int (nmS b N 0 100 (nmS b N 0 100 (pkS b N (wds 3) σ).2).2).1)
  have f1' : q_X3_pick K g (n + 1) 151 (some 6) = _ := f1
  have f3' : q_X3_number K _ (n + 1) 151 0 100 = _ := f3
  have f5' : q_X3_number K _ (n + 1) 151 0 100 = _ := f5
  refine ⟨_, r6, ?_⟩
  unfold shC
  simp only [gq_151 r.1 hn1, Option.bind_some, f1', w1, gq_151 r2.1 hn1, f3', w3, gq_151 r4.1 hn1, f5', w5]
theorem z_kiC (hK : 3000 ≤ K) (hn : 159 ≤ n) (T : TXT h) (t : TX b N h) {g : mm_H} {σ : RSt} {k : Int32} (r : RB b N n h g σ (r0V k)) : ∃ g', RB b N n h g' (bodyS b N k σ).2 (vV k (bodyS b N k σ).1 2) ∧ kiC K k g n = qT K g' n := by
  have hn1 : 159 ≤ n + 1 := by omega
  unfold kiC bodyS
  by_cases k0 : k = 0
  · rw [if_pos k0, if_pos k0]
    obtain ⟨g1, f1, r1⟩ := z_allow hK hn T t r
    exact ⟨g1, r1, by rw [gq_151 r.1 hn1, Option.bind_some, f1, Option.bind_some]⟩
  rw [if_neg k0, if_neg k0]
  by_cases k1 : k = 1
  · rw [if_pos k1, if_pos k1]
    exact z_shC hK hn T t r
  rw [if_neg k1, if_neg k1]
  by_cases k2 : k = 2
  · rw [if_pos k2, if_pos k2]
    obtain ⟨g1, f1, r1⟩ := z_target hK hn T t r
    exact ⟨g1, r1, by rw [gq_151 r.1 hn1, Option.bind_some, f1, Option.bind_some]⟩
  rw [if_neg k2, if_neg k2]
  by_cases k3 : k = 3
  · rw [if_pos k3, if_pos k3]
    exact z_plC hK hn t r 0 500 (by omega) (by omega)
  rw [if_neg k3, if_neg k3]
  by_cases k4 : k = 4
  · rw [if_pos k4, if_pos k4]
    exact z_plC hK hn t r 50 150 (by omega) (by omega)
  rw [if_neg k4, if_neg k4]
  exact z_plC hK hn t r 0 100 (by omega) (by omega)
/-- a rule is read -/
theorem z_rule (hK : 3000 ≤ K) (c : PS h) (hn : 159 ≤ n) (hn9 : n + 5 < 1000000) (T : TXT h) (t : TX b N h) {σ : RSt} (kk : Tk b N h σ) {m : Nat} (em : fI h 151 9 = ni m) (hm : m < 30) : ∃ g' n', q_X3_rule K h n 151 = some (g', n') ∧ RE b N n h g' n' m (ruleS b N σ).2 (ruleS b N σ).1.1 (ruleS b N σ).1.2.1 (ruleS b N σ).1.2.2 := by
  have hn1 : 159 ≤ n + 1 := by omega
  obtain ⟨g1, f1, l1, k1⟩ := z_pick hK c hn T t (i := 2) (by omega) kk
  have f1' : q_X3_pick K h n 151 (some 5) = some ((pkS b N (wds 2) σ).1, g1) := f1
  have eR : ruleS b N σ = (((pkS b N (wds 2) σ).1, (bodyS b N (pkS b N (wds 2) σ).1 (pkS b N (wds 2) σ).2).1, (tailS b N (bodyS b N (pkS b N (wds 2) σ).1 (pkS b N (wds 2) σ).2).2).1), (tailS b N (bodyS b N (pkS b N (wds 2) σ).1 (pkS b N (wds 2) σ).2).2).2) := rfl
  rw [eR]
  generalize (pkS b N (wds 2) σ).1 = k at f1' ⊢
  generalize (pkS b N (wds 2) σ).2 = σ1 at k1 ⊢
  -- the new Rule
  have w2 : wrF (mm_up g1 n (.inr (5, [.int 0, .int 0, .int 0, .int 0, .int 0, .int 0, .int 0, .int 0, .int 0, .int 0, .null]))) (n + 1) n 5 10 (.ref 2) = some _ := wrF_o _ ⟨by omega, by omega⟩ mm_up_s (by decide : 10 < 11)
  generalize hg2 : mm_up (mm_up g1 n (.inr (5, [.int 0, .int 0, .int 0, .int 0, .int 0, .int 0, .int 0, .int 0, .int 0, .int 0, .null]))) n (.inr (5, List.set [.int 0, .int 0, .int 0, .int 0, .int 0, .int 0, .int 0, .int 0, .int 0, .int 0, .null] 10 (.ref 2))) = g2 at w2
  have n2 : g2 n = .inr (5, [.int 0, .int 0, .int 0, .int 0, .int 0, .int 0, .int 0, .int 0, .int 0, .int 0, .ref 2]) := by
    rw [← hg2]
    exact mm_up_s
  have c2 : PS g2 := by
    rw [← hg2]
    exact (l1.1.top hn _).top hn _
  have o2 : ∀ a, a < n → g2 a = g1 a := fun a ha => by
    rw [← hg2, mm_up_n (by omega), mm_up_n (by omega)]
  have w3 : wrF g2 (n + 1) n 5 0 (.int k) = some (mm_up g2 n (.inr (5, r0V k))) := wrF_o _ ⟨by omega, by omega⟩ n2 (by decide : 0 < 11)
  have c3 : PS (mm_up g2 n (.inr (5, r0V k))) := c2.top hn _
  have c4 : PS (mm_sf (mm_up g2 n (.inr (5, r0V k))) 151 11 (.int 0)) := ps_151_11 c3 _
  have w4 := p_151_11 (n := n + 1) c3 hn1 (.int 0)
  have r4 : RB b N n h (mm_sf (mm_up g2 n (.inr (5, r0V k))) 151 11 (.int 0)) σ1 (r0V k) := by
    have e1 : mm_up g2 n (.inr (5, r0V k)) 151 = g1 151 := (mm_up_n (by omega)).trans (o2 151 (by omega))
    have e2 : ∀ j, j ≠ 11 → fI (mm_sf (mm_up g2 n (.inr (5, r0V k))) 151 11 (.int 0)) 151 j = fI g1 151 j := fun j hj => (fI_sf_o hj _).trans (fI_c e1 j)
    refine ⟨c4, fun a h1 h2 h3 => (mm_sf_n h2).trans ((mm_up_n (by omega)).trans ((o2 a h1).trans (l1.2.1 a h2))), fun j hj => ⟨(e2 j (by omega)).trans (l1.2.2 j (by omega)).1, (fR_sf_o (by omega) _).trans ((fR_c e1 j).trans (l1.2.2 j (by omega)).2)⟩, fs_151_11 c3 _, (mm_sf_n (by omega)).trans mm_up_s, ?_⟩
    cases σ1 with
    | inl p => exact ⟨k1.1, (e2 2 (by decide)).trans k1.2.1, (e2 5 (by decide)).trans k1.2.2⟩
    | inr s => exact ⟨k1.1, (e2 2 (by decide)).trans k1.2.1, (e2 3 (by decide)).trans k1.2.2.1, (e2 4 (by decide)).trans k1.2.2.2.1, (e2 5 (by decide)).trans k1.2.2.2.2⟩
  generalize mm_sf (mm_up g2 n (.inr (5, r0V k))) 151 11 (.int 0) = g4 at c4 w4 r4
  have eq : q_X3_rule K h n 151 = kiC K k g4 n := by
    have fn : newO g1 n 5 [.int 0, .int 0, .int 0, .int 0, .int 0, .int 0, .int 0, .int 0, .int 0, .int 0, .null] = some (mm_up g1 n (.inr (5, [.int 0, .int 0, .int 0, .int 0, .int 0, .int 0, .int 0, .int 0, .int 0, .int 0, .null]))) := if_pos (by omega)
    unfold q_X3_rule
    rw [gq_151 c hn, Option.bind_some, f1', Option.bind_some]
    dsimp only
    rw [fn, Option.bind_some]
    unfold q_X5_init
    rw [w2, Option.bind_some, w3, Option.bind_some, Option.bind_some, w4, Option.bind_some]
    rfl
  obtain ⟨g5, r5, e5⟩ := z_kiC hK hn T t r4
  obtain ⟨g6, n6, e6, r6⟩ := z_qT hK hn hn9 T t r5 em hm
  exact ⟨g6, n6, eq.trans (e5.trans e6), r6⟩
end RULED

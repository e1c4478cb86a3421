/-! ===== the model's statement, its worths ===== -/
section MODEL
variable {K n : Nat} {h : mm_H}
/-- what the model's questions of worth keep -/
def ME (h g : mm_H) : Prop := ∀ a, a < 200 ∨ 203 < a → g a = h a
theorem ME.id_ : ME h h := fun _ _ => rfl
theorem ME.trans {g f : mm_H} (a : ME h g) (b : ME g f) : ME h f := fun x q => (b x q).trans (a x q)
/-- what a review's set is found by -/
def QE (h g : mm_H) : Prop := (∀ a, 178 ≤ a → a ≤ 196 → g a = h a) ∧ fI g 159 24 = fI h 159 24 ∧ fI g 159 56 = fI h 159 56 ∧ fI g 159 57 = fI h 159 57
theorem QE.id_ : QE h h := ⟨fun _ _ _ => rfl, rfl, rfl, rfl⟩
theorem QE.trans {g f : mm_H} (a : QE h g) (b : QE g f) : QE h f := ⟨fun x p q => (b.1 x p q).trans (a.1 x p q), b.2.1.trans a.2.1, b.2.2.1.trans a.2.2.1, b.2.2.2.trans a.2.2.2⟩
theorem ME.qe {g : mm_H} (m : ME h g) : QE h g := ⟨fun a _ _ => m a (by omega), fI_c (m 159 (by omega)) _, fI_c (m 159 (by omega)) _, fI_c (m 159 (by omega)) _⟩
/-- the set of a review, as long as this stays -/
def SO (K n : Nat) (h : mm_H) (r : Nat) (z : Int32) : Prop := ∀ g, PS g → QE h g → q_X11_setOf K g n 159 (ni r) = some z
theorem SO.qe {g : mm_H} {r : Nat} {z : Int32} (s : SO K n h r z) (m : QE h g) : SO K n g r z := fun f p q => s f p (m.trans q)
theorem SO.me {g : mm_H} {r : Nat} {z : Int32} (s : SO K n h r z) (m : ME h g) : SO K n g r z := s.qe m.qe
theorem z_statement (hK : 3000 ≤ K) (c : PS h) (hn : 208 ≤ n) {b : Option Nat} {z : Int32} {L : List Stm} {f y k o : Nat} (hy : y ≤ 14) (hk : k ≤ 8) (ho : o ≤ 3) (so : SO K n h (y / 5) z) (R : RS h n b z L) {w : Nat → Int64} (hw : ∀ i, i < 5 → wdW (ni y).toInt64 (ni f).toInt64 (iA h 201 y).toInt64 (jA h 200 y) (iA h 202 y).toInt64 i = w i) : ∃ g, q_X11_statement K h n 159 (ni f) (ni y) (ni k) (ni o) = some (bI z.toNatClampNeg (lastS w k o L 0 none), g) ∧ PS g ∧ ∀ a, a ≠ 203 → g a = h a := by
  have ed : ni y / 5 = ni (y / 5) := by
    show ni y / ni 5 = _
    rw [ni_div (by omega) (by omega)]
  have es := so h c QE.id_
  unfold q_X11_statement
  simp only [gq_159 c hn, Option.bind_some, ed, es]
  rcases R with ⟨-, rfl, rfl⟩ | ⟨p, w0, B, a, b', -, rfl, hw0, hB, bk, hL, ok, N, hN, st⟩
  · rw [if_pos rfl]
    exact ⟨h, rfl, c, fun _ _ => rfl⟩
  · rw [if_neg (ni_n1 (by omega))]
    obtain ⟨g, e1, p1, o1, v1⟩ := z_asks (K := K) c hn (f := f) hy
    have st' : setR g w0 L N := setR_c (fun a l1 l2 => o1 a (by omega)) st
    have lp := z_stLp hK p1 hn (z := w0) (by omega) (by omega) (by omega) ok st' (kk := k) (o := o) (by omega) ho L [] K none rfl (by omega)
    have e300 : (300 : Int32) * ni w0 = ni (300 * w0) := ni_mul 300 w0
    have lp' : lp_X11_statement_34 K g n 159 (ni k) (ni o) (ni w0) K (-1) (300 * ni w0) = some (bI w0 (lastS (jA g 203) k o L 0 none)) := by
      rw [e300]
      exact lp
    simp only [e1, Option.bind_some, lp']
    refine ⟨g, ?_, p1, o1⟩
    rw [ni_tn (by omega), lastS_w (fun i hi => (v1 i hi).trans (hw i hi))]
theorem z_plainOf (hK : 3000 ≤ K) (c : PS h) (hn : 208 ≤ n) {b : Option Nat} {z : Int32} {L : List Stm} {f y k : Nat} (hy : y ≤ 14) (hk : k ≤ 8) (so : SO K n h (y / 5) z) (R : RS h n b z L) {w : Nat → Int64} (hw : ∀ i, i < 5 → wdW (ni y).toInt64 (ni f).toInt64 (iA h 201 y).toInt64 (jA h 200 y) (iA h 202 y).toInt64 i = w i) (d : Int32) : ∃ g, q_X11_plainOf K h n 159 (ni f) (ni y) (ni k) d = some (numS w L k d, g) ∧ PS g ∧ ∀ a, a ≠ 203 → g a = h a := by
  obtain ⟨g, e, p, o⟩ := z_statement hK c hn hy hk (o := 0) (by omega) so R hw
  refine ⟨g, ?_, p, o⟩
  have e' : q_X11_statement K h n 159 (ni f) (ni y) (ni k) 0 = some (bI z.toNatClampNeg (lastS w k 0 L 0 none), g) := e
  unfold q_X11_plainOf
  simp only [gq_159 c hn, Option.bind_some, e']
  unfold numS
  cases q : lastS w k 0 L 0 none with
  | none => rfl
  | some i =>
    have hi := lastS_lt w k 0 L 0 none (fun j ej => by cases ej) i q
    rcases R with ⟨-, -, rfl⟩ | ⟨p', w0, B, a, b', -, rfl, hw0, hB, bk, hL, ok, N, hN, st⟩
    · exact absurd hi (by rw [List.length_nil]; omega)
    · obtain ⟨s, es⟩ : ∃ s, L[i]? = some s := ⟨L[i]'(by omega), List.getElem?_eq_getElem (by omega)⟩
      have rw_ := st.2.2 i s es
      obtain ⟨-, -, -, rA_, -⟩ := rw_
      have ev : bI (ni w0).toNatClampNeg (some i) = ni (300 * w0 + i) := by rw [ni_tn (by omega)]; rfl
      have ir : inb (ni (300 * w0 + i)) 4200 = true := ni_inb (by omega) (by omega)
      have tr : (ni (300 * w0 + i)).toNatClampNeg = 300 * w0 + i := ni_tn (by omega)
      simp only [ev, g_159_39 p hn, ge_185 p hn, ir, tr, Option.bind_some, if_true]
      rw [if_neg (ni_n1 (by omega)), iA_c (o 185 (by omega)), rA_, es]
theorem z_mLate (hK : 3000 ≤ K) (hn : 208 ≤ n) (u : JW h) {f y : Nat} (hy : y ≤ 14) : ∀ (k w : Nat) (g : mm_H), w ≤ (fI h 56 4).toNatClampNeg → (fI h 56 4).toNatClampNeg - w < k → PS g → (∀ a, a < 200 → g a = h a) → iA g 202 y = ni (ltS h f y w) → ∃ g', lp_X11_prepares_41 K n 159 (ni f) (ni y) k (ni w) g = some g' ∧ PS g' ∧ (∀ a, a ≠ 202 → g' a = g a) ∧ iA g' 202 y = ni (ltS h f y (fI h 56 4).toNatClampNeg) ∧ ∀ i, i ≠ y → iA g' 202 i = iA g 202 i := by
  obtain ⟨q0, q1, q2, q3, m, hm, hm40, hd, hD⟩ := u
  rw [hm, ni_tn (by omega)]
  intro k
  induction k with
  | zero => intro w g _ q; omega
  | succ k ih =>
    intro w g hw hk p o e
    have q0' : fI g 159 8 = ni m := by rw [fI_c (o 159 (by omega)) 8, q0, hm]
    unfold lp_X11_prepares_41
    simp only [g_159_8 p hn, q0', Option.bind_some]
    by_cases hwm : w = m
    · subst hwm
      rw [if_pos (Int32.le_refl _)]
      exact ⟨g, rfl, p, fun _ _ => rfl, e, fun _ _ => rfl⟩
    · rw [if_neg (fun q => by have := (ni_le (by omega) (by omega)).mp q; omega)]
      have iw : inb (ni w) 40 = true := ni_inb (by omega) (by omega)
      have tw : (ni w).toNatClampNeg = w := ni_tn (by omega)
      have i15 : inb (ni y) 15 = true := ni_inb (by omega) (by omega)
      have ty : (ni y).toNatClampNeg = y := ni_tn (by omega)
      have o0 : ∀ h' : mm_H, q_X11_one K h' n 0 = some 0 := fun _ => rfl
      have o1 : ∀ h' : mm_H, q_X11_one K h' n 1 = some 1 := fun _ => rfl
      have e165 : iA g 165 w = iA h 57 w := by rw [iA_c (o 165 (by omega)), q1]
      have e167 : iA g 167 w = iA h 59 w := by rw [iA_c (o 167 (by omega)), q3]
      have e168 : iA g 168 w = iA h 168 w := by rw [iA_c (o 168 (by omega))]
      have ey : (100 : Int32) * ni y = ni (100 * y) := ni_mul 100 y
      have wd : q_X11_wasDone K g n 159 (ni w) (ni y) = some (if ni (100 * y) ≤ iA h 168 w then 0 else 1) := by
        unfold q_X11_wasDone
        simp only [g_159_14 p hn, ge_168 p hn, iw, tw, if_true, Option.bind_some, e168, ey]
        split <;> rfl
      have go : ∀ x : Int32, ni (ltS h f y w) + x = ni (ltS h f y (w + 1)) → ∃ g', lp_X11_prepares_41 K n 159 (ni f) (ni y) k (ni (w + 1)) (mm_si g 202 y (ni (ltS h f y w) + x)) = some g' ∧ PS g' ∧ (∀ a, a ≠ 202 → g' a = g a) ∧ iA g' 202 y = ni (ltS h f y m) ∧ ∀ i, i ≠ y → iA g' 202 i = iA g 202 i := fun x ex => by
        obtain ⟨g', r1, r2, r3, r4, r5⟩ := ih (w + 1) (mm_si g 202 y (ni (ltS h f y w) + x)) (by omega) (by omega) (ps_202 p _ _) (fun a ha => by rw [mm_si_n (by omega)]; exact o a ha) (by rw [is_202 p, upd_s]; exact ex)
        exact ⟨g', r1, r2, fun a ha => (r3 a ha).trans (mm_si_n ha), r4, fun i hi => by rw [r5 i hi, is_202 p, upd_n hi]⟩
      have go0 : ltB h f y w = false → ni (ltS h f y w) + 0 = ni (ltS h f y (w + 1)) := fun hb => by
        have es : ltS h f y (w + 1) = ltS h f y w := by
          show ltS h f y w + (if ltB h f y w = true then 1 else 0) = _
          rw [if_neg (by rw [hb]; exact Bool.false_ne_true)]; rfl
        rw [es, Int32.add_zero]
      have go1 : ltB h f y w = true → ni (ltS h f y w) + 1 = ni (ltS h f y (w + 1)) := fun hb => by
        have es : ltS h f y (w + 1) = ltS h f y w + 1 := by
          show ltS h f y w + (if ltB h f y w = true then 1 else 0) = _
          rw [if_pos hb]
        rw [es, ni_1]
      simp only [g_159_60 p hn, g_159_11 p hn, g_159_13 p hn, ge_165 p hn, ge_167 p hn, ge_202 p hn, pe_202 p hn, iw, tw, i15, ty, if_true, Option.bind_some, e165, e167, e, o0, o1, gq_159 p hn, wd, ni_1]
      unfold ltB at go0 go1
      by_cases h1 : iA h 57 w = ni f
      · rw [if_pos h1]
        rw [decide_eq_true h1, Bool.true_and] at go0 go1
        by_cases h2 : iA h 59 w < ni y
        · rw [if_neg (Int32.not_le.mpr h2)]
          rw [decide_eq_true h2, Bool.true_and] at go0 go1
          rcases (hD w (by omega)).2 with ⟨d1, d2⟩ | ⟨t, d1, d3, d2⟩
          · rw [decide_eq_true d1, Bool.true_or] at go1
            rw [d2, if_pos (show ni (100 * y) ≤ (5000 : Int32) from (ni_le (b := 5000) (by omega) (by omega)).mpr (by omega)), if_pos rfl]
            have r := go 1 (go1 rfl)
            rw [ni_1] at r
            exact r
          · have nd : ¬ iA h 60 w = -1 := by rw [d1]; exact ni_n1 (by omega)
            rw [decide_eq_false nd, Bool.false_or] at go0 go1
            rw [d2]
            by_cases h4 : iA h 60 w < ni (100 * y)
            · rw [decide_eq_true h4] at go0
              rw [if_neg (Int32.not_le.mpr h4), if_neg (by decide)]
              exact go 0 (go0 rfl)
            · rw [decide_eq_false h4] at go1
              rw [if_pos (Int32.not_lt.mp h4), if_pos rfl]
              have r := go 1 (go1 rfl)
              rw [ni_1] at r
              exact r
        · rw [if_pos (Int32.not_lt.mp h2)]
          rw [decide_eq_false h2, Bool.false_and] at go0
          exact go 0 (go0 rfl)
      · rw [if_neg h1]
        rw [decide_eq_false h1, Bool.false_and] at go0
        exact go 0 (go0 rfl)
theorem z_mDone (c : PS h) (hn : 208 ≤ n) (u : JW h) {f y : Nat} (x : Int64) : ∀ (k w : Nat), w ≤ (fI h 56 4).toNatClampNeg → (fI h 56 4).toNatClampNeg - w < k → lp_X11_prepares_145 K h n 159 (ni f) (ni y) k (x + cdS h f y w) (ni w) = some (x + cdS h f y (fI h 56 4).toNatClampNeg) := by
  obtain ⟨q0, q1, q2, q3, m, hm, hm40, hd, hD⟩ := u
  rw [hm, ni_tn (by omega)]
  intro k
  induction k with
  | zero => intro w _ q; omega
  | succ k ih =>
    intro w hw hk
    unfold lp_X11_prepares_145
    simp only [g_159_8 c hn, q0, hm, Option.bind_some]
    by_cases hwm : w = m
    · rw [if_pos (by rw [hwm]; exact Int32.le_refl _), hwm]
    · rw [if_neg (fun q => by have := (ni_le (by omega) (by omega)).mp q; omega)]
      have iw : inb (ni w) 40 = true := ni_inb (by omega) (by omega)
      have tw : (ni w).toNatClampNeg = w := ni_tn (by omega)
      have nx := ih (w + 1) (by omega) (by omega)
      simp only [Option.bind_some, g_159_11 c hn, g_159_12 c hn, g_159_14 c hn, ge_165 c hn, ge_166 c hn, ge_168 c hn, q1, q2, iw, tw, if_true, ni_1]
      have eS : cdS h f y (w + 1) = if cdB h f y w = true then cdS h f y w + (iA h 58 w).toInt64 else cdS h f y w := rfl
      unfold cdB at eS
      by_cases h1 : iA h 57 w = ni f
      · rw [if_pos h1]
        rw [decide_eq_true h1, Bool.true_and] at eS
        rcases (hD w (by omega)).2 with ⟨d1, d2⟩ | ⟨t, d1, d3, d2⟩
        · rw [decide_eq_true d1, Bool.not_true, Bool.false_and, if_neg Bool.false_ne_true] at eS
          rw [if_pos d2, ← eS]
          exact nx
        · have nd : ¬ iA h 60 w = -1 := by rw [d1]; exact ni_n1 (by omega)
          have n5 : ¬ iA h 168 w = 5000 := by rw [d2, d1]; exact fun q => by have := (ni_inj (b := 5000) (by omega) (by omega)).mp q; omega
          rw [if_neg n5, d2]
          rw [decide_eq_false nd, Bool.not_false, Bool.true_and] at eS
          by_cases h3 : iA h 60 w / 100 = ni y
          · rw [decide_eq_true h3, if_pos rfl] at eS
            rw [if_pos h3, Int64.add_assoc, ← eS]
            exact nx
          · rw [decide_eq_false h3, if_neg Bool.false_ne_true] at eS
            rw [if_neg h3, ← eS]
            exact nx
      · rw [decide_eq_false h1, Bool.false_and, if_neg Bool.false_ne_true] at eS
        rw [if_neg h1, ← eS]
        exact nx
end MODEL

/-! ===== the best of those put by, the model's side; the call best ===== -/
section BESTM
variable {K n : Nat} {h : mm_H}
theorem z_ryM (hK : 3000 ≤ K) (hn : 208 ≤ n) {F f r : Nat} {Ls : Nat → List Stm} (hr : r ≤ 2) (l2 l3 l6 l7 : Int32) (l4 a : Int64) : ∀ (m i k : Nat) (g : mm_H), i + m = 5 → m < k → MF K n h F f Ls g → ∃ g', lp_X11_best_104 K n 159 (ni r) l2 l3 l4 l6 l7 (ni f) k (rySum h F f Ls r a i) (ni (5 * r + i)) g = some (rySum h F f Ls r a 5, g') ∧ MF K n h F f Ls g' ∧ SX g g' := by
  have e5 : 5 * ni r + 5 = ni (5 * r + 5) := by
    rw [show (5 : Int32) * ni r = ni (5 * r) from ni_mul 5 r]
    exact ni_add _ 5
  intro m
  induction m with
  | zero =>
    intro i k g hi hk u
    obtain ⟨k, rfl⟩ : ∃ x, k = x + 1 := ⟨k - 1, by omega⟩
    have : i = 5 := by omega
    subst this
    unfold lp_X11_best_104
    rw [e5, if_pos (Int32.le_refl _)]
    exact ⟨g, rfl, u, SX.id_⟩
  | succ m ih =>
    intro i k g hi hk u
    obtain ⟨k, rfl⟩ : ∃ x, k = x + 1 := ⟨k - 1, by omega⟩
    obtain ⟨g1, e1, u1, s1⟩ := u.rev hK hn (y := 5 * r + i) (by omega) (fI h 49 6)
    obtain ⟨g', q1, q2, q3⟩ := ih (i + 1) k g1 (by omega) (by omega) u1
    refine ⟨g', ?_, q2, s1.trans q3⟩
    unfold lp_X11_best_104
    rw [e5, if_neg (fun q => by have := (ni_le (by omega) (by omega)).mp q; omega)]
    simp only [u.today hn, gq_159 u.1 hn, Option.bind_some, e1, ni_1]
    exact q1
theorem z_b59 (hK : 3000 ≤ K) (hn : 208 ≤ n) (j : JR h) {Ls : Nat → List Stm} {F r : Nat} (uF : fI h 49 5 = ni F) (hF : F ≤ 11) (hr : r ≤ 2) (bd l3 l6 : Int32) (l4 : Int64) {g0 : mm_H} (s0 : SV h g0) (R0 : ∀ r, r < 3 → ∃ b z, RS g0 n b z (Ls r) ∧ SO K n g0 r z) : ∀ (m i k : Nat) (g : mm_H), i + m = F → m < k → PS g → SW g0 g → ∃ g', lp_X11_best_59 K n 159 (ni r) bd l3 l4 l6 k (if wiB h F Ls r bd i = true then 1 else 0) (raSum h F Ls r i) (ni i) g = some (if wiB h F Ls r bd F = true then 1 else 0, raSum h F Ls r F, g') ∧ PS g' ∧ SW g0 g' := by
  intro m
  induction m with
  | zero =>
    intro i k g hi hk c s
    obtain ⟨k, rfl⟩ : ∃ x, k = x + 1 := ⟨k - 1, by omega⟩
    have : i = F := by omega
    subst this
    have sv := s0.trans s.sv
    have f1 : fI g 159 1 = ni i := by rw [(SV_JR sv j).2.1.2.1, fI_c (sv.1 49 (by omega)) 5, uF]
    unfold lp_X11_best_59
    simp only [g_159_1 c hn, f1, Option.bind_some]
    rw [if_pos (Int32.le_refl _)]
    exact ⟨g, rfl, c, s⟩
  | succ m ih =>
    intro i k g hi hk c s
    obtain ⟨k, rfl⟩ : ∃ x, k = x + 1 := ⟨k - 1, by omega⟩
    have sv := s0.trans s.sv
    have jg := SV_JR sv j
    have f1 : fI g 159 1 = ni F := by rw [jg.2.1.2.1, fI_c (sv.1 49 (by omega)) 5, uF]
    obtain ⟨w, e1, u1, me⟩ := z_mf (K := K) (h := h) hK hn c jg (fun a ha => sv.1 a (by omega)) ((fI_c (sv.1 49 (by omega)) 5).trans uF) hF (f := i) (by omega) (Ls := Ls) (fun r hr => by
      obtain ⟨b, z, r1, r2⟩ := R0 r hr
      exact ⟨b, z, RS_c (fun a q => s.1 a (by omega)) r1, r2.qe s.qe⟩)
    have er5 : (5 : Int32) * ni r = ni (5 * r) := ni_mul 5 r
    have eW : wiB h F Ls r bd (i + 1) = (wiB h F Ls r bd i && decide (boY h F i Ls (fI h 49 6) r 5 ≤ bd.toInt64)) := rfl
    have go : ∀ (w1 : mm_H) (fl : Int32), MF K n h F i Ls w1 → SX w w1 → fl = (if wiB h F Ls r bd (i + 1) = true then 1 else 0) → ∃ g', ((lp_X11_best_104 K n 159 (ni r) bd l3 l4 l6 fl (ni i) K (raSum h F Ls r i) (ni (5 * r)) w1).bind fun v => lp_X11_best_59 K n 159 (ni r) bd l3 l4 l6 k fl v.1 (ni (i + 1)) v.2) = some (if wiB h F Ls r bd F = true then 1 else 0, raSum h F Ls r F, g') ∧ PS g' ∧ SW g0 g' := fun w1 fl u2 sx ef => by
      obtain ⟨w2, e2, u3, sx2⟩ := z_ryM hK hn (F := F) (f := i) (Ls := Ls) (h := h) hr bd l3 l6 fl l4 (raSum h F Ls r i) 5 0 K w1 rfl (by omega) u2
      have e2' : lp_X11_best_104 K n 159 (ni r) bd l3 l4 l6 fl (ni i) K (raSum h F Ls r i) (ni (5 * r)) w1 = some (raSum h F Ls r (i + 1), w2) := e2
      obtain ⟨g', q1, q2, q3⟩ := ih (i + 1) k w2 (by omega) (by omega) u3.1 (((s.trans me.sw).trans sx.sw).trans sx2.sw)
      refine ⟨g', ?_, q2, q3⟩
      rw [e2', Option.bind_some, ef]
      exact q1
    unfold lp_X11_best_59
    simp only [g_159_1 c hn, f1, Option.bind_some]
    rw [if_neg (fun q => by have := (ni_le (by omega) (by omega)).mp q; omega)]
    simp only [gq_159 c hn, e1, Option.bind_some, gq_159 u1.1 hn, er5, ni_1]
    by_cases wi : wiB h F Ls r bd i = true
    · have v1 : ¬ (if wiB h F Ls r bd i = true then (1 : Int32) else 0) = 0 := by rw [if_pos wi]; decide
      rw [if_neg v1]
      obtain ⟨w1, e2, u2, sx⟩ := u1.borneAll hK hn hr
      simp only [e2, Option.bind_some, lg_cmp_gt]
      by_cases q : boY h F i Ls (fI h 49 6) r 5 ≤ bd.toInt64
      · rw [if_neg (Int64.not_lt.mpr q)]
        exact go w1 1 u2 sx (by rw [eW, wi, decide_eq_true q]; rfl)
      · rw [if_pos (Int64.not_le.mp q)]
        exact go w1 0 u2 sx (by rw [eW, wi, decide_eq_false q]; rfl)
    · have v0 : (if wiB h F Ls r bd i = true then (1 : Int32) else 0) = 0 := if_neg wi
      rw [if_pos v0]
      exact go w 0 u1 SX.id_ (by rw [eW, Bool.eq_false_iff.mpr wi]; rfl)
theorem z_bestM (hK : 3000 ≤ K) (ch : PS h) (hn : 208 ≤ n) (j : JR h) (h56 : fI h 159 56 = -1) {Ls : Nat → List Stm} (R : ∀ r, r < 3 → ∃ b z, RS h n b z (Ls r) ∧ SO K n h r z) {F r M : Nat} {Lp : Nat → List Stm} (uF : fI h 49 5 = ni F) (hF : F ≤ 11) (hr : r ≤ 2) (bd : Int32) (e25 : fI h 159 25 = ni M) (hM : M ≤ 4) (pb : PB n h Lp M) : ∀ (m p k : Nat) (g : mm_H), p + m = M → m < k → PS g → SV h g → fI g 159 56 = -1 → ∃ g', lp_X11_best_27 K n 159 (ni r) bd k (bsS h F Ls r bd Lp p).1 (bsS h F Ls r bd Lp p).2 (ni p) g = some ((bsS h F Ls r bd Lp M).1, g') ∧ PS g' ∧ SV h g' ∧ fI g' 159 56 = -1 := by
  intro m
  induction m with
  | zero =>
    intro p k g hi hk c s e56
    obtain ⟨k, rfl⟩ : ∃ x, k = x + 1 := ⟨k - 1, by omega⟩
    have : p = M := by omega
    subst this
    have f25 : fI g 159 25 = ni p := (s.2 25 (by decide)).trans e25
    unfold lp_X11_best_27
    simp only [g_159_25 c hn, f25, Option.bind_some]
    rw [if_pos (Int32.le_refl _)]
    exact ⟨g, rfl, c, s, e56⟩
  | succ m ih =>
    intro p k g hi hk c s e56
    obtain ⟨k, rfl⟩ : ∃ x, k = x + 1 := ⟨k - 1, by omega⟩
    have f25 : fI g 159 25 = ni M := (s.2 25 (by decide)).trans e25
    obtain ⟨q, a, b, e157, bR⟩ := pb p (by omega)
    obtain ⟨q1, q2, q3, q4⟩ := inS_1 c r (9 + p)
    have sI := s.trans q2
    have RI := z_inS ch hn h56 R (r0 := r) (by omega) (w := 9 + p) (by omega) (by omega) bR c s
    obtain ⟨g1, e1, c1, s1⟩ := z_b59 hK hn j (Ls := LsI Ls r (Lp p)) uF hF hr bd (bsS h F Ls r bd Lp p).1 (ni p) (bsS h F Ls r bd Lp p).2 sI RI F 0 K (inS g r (9 + p)) (by omega) (by omega) q1 SW.id_
    have e1' : lp_X11_best_59 K n 159 (ni r) bd (bsS h F Ls r bd Lp p).1 (bsS h F Ls r bd Lp p).2 (ni p) K 1 0 0 (inS g r (9 + p)) = some (if wiB h F (LsI Ls r (Lp p)) r bd F = true then 1 else 0, raSum h F (LsI Ls r (Lp p)) r F, g1) := e1
    have e9 : (9 : Int32) + ni p = ni (9 + p) := ni_add 9 p
    have ein : mm_sf (mm_sf g 159 56 (.int (ni r))) 159 57 (.int (ni (9 + p))) = inS g r (9 + p) := rfl
    have c2 : PS (mm_sf g1 159 56 (.int (-1))) := ps_159_56 c1 _
    have s2 : SV h (mm_sf g1 159 56 (.int (-1))) := (sI.trans s1.sv).trans (SV.put 56 (Or.inl rfl) _)
    have f2 : fI (mm_sf g1 159 56 (.int (-1))) 159 56 = -1 := fs_159_56 c1 _
    have eB : bsS h F Ls r bd Lp (p + 1) = if wiB h F (LsI Ls r (Lp p)) r bd F = true then (if (bsS h F Ls r bd Lp p).1 = -1 then (ni p, raSum h F (LsI Ls r (Lp p)) r F) else if (bsS h F Ls r bd Lp p).2 ≤ raSum h F (LsI Ls r (Lp p)) r F then bsS h F Ls r bd Lp p else (ni p, raSum h F (LsI Ls r (Lp p)) r F)) else bsS h F Ls r bd Lp p := rfl
    have nx := ih (p + 1) k _ (by omega) (by omega) c2 s2 f2
    unfold lp_X11_best_27
    simp only [g_159_25 c hn, f25, Option.bind_some]
    rw [if_neg (fun q => by have := (ni_le (by omega) (by omega)).mp q; omega)]
    simp only [p_159_56 c hn, p_159_57 (ps_159_56 c _) hn, e9, ein, Option.bind_some, e1', p_159_56 c1 hn, lg_cmp_lt, ni_1]
    by_cases wi : wiB h F (LsI Ls r (Lp p)) r bd F = true
    · rw [if_pos wi] at eB
      have v1 : ¬ (if wiB h F (LsI Ls r (Lp p)) r bd F = true then (1 : Int32) else 0) = 0 := by rw [if_pos wi]; decide
      rw [if_neg v1]
      by_cases z1 : (bsS h F Ls r bd Lp p).1 = -1
      · rw [if_pos z1] at eB ⊢
        rw [eB] at nx
        exact nx
      rw [if_neg z1] at eB ⊢
      by_cases z2 : (bsS h F Ls r bd Lp p).2 ≤ raSum h F (LsI Ls r (Lp p)) r F
      · rw [if_pos z2] at eB
        rw [if_neg (Int64.not_lt.mpr z2)]
        rw [eB] at nx
        exact nx
      · rw [if_neg z2] at eB
        rw [if_pos (Int64.not_le.mp z2)]
        rw [eB] at nx
        exact nx
    · rw [if_neg wi] at eB
      have v0 : (if wiB h F (LsI Ls r (Lp p)) r bd F = true then (1 : Int32) else 0) = 0 := if_neg wi
      rw [if_pos v0]
      rw [eB] at nx
      exact nx
theorem S_27 (hK : 3000 ≤ K) {l3 : Int32} {kc ks : Nat} {x : Nat → Int32} (c : PS h) (hn : 208 ≤ n) (j : JR h) (jn : JN h) (jk : JK h n) (sc : SCR (h 0) n l3 x) : ∃ g, st_law_27 K h n l3 kc ks = some (g, n, kc, ks) ∧ PS g ∧ JR g ∧ FB h g := by
  obtain ⟨s1, s2, -⟩ := sc h rfl
  have h56 := jn.2.2.2.2.2.2
  have fin : ∀ (v : Int32) (g w : mm_H), q_X10_best K h n 48 (x 1) (x 2) = some (v, g) → PS g → SW h g → q_X11_best K g n 159 (x 1) (x 2) = some (v, w) → PS w → SV h w → fI w 159 56 = fI h 159 56 → ∃ g, st_law_27 K h n l3 kc ks = some (g, n, kc, ks) ∧ PS g ∧ JR g ∧ FB h g := by
    intro v g w k1 p1 e1 k2 p2 e2 e3
    obtain ⟨t1, t2, -⟩ := sc g (e1.1 0 (by omega))
    refine ⟨w, ?_, p2, SV_JR e2 j, SV_FB e2 e3⟩
    unfold st_law_27
    simp only [s1, s2, gq_48 c hn, Option.bind_some, k1, t1, t2, gq_159 p1 hn, k2, if_true]
  by_cases a1 : mm_in (x 1) 0 2 = 0
  · refine fin (-1) h h ?_ c SW.id_ ?_ c SW.id_.sv rfl
    · unfold q_X10_best
      simp only [z_X10_isReview, Option.bind_some, a1, if_true]
    · unfold q_X11_best
      simp only [z_X11_isReview, Option.bind_some, a1, if_true]
  by_cases a2 : mm_in (x 2) 0 99999 = 0
  · refine fin (-1) h h ?_ c SW.id_ ?_ c SW.id_.sv rfl
    · unfold q_X10_best
      simp only [z_X10_isReview, Option.bind_some, a1, if_false, z_X10_isWithin, a2, if_true]
    · unfold q_X11_best
      simp only [z_X11_isReview, Option.bind_some, a1, if_false, z_X11_isIn, a2, if_true]
  obtain ⟨r, hr, er⟩ := mm_in_nat (N := 2) (by omega) a1
  obtain ⟨F, eF, hF⟩ := id j.2.1.1
  obtain ⟨M, Lp, e10, hM, pb⟩ := jk.pb
  obtain ⟨g1, Ls, f1, p1, o1, R1⟩ := z_useOwn hK c hn jk jn
  have R0 : ∀ r, r < 3 → ∃ b z, RS h n b z (Ls r) ∧ SO K n h r z := fun r hr => by
    obtain ⟨z, r1, r2⟩ := R1 r hr
    exact ⟨_, z, r1, r2⟩
  have sw1 : SW h g1 := ⟨fun a q => o1 a (by omega), fun k _ _ _ _ => fI_c (o1 159 (by omega)) k⟩
  obtain ⟨g2, e2, p2, sw2⟩ := z_bestC hK hn j jk (Ls := Ls) (Lp := Lp) eF hF hr (x 2) e10 hM pb M 0 K g1 (by omega) (by omega) p1 sw1 (fun r' hr' _ => by
    obtain ⟨z, r1, r2⟩ := R1 r' hr'
    exact ⟨z, RS_c (fun a q => o1 a (by omega)) r1⟩)
  have e2' : lp_X10_best_31 K n 48 (ni r) (x 2) K (-1) 0 0 g1 = some ((bsS h F Ls r (x 2) Lp M).1, g2) := e2
  have e25 : fI h 159 25 = ni M := jn.2.2.2.1.trans e10
  have g56 : fI g2 159 56 = -1 := (sw2.2 56 (by decide) (by decide) (by decide) (by decide)).trans h56
  obtain ⟨g3, e3, p3, sv3, f3⟩ := z_bestM hK c hn j h56 R0 (Lp := Lp) eF hF hr (x 2) e25 hM pb M 0 K g2 (by omega) (by omega) p2 sw2.sv g56
  have e3' : lp_X11_best_27 K n 159 (ni r) (x 2) K (-1) 0 0 g2 = some ((bsS h F Ls r (x 2) Lp M).1, g3) := e3
  have a1' : ¬ mm_in (ni r) 0 2 = 0 := by rw [← er]; exact a1
  refine fin (bsS h F Ls r (x 2) Lp M).1 g2 g3 ?_ p2 sw2 ?_ p3 sv3 (f3.trans h56.symm)
  · unfold q_X10_best
    rw [er]
    simp only [z_X10_isReview, Option.bind_some, a1', if_false, z_X10_isWithin, a2, gq_48 c hn, f1, e2']
  · unfold q_X11_best
    rw [er]
    simp only [z_X11_isReview, Option.bind_some, a1', if_false, z_X11_isIn, a2, e3']
end BESTM

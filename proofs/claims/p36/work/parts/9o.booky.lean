/-! ===== the law's own book: year by year ===== -/
section BOOKY
variable {K : Nat} {h H : mm_H} {x : Nat → Int32} {M s0 t : Nat} {P : Nat → Nat} {le ti : Bool}
variable {l2 l3 l4 l5 l6 l7 l8 l9 l10 l11 l12 l13 l14 l15 l16 l17 : Int32}
theorem pd_eq (R : RGp H x M s0 t) {y k : Nat} (hy : y < 5) (cn : Int64) (c : Int64) (hk : c = (ptI k).toInt64) : (if lg_cmp (((Int32.toInt64 (ni (hvN x y 0))) * 2 + (Int32.toInt64 (ni (hvN x y 1))) * 3) + (Int32.toInt64 (ni (hvN x y 2))) * 5) 0 = 0 then some 0 else if (((Int32.toInt64 (ni (hvN x y 0))) * 2 + (Int32.toInt64 (ni (hvN x y 1))) * 3) + (Int32.toInt64 (ni (hvN x y 2))) * 5) = 0 then none else some ((cn * c) / (((Int32.toInt64 (ni (hvN x y 0))) * 2 + (Int32.toInt64 (ni (hvN x y 1))) * 3) + (Int32.toInt64 (ni (hvN x y 2))) * 5)) : Option Int64) = some (pdS H 0 y (ni t) cn k) := by
  subst hk
  have t9 := R.2.2.2.2.2.2.2.1
  unfold pdS
  rw [ap_eq R hy (by omega)]
  simp only [lg_cmp_eq]
  by_cases q : ((Int32.toInt64 (ni (hvN x y 0))) * 2 + (Int32.toInt64 (ni (hvN x y 1))) * 3) + (Int32.toInt64 (ni (hvN x y 2))) * 5 = 0
  · rw [if_pos q, if_pos q]
  · rw [if_neg q, if_neg q, if_neg q]
theorem lp_1115 {n0 p z : Nat} (R : RGp H x M s0 t) (hK : 3000 ≤ K) (hn0 : 159 ≤ n0) (hz : n0 ≤ z) (hzm : z < 900000) (hP : ∀ j, P j ≤ 500) (hP12 : 1 ≤ P 12) (hl : l2 = ni (P 2) ∧ l3 = ni (P 3) ∧ l4 = ni (P 4) ∧ l5 = ni (P 5) ∧ l6 = ni (P 6) ∧ l7 = ni (P 7) ∧ l8 = ni (P 8) ∧ l9 = ni (P 9) ∧ l10 = ni (P 10) ∧ l11 = ni (P 11) ∧ l12 = ni (P 12) ∧ l13 = ni (P 13) ∧ l14 = ni (P 14) ∧ l15 = ni (P 15)) (h16 : l16 = if le = true then 1 else 0) (h17 : l17 = if ti = true then 1 else 0) (hT : fI H 49 6 = ni t) :
    ∀ (q y k : Nat) (h : mm_H) (n : Nat) (fl : Nat → Int64), y + q = 5 → q < k → z + 9 ≤ n → n + 2 * q < 1000000 → QS h H n0 p (lawL P le ti) z M x → JRn h (z + 8) 64 fl → (∀ i, i < M → fl i = rmL H (LL P le ti) i y) →
    ∃ r : Int64 × mm_H × Nat, lp_L_law_1115 K 48 l2 l3 l4 l5 l6 l7 l8 l9 l10 l11 l12 l13 l14 l15 l16 l17 z (z + 1) (z + 2) (z + 3) (z + 4) (z + 5) (z + 6) (ni M) (z + 7) (ni t) (z + 8) k (wrS H 0 (LL P le ti) y) (lnS H 2 0 (LL P le ti) (ni t) y 10) (lnS H 2 0 (LL P le ti) (ni t) y 8) (blP H 2 0 (LL P le ti) (ni t) 0 y).1 (blP H 2 0 (LL P le ti) (ni t) 0 y).2 (ni y) h n = some r ∧ r.1 = wrS H 0 (LL P le ti) 5 ∧ QS r.2.1 H n0 p (lawL P le ti) z M x ∧ n ≤ r.2.2 := by
  have t9 : t ≤ 1499 := R.2.2.2.2.2.2.2.1
  obtain ⟨h2, h3, h4, h5, h6, h7, h8, h9, h10, h11, h12, h13, h14, h15⟩ := hl
  intro q
  induction q with
  | zero =>
    intro y k h n fl hy hk hn hn9 Q J hf
    obtain ⟨k, rfl⟩ : ∃ z, k = z + 1 := ⟨k - 1, by omega⟩
    obtain rfl : y = 5 := by omega
    unfold lp_L_law_1115
    exact iteY (by decide) ⟨(_, _, _), rfl, rfl, Q, Nat.le_refl _⟩
  | succ q ih =>
    intro y k h n fl hy hk hn hn9 Q J hf
    obtain ⟨k, rfl⟩ : ∃ z, k = z + 1 := ⟨k - 1, by omega⟩
    unfold lp_L_law_1115
    have hy5 : y < 5 := by omega
    refine iteN (fun v => by have := (ni_le (a := 5) (by omega) (by omega)).mp v; omega) ?_
    obtain ⟨⟨f1, f2, f3, f4, i1, i2, i3, i4, i5⟩, -, f9, i9, i9'⟩ := id Q.2.2
    obtain ⟨y1, y2, y3, y4⟩ := i5 y hy5
    refine bindE ((i2.ld (by omega) (by omega)).trans (congrArg some y1)) ?_
    refine bindE (w := lnS H 2 0 (LL P le ti) (ni t) y 0) (congrArg some (by rw [ln_0 R hy5, h8])) ?_
    refine bindE (w := lnS H 2 0 (LL P le ti) (ni t) y 4) (congrArg some (by rw [ln_4, h2])) ?_
    obtain ⟨r, er, r1, r2, r3, ⟨fl', r4, r5⟩, r6⟩ := lp_1157 (K := K) (n := n) (l2 := l2) (l3 := l3) (l4 := l4) (l5 := l5) (l6 := l6) (l7 := l7) (l8 := l8) (l9 := l9) (l10 := l10) (l11 := l11) (l12 := l12) (l13 := l13) (l14 := l14) (l15 := l15) (l16 := l16) (l17 := l17) (le := le) (ti := ti) (z := z) (y := y) (l30 := ni t) (l31 := wrS H 0 (LL P le ti) y) (l34 := lnS H 2 0 (LL P le ti) (ni t) y 10) (l36 := lnS H 2 0 (LL P le ti) (ni t) y 8) (l38 := (blP H 2 0 (LL P le ti) (ni t) 0 y).1) (l40 := (blP H 2 0 (LL P le ti) (ni t) 0 y).2) (l43 := lnS H 2 0 (LL P le ti) (ni t) y 0) (l45 := lnS H 2 0 (LL P le ti) (ni t) y 4) R h5 hy5 (by omega) hn M 0 K h fl (by omega) (by have := R.2.2.2.2.2.2.2.2.1; omega) Q.2.2 J (fun i hi => by rw [if_neg (by omega)]; exact hf i hi)
    refine bindE er ?_
    obtain ⟨du, tk, hr⟩ := r
    obtain rfl : du = duS H 0 y M := r1
    obtain rfl : tk = tbS H 0 (LL P le ti) y M := r2
    have Qr : QS hr H n0 p (lawL P le ti) z M x := Q.own hn0 hz (fun a ha => r6 a (by omega))
    have i9r : IR hr (z + 7) f9 := i9.c (r6 _ (by omega))
    have ld9 : ldI hr n (z + 7) (ni y) = some (ni (lgN x y 2)) := (i9r.ld (by omega) (by omega)).trans (congrArg some (i9' y hy5))
    refine bindE ld9 ?_
    refine bindE (w := lnS H 2 0 (LL P le ti) (ni t) y 14) ?_ ?_
    · show (if lg_cmp (Int32.toInt64 (ni (lgN x y 2))) ((lnS H 2 0 (LL P le ti) (ni t) y 0 * (Int32.toInt64 l7)) / 100) < 0 then some 0 else (ldI hr n (z + 7) (ni y)).bind fun v675 => some (Int32.toInt64 v675)) = _
      rw [ld9, Option.bind_some, iteV, ln_14 R hy5, ln_0 R hy5, h7]
      simp only [lg_cmp_lt]
    refine bindE (w := rvS H 2 0 (LL P le ti) (ni t) y 15) (congrArg some (rv_eq R hy5).symm) ?_
    refine bindE (newJN (N := 15) (by omega) (by omega)) ?_
    have Qa : QS (mm_up hr n (.inl (.long, 15, .inr (.inl (fun _ => 0))))) H n0 p (lawL P le ti) z M x := Qr.own hn0 hz (fun a ha => mm_up_n (by omega))
    have Ja : JRn (mm_up hr n (.inl (.long, 15, .inr (.inl (fun _ => 0))))) n 15 (fun _ => 0) := mm_up_s
    have Jl : JRn (mm_up hr n (.inl (.long, 15, .inr (.inl (fun _ => 0))))) (z + 8) 64 fl' := r4.c (mm_up_n (by omega))
    generalize mm_up hr n (.inl (.long, 15, .inr (.inl (fun _ => 0)))) = ha at Qa Ja Jl ⊢
    refine fill15 Ja (by omega) (by omega) (fun hb F Jb Fv eb => ?_)
    have Qb : QS hb H n0 p (lawL P le ti) z M x := Qa.own hn0 hz (fun a ha => eb a (by omega))
    have Jlb : JRn hb (z + 8) 64 fl' := Jl.c (eb _ (by omega))
    have hF : ∀ i, i < 15 → F i = lnS H 2 0 (LL P le ti) (ni t) y i := by
      intro i hi
      obtain ⟨q0, q1, q2, q3, q4, q5, q6, q7, q8, q9, q10, q11, q12, q13, q14⟩ := Fv
      rcases (show i = 0 ∨ i = 1 ∨ i = 2 ∨ i = 3 ∨ i = 4 ∨ i = 5 ∨ i = 6 ∨ i = 7 ∨ i = 8 ∨ i = 9 ∨ i = 10 ∨ i = 11 ∨ i = 12 ∨ i = 13 ∨ i = 14 by omega) with rfl | rfl | rfl | rfl | rfl | rfl | rfl | rfl | rfl | rfl | rfl | rfl | rfl | rfl | rfl
      · exact q0
      · rw [q1, ln_13 R (by omega) (by omega)]
      · rw [q2, ln_13 R (by omega) (by omega)]
      · rw [q3, ln_13 R (by omega) (by omega)]
      · exact q4
      · rw [q5, ln_5 R]
      · rw [q6, ln_6 R]
      · rw [q7, ln_0s (by omega) hy5 R]
      · exact q8
      · rw [q9, ln_0s (by omega) hy5 R]
      · exact q10
      · rw [q11, ln_0s (by omega) hy5 R]
      · rw [q12, ln_0s (by omega) hy5 R]
      · rw [q13, ln_0s (by omega) hy5 R]
      · exact q14
    obtain ⟨h1, e1, Q1, w1⟩ := lp_1418 (K := K) (n := n + 1) (l2 := l2) (l3 := l3) (l4 := l4) (l5 := l5) (l6 := l6) (l7 := l7) (l8 := l8) (l9 := l9) (l10 := l10) (l11 := l11) (l12 := l12) (l13 := l13) (l14 := l14) (l15 := l15) (l16 := l16) (l17 := l17) (L := lawL P le ti) (y := y) (b := n) (l28 := ni M) (l30 := ni t) (l31 := wrS H 0 (LL P le ti) y) (l38 := (blP H 2 0 (LL P le ti) (ni t) 0 y).1) (l40 := (blP H 2 0 (LL P le ti) (ni t) 0 y).2) (l43 := lnS H 2 0 (LL P le ti) (ni t) y 0) (l45 := lnS H 2 0 (LL P le ti) (ni t) y 4) (l53 := rvS H 2 0 (LL P le ti) (ni t) y 15) (l33 := z + 8) hK hn0 hz (by omega) (by omega) (by omega) hy5 t9 hF 15 0 K hb (by omega) (by omega) Qb Jb
    refine bindE e1 ?_
    have Jl1 : JRn h1 (z + 8) 64 fl' := Jlb.c (w1 _ (by omega))
    have hT' : ∀ g, QS g H n0 p (lawL P le ti) z M x → cN (fI g 49 6) 1499 := fun g Qg => ⟨t, (fI_c (Qg.2.1 49 (by omega)) 6).trans hT, t9⟩
    refine bindE (gq_48 Q1.1.1 (by omega)) ?_
    obtain ⟨h2', e2, c2, w2⟩ := a_worth (K := K) (n := n + 1) hK (by omega) (Q1.1.up (by omega)) Q1.2.1 (f := 0) (y := y) (by omega) (by omega) (hT' _ Q1)
    have Q2 := Q1.sw hn0 hz c2 w2
    have Jl2 : JRn h2' (z + 8) 64 fl' := Jl1.c (w2.1 _ (by omega))
    refine bindE e2 ?_
    refine iteN (Classical.not_not.mpr ((lg_cmp_eq _ _).mpr rfl)) ?_
    refine bindE (gq_48 Q2.1.1 (by omega)) ?_
    obtain ⟨h3', e3, c3, w3⟩ := a_revenue (K := K) (n := n + 1) hK (by omega) (Q2.1.up (by omega)) Q2.2.1 (f := 0) (y := y) (d := t) (by omega) (by omega) t9
    have Q3 := Q2.sw hn0 hz c3 w3
    have Jl3 : JRn h3' (z + 8) 64 fl' := Jl2.c (w3.1 _ (by omega))
    refine bindE e3 ?_
    refine iteN (Classical.not_not.mpr ((lg_cmp_eq _ _).mpr rfl)) ?_
    refine bindE rfl ?_
    have bs := bl_s (H := H) (P := P) (le := le) (ti := ti) (y := y) (ni t)
    refine bindE (w := (blP H 2 0 (LL P le ti) (ni t) 0 (y + 1)).1) ((blv_eq hy5 hP h6 h17 _ _).trans (congrArg some (by rw [bs]))) ?_
    refine bindE (w := (blP H 2 0 (LL P le ti) (ni t) 0 (y + 1)).2) (congrArg some (by rw [bs])) ?_
    refine bindE (gq_48 Q3.1.1 (by omega)) ?_
    obtain ⟨h4', e4, c4, w4⟩ := b_bills (K := K) (n := n + 1) hK (by omega) (Q3.1.up (by omega)) Q3.2.1 (y := y) hy5 t9
    have Q4 := Q3.sw hn0 hz c4 w4
    have Jl4 : JRn h4' (z + 8) 64 fl' := Jl3.c (w4.1 _ (by omega))
    refine bindE e4 ?_
    refine iteN (Classical.not_not.mpr ((lg_cmp_eq _ _).mpr rfl)) ?_
    refine bindE (gq_48 Q4.1.1 (by omega)) ?_
    obtain ⟨h5', e5, c5, w5⟩ := b_carried (K := K) (n := n + 1) hK (by omega) (Q4.1.up (by omega)) Q4.2.1 (y := y) hy5 t9
    have Q5 := Q4.sw hn0 hz c5 w5
    have Jl5 : JRn h5' (z + 8) 64 fl' := Jl4.c (w5.1 _ (by omega))
    refine bindE e5 ?_
    refine iteN (Classical.not_not.mpr ((lg_cmp_eq _ _).mpr rfl)) ?_
    obtain ⟨⟨p1, p2, p3, p4, j1, j2, j3, j4, j5⟩, -, -⟩ := id Q5.2.2
    have j4' := (j5 y hy5).2.2.2
    refine bindE (w := ni (hvN x y 0)) ((j4.ld (by omega) (by omega)).trans (congrArg some (by have := j4' 0 (by omega); rw [Nat.mul_zero, Nat.zero_add] at this; exact this))) ?_
    refine bindE (w := ni (hvN x y 1)) (by rw [show (8 : Int32) = ni 8 from rfl, ni_add]; exact (j4.ld (by omega) (by omega)).trans (congrArg some (j4' 1 (by omega)))) ?_
    refine bindE (w := ni (hvN x y 2)) (by rw [show (16 : Int32) = ni 16 from rfl, ni_add]; exact (j4.ld (by omega) (by omega)).trans (congrArg some (j4' 2 (by omega)))) ?_
    refine bindE rfl ?_
    refine bindE (newJN (N := 3) (by omega) (by omega)) ?_
    have Q6 : QS (mm_up h5' (n + 1) (.inl (.long, 3, .inr (.inl (fun _ => 0))))) H n0 p (lawL P le ti) z M x := Q5.own hn0 hz (fun a ha => mm_up_n (by omega))
    have J6 : JRn (mm_up h5' (n + 1) (.inl (.long, 3, .inr (.inl (fun _ => 0))))) (n + 1) 3 (fun _ => 0) := mm_up_s
    have Jl6 : JRn (mm_up h5' (n + 1) (.inl (.long, 3, .inr (.inl (fun _ => 0))))) (z + 8) 64 fl' := Jl5.c (mm_up_n (by omega))
    generalize mm_up h5' (n + 1) (.inl (.long, 3, .inr (.inl (fun _ => 0)))) = h6' at Q6 J6 Jl6 ⊢
    refine bindE (pd_eq R hy5 _ 2 (k := 0) rfl) ?_
    obtain ⟨h7', e7, J7, q7⟩ := st_ex (n := n + 2) J6 (by omega) (by omega) (i := 0) (by omega) (by omega) (pdS H 0 y (ni t) (blP H 2 0 (LL P le ti) (ni t) 0 (y + 1)).1 0)
    refine bindE e7 ?_
    refine bindE (pd_eq R hy5 _ 3 (k := 1) rfl) ?_
    obtain ⟨h8', e8, J8, q8⟩ := st_ex (n := n + 2) J7 (by omega) (by omega) (i := 1) (by omega) (by omega) (pdS H 0 y (ni t) (blP H 2 0 (LL P le ti) (ni t) 0 (y + 1)).1 1)
    refine bindE e8 ?_
    refine bindE (pd_eq R hy5 _ 5 (k := 2) rfl) ?_
    obtain ⟨h9', e9, J9, q9⟩ := st_ex (n := n + 2) J8 (by omega) (by omega) (i := 2) (by omega) (by omega) (pdS H 0 y (ni t) (blP H 2 0 (LL P le ti) (ni t) 0 (y + 1)).1 2)
    refine bindE e9 ?_
    have Q9 : QS h9' H n0 p (lawL P le ti) z M x := Q6.own hn0 hz (fun a ha => by rw [q9 a (by omega), q8 a (by omega), q7 a (by omega)])
    have Jl9 : JRn h9' (z + 8) 64 fl' := Jl6.c (by rw [q9 _ (by omega), q8 _ (by omega), q7 _ (by omega)])
    obtain ⟨r, er, r1, Qx, wx⟩ := lp_1730 (K := K) (n := n + 2) (l2 := l2) (l3 := l3) (l4 := l4) (l5 := l5) (l6 := l6) (l7 := l7) (l8 := l8) (l9 := l9) (l10 := l10) (l11 := l11) (l12 := l12) (l13 := l13) (l14 := l14) (l15 := l15) (l16 := l16) (l17 := l17) (L := lawL P le ti) (y := y) (b := n + 1) (l28 := ni M) (l30 := ni t) (l31 := wrS H 0 (LL P le ti) y) (l38 := (blP H 2 0 (LL P le ti) (ni t) 0 (y + 1)).1) (l40 := (blP H 2 0 (LL P le ti) (ni t) 0 (y + 1)).2) (l43 := lnS H 2 0 (LL P le ti) (ni t) y 0) (l45 := lnS H 2 0 (LL P le ti) (ni t) y 4) (l60 := ((Int32.toInt64 (ni (hvN x y 0))) * 2 + (Int32.toInt64 (ni (hvN x y 1))) * 3) + (Int32.toInt64 (ni (hvN x y 2))) * 5) (l33 := z + 8) R hK hn0 hz (by omega) (by omega) (by omega) hy5 (fun i hi => by
      rcases (show i = 0 ∨ i = 1 ∨ i = 2 by omega) with rfl | rfl | rfl
      · simp [vp_updL]
      · simp [vp_updL]
      · simp [vp_updL]) 3 0 K h9' (by omega) (by omega) Q9 J9
    refine bindE er ?_
    obtain ⟨rest, hx⟩ := r
    obtain rfl : rest = lfS H 0 y (ni t) (blP H 2 0 (LL P le ti) (ni t) 0 (y + 1)).1 3 := r1
    have Jlx : JRn hx (z + 8) 64 fl' := Jl9.c (wx _ (by omega))
    refine bindE (gq_48 Qx.1.1 (by omega)) ?_
    obtain ⟨h10', e10, c10, w10⟩ := b_home (K := K) (n := n + 2) hK (by omega) (Qx.1.up (by omega)) Qx.2.1 (y := y) (k := 3) hy5 (by omega) t9
    rw [if_pos (Nat.le_refl 3)] at e10
    have Q10 := Qx.sw hn0 hz c10 w10
    have Jl10 : JRn h10' (z + 8) 64 fl' := Jlx.c (w10.1 _ (by omega))
    refine bindE e10 ?_
    refine iteN (Classical.not_not.mpr ((lg_cmp_eq _ _).mpr rfl)) ?_
    refine bindE (gq_48 Q10.1.1 (by omega)) ?_
    obtain ⟨h11', e11, c11, w11⟩ := a_who (K := K) (n := n + 2) hK (by omega) (Q10.1.up (by omega)) Q10.2.1 (f := 0) (y := y) (k := 1) (i := 4) (d := t) (by omega) (by omega) (by omega) (by omega) t9
    have Q11 := Q10.sw hn0 hz c11 w11
    have Jl11 : JRn h11' (z + 8) 64 fl' := Jl10.c (w11.1 _ (by omega))
    refine bindE e11 ?_
    refine bindE (pd_eq R hy5 _ 3 (k := 1) rfl) ?_
    refine iteN (Classical.not_not.mpr ((lg_cmp_eq _ _).mpr rfl)) ?_
    obtain ⟨⟨o1, o2, o3, o4, k1, k2, k3, k4, k5⟩, -, -⟩ := id Q11.2.2
    obtain ⟨u1, u2, u3, u4⟩ := k5 y hy5
    have ldc : ldI h11' (n + 2) z (ni y) = some (cvI x y) := (k1.ld (by omega) (by omega)).trans (congrArg some u2)
    have ldo : ldI h11' (n + 2) (z + 2) (ni y) = some (ovI x y) := (k3.ld (by omega) (by omega)).trans (congrArg some u3)
    refine bindE ldc ?_
    obtain ⟨v, v1, v2⟩ := ov_eq (u := lnS H 2 0 (LL P le ti) (ni t) y 0) ldc (cv_or x y) h9 h10
    refine bindE v1 ?_
    refine bindE iteV ?_
    refine bindE (w := lnS H 2 0 (LL P le ti) (ni t) (y + 1) 10) (congrArg some (by rw [v2, ln_10s hy5 R, ln_0 R hy5])) ?_
    refine bindE ldo ?_
    refine bindE (w := lnS H 2 0 (LL P le ti) (ni t) (y + 1) 8) ((er_eq (le := le) ldo (ov_or x y) hP hP12 h11 h12 h13 h14 h15 h16).trans (congrArg some (ln_8s hy5 R).symm)) ?_
    refine bindE rfl ?_
    have l20 := lp_2036 (K := K) (n := n + 2) (l2 := l2) (l3 := l3) (l4 := l4) (l5 := l5) (l6 := l6) (l7 := l7) (l8 := l8) (l9 := l9) (l10 := l10) (l11 := l11) (l12 := l12) (l13 := l13) (l14 := l14) (l15 := l15) (l16 := l16) (l17 := l17) (h := h11') (z := z) (y := y) (l30 := ni t) (l34 := lnS H 2 0 (LL P le ti) (ni t) (y + 1) 10) (l36 := lnS H 2 0 (LL P le ti) (ni t) (y + 1) 8) (l38 := (blP H 2 0 (LL P le ti) (ni t) 0 (y + 1)).1) (l40 := (blP H 2 0 (LL P le ti) (ni t) 0 (y + 1)).2) R hy5 (by omega) (by omega) Q11.2.2 (wrS H 0 (LL P le ti) y * (Int32.toInt64 l3) / 100 - wrS H 0 (LL P le ti) y * (Int32.toInt64 l4) / 100) M 0 K (by omega) (by have := R.2.2.2.2.2.2.2.2.1; omega)
    rw [show cdS H 0 y 0 = 0 from rfl, Int64.add_zero] at l20
    refine bindE (w := wrS H 0 (LL P le ti) (y + 1)) (l20.trans (congrArg some (by rw [wr_s R, h3, h4]))) ?_
    obtain ⟨r, e, r1, r2, r3⟩ := ih (y + 1) k h11' (n + 2) fl' (by omega) (by omega) (by omega) (by omega) Q11 Jl11 r5
    rw [ni_1]
    exact ⟨r, e, r1, r2, by omega⟩
/-- the second firm's first year -/
theorem rv_1 (R : RGp H x M s0 t) : rvS H 2 1 (LL P le ti) (ni t) 0 15 = 7 * (ni (P 2)).toInt64 / 1000 := by
  obtain ⟨a1, a2, a3, a4, ⟨mm, k1, k2⟩, wk, lk, t9, m3, -⟩ := id R
  have kn1 : ∀ w d : Nat, w ≤ 16 → d < 2147483648 → kn H 1 0 w (ni d) = -1 := fun w d hw hd => by
    rw [k2 1 0 w d (by omega) (by omega) hw hd, kfY_eq, if_neg (by omega)]
  have al : ∀ hd, hd < 4 → lnS H 2 1 (LL P le ti) (ni t) 0 hd = 0 := fun hd h4 => by
    unfold lnS
    rw [if_pos h4]
    unfold alS allS
    rw [a4]
    show (match lastS _ 0 hd (lawL P le ti) 0 none with | none => _ | some i => _) = _
    by_cases z : hd = 0
    · subst z
      have ts : toldS H 2 1 0 ((0, 0, 3), (0, P 8, 0, 0, 0), []) = 0 := by
        unfold toldS
        rw [if_pos rfl, dcd_0 (by omega)]
        show (if kn H 1 0 7 (ni 0) = -1 then (0 : Int64) else _) = _
        rw [kn1 7 0 (by omega) (by omega), if_pos rfl]
      cases ti
      · simp [lawL_f, lastS, sK, sO, sM, sT, sA, sB, tst_0, ts]
      · simp [lawL_t, lastS, sK, sO, sM, sT, sA, sB, tst_0, ts]
    · have h1 : ¬ 0 = hd := fun e => z e.symm
      cases ti
      · simp [lawL_f, lastS, sK, sO, sM, sT, sA, sB, tst_0, h1]
      · simp [lawL_t, lastS, sK, sO, sM, sT, sA, sB, tst_0, h1]
  have l4 : lnS H 2 1 (LL P le ti) (ni t) 0 4 = 7 * (ni (P 2)).toInt64 / 1000 := by
    unfold lnS
    rw [if_neg (by decide), if_pos rfl, num_3]
    show (iA H 50 1).toInt64 * _ / 1000 = _
    rw [a3]
    rfl
  have l5 : lnS H 2 1 (LL P le ti) (ni t) 0 5 = 0 := by
    unfold lnS
    rw [if_neg (by decide), if_neg (by decide), if_pos rfl, R.wk]
    have : ∀ m, m ≤ M → duS H 1 0 m = 0 := by
      intro m
      induction m with
      | zero => intro _; rfl
      | succ m ih =>
        intro hm
        show (if iA H 57 m = ni 1 ∧ iA H 59 m = ni 0 then _ else _) = _
        rw [(wk.2 m (by omega)).1, if_neg (fun e => absurd e.1 (by decide)), ih (by omega)]
    exact this M (Nat.le_refl M)
  have l6 : lnS H 2 1 (LL P le ti) (ni t) 0 6 = 0 := by
    unfold lnS
    rw [if_neg (by decide), if_neg (by decide), if_neg (by decide), if_pos rfl, R.wk]
    have : ∀ m, m ≤ M → tbS H 1 (LL P le ti) 0 m = 0 := by
      intro m
      induction m with
      | zero => intro _; rfl
      | succ m ih =>
        intro hm
        have lf : ¬ ltB H 1 0 m = true := by
          unfold ltB
          rw [(wk.2 m (by omega)).1, decide_eq_false (show ¬ (0 : Int32) = ni 1 by decide), Bool.false_and]
          decide
        show (if ltB H 1 0 m = true then _ else _) = _
        rw [if_neg lf, ih (by omega)]
    rw [this M (Nat.le_refl M)]
    rfl
  have l14 : lnS H 2 1 (LL P le ti) (ni t) 0 14 = 0 := by
    unfold lnS
    rw [if_neg (by decide), if_neg (by decide), if_neg (by decide), if_neg (by decide), if_pos rfl]
    unfold lgV
    have : lgS H (ni 1) (ni 0) (ni t) (fI H 67 5).toNatClampNeg = 0 := by
      rw [lk.1, ni_tn (by omega)]
      show (if iA H 68 1 = ni 1 ∧ _ then _ else (if iA H 68 0 = ni 1 ∧ _ then _ else (0 : Int64))) = 0
      rw [(lk.2 1 (by omega)).1, (lk.2 0 (by omega)).1, if_neg (fun e => absurd e.1 (by decide)), if_neg (fun e => absurd e.1 (by decide))]
    rw [this]
    split <;> rfl
  have l0 : ∀ k, 7 ≤ k → k ≤ 13 → lnS H 2 1 (LL P le ti) (ni t) 0 k = 0 := fun k h7 h13 => by
    unfold lnS
    rw [if_neg (by omega), if_neg (by omega), if_neg (by omega), if_neg (by omega), if_neg (by omega), if_pos rfl]
  show ((((((((((((((0 + lnS H 2 1 (LL P le ti) (ni t) 0 0) + lnS H 2 1 (LL P le ti) (ni t) 0 1) + lnS H 2 1 (LL P le ti) (ni t) 0 2) + lnS H 2 1 (LL P le ti) (ni t) 0 3) + lnS H 2 1 (LL P le ti) (ni t) 0 4) + lnS H 2 1 (LL P le ti) (ni t) 0 5) + lnS H 2 1 (LL P le ti) (ni t) 0 6) + lnS H 2 1 (LL P le ti) (ni t) 0 7) + lnS H 2 1 (LL P le ti) (ni t) 0 8) + lnS H 2 1 (LL P le ti) (ni t) 0 9) + lnS H 2 1 (LL P le ti) (ni t) 0 10) + lnS H 2 1 (LL P le ti) (ni t) 0 11) + lnS H 2 1 (LL P le ti) (ni t) 0 12) + lnS H 2 1 (LL P le ti) (ni t) 0 13) + lnS H 2 1 (LL P le ti) (ni t) 0 14 = _
  rw [al 0 (by omega), al 1 (by omega), al 2 (by omega), al 3 (by omega), l4, l5, l6, l14, l0 7 (by omega) (by omega), l0 8 (by omega) (by omega), l0 9 (by omega) (by omega), l0 10 (by omega) (by omega), l0 11 (by omega) (by omega), l0 12 (by omega) (by omega), l0 13 (by omega) (by omega)]
  simp only [Int64.zero_add, Int64.add_zero]
theorem z_1112 {n0 p z n : Nat} (R : RGp H x M s0 t) (hK : 3000 ≤ K) (hn0 : 159 ≤ n0) (hz : n0 ≤ z) (hzm : z < 900000) (hP : ∀ j, P j ≤ 500) (hP12 : 1 ≤ P 12) (hl : l2 = ni (P 2) ∧ l3 = ni (P 3) ∧ l4 = ni (P 4) ∧ l5 = ni (P 5) ∧ l6 = ni (P 6) ∧ l7 = ni (P 7) ∧ l8 = ni (P 8) ∧ l9 = ni (P 9) ∧ l10 = ni (P 10) ∧ l11 = ni (P 11) ∧ l12 = ni (P 12) ∧ l13 = ni (P 13) ∧ l14 = ni (P 14) ∧ l15 = ni (P 15)) (h16 : l16 = if le = true then 1 else 0) (h17 : l17 = if ti = true then 1 else 0) (hT : fI H 49 6 = ni t) (hn : z + 9 ≤ n) (hn9 : n + 10 < 1000000) (Q : QS h H n0 p (lawL P le ti) z M x) {fl : Nat → Int64} (J : JRn h (z + 8) 64 fl) (hf : ∀ i, i < M → fl i = (iA H 58 i).toInt64) : q_law_1112 K h n l2 l3 l4 l5 l6 l7 l8 l9 l10 l11 l12 l13 l14 l15 l16 l17 z (z + 1) (z + 2) (z + 3) (z + 4) (z + 5) (z + 6) (ni M) (z + 7) (ni t) (Int32.toInt64 (ni s0)) (z + 8) = some () := by
  have t9 : t ≤ 1499 := R.2.2.2.2.2.2.2.1
  obtain ⟨r, e, r1, Q1, rn⟩ := lp_1115 (K := K) R hK hn0 hz hzm hP hP12 hl h16 h17 hT 5 0 40 h n fl (by omega) (by omega) hn (by omega) Q J hf
  have w0 : wrS H 0 (LL P le ti) 0 = Int32.toInt64 (ni s0) := by
    show (iA H 50 0).toInt64 = _
    rw [R.2.1]
  rw [w0, (ln_80 (ni t)).1, (ln_80 (ni t)).2] at e
  obtain ⟨w5, h1, n1⟩ := r
  obtain rfl : w5 = wrS H 0 (LL P le ti) 5 := r1
  unfold q_law_1112
  refine bindS e ?_
  refine bindS (gq_48 Q1.1.1 (Nat.le_trans (by omega) rn)) ?_
  have rn' : n ≤ n1 := rn
  obtain ⟨h2', e2, c2, w2⟩ := a_worth (K := K) (n := n1) hK (by omega) (Q1.1.up (by omega)) Q1.2.1 (f := 0) (y := 5) (by omega) (by omega) ⟨t, (fI_c (Q1.2.1 49 (by omega)) 6).trans hT, t9⟩
  have Q2 := Q1.sw hn0 hz c2 w2
  refine bindS e2 ?_
  refine (if_neg (Classical.not_not.mpr ((lg_cmp_eq _ _).mpr rfl))).trans ?_
  refine bindS (gq_48 Q2.1.1 (show 159 ≤ n1 by omega)) ?_
  obtain ⟨h3', e3, c3, w3⟩ := a_revenue (K := K) (n := n1) hK (by omega) (Q2.1.up (by omega)) Q2.2.1 (f := 1) (y := 0) (d := t) (by omega) (by omega) t9
  refine bindS e3 ?_
  refine (if_neg (Classical.not_not.mpr ((lg_cmp_eq _ _).mpr ?_))).trans rfl
  rw [hl.1]
  exact rv_1 R
end BOOKY

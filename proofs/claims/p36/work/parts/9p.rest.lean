/-! ===== from the rules taken to the end ===== -/
section REST
variable {K n : Nat} {h g : mm_H} {P : Nat → Nat} {le ti : Bool}
variable {l2 l3 l4 l5 l6 l7 l8 l9 l10 l11 l12 l13 l14 l15 l16 l17 : Int32}
/-- the law's numbers are those of the text -/
def LPP (P : Nat → Nat) (le ti : Bool) (l2 l3 l4 l5 l6 l7 l8 l9 l10 l11 l12 l13 l14 l15 l16 l17 : Int32) : Prop := (∀ j, P j ≤ 500) ∧ 1 ≤ P 12 ∧ (l2 = ni (P 2) ∧ l3 = ni (P 3) ∧ l4 = ni (P 4) ∧ l5 = ni (P 5) ∧ l6 = ni (P 6) ∧ l7 = ni (P 7) ∧ l8 = ni (P 8) ∧ l9 = ni (P 9) ∧ l10 = ni (P 10) ∧ l11 = ni (P 11) ∧ l12 = ni (P 12) ∧ l13 = ni (P 13) ∧ l14 = ni (P 14) ∧ l15 = ni (P 15)) ∧ (l16 = if le = true then 1 else 0) ∧ l17 = if ti = true then 1 else 0
theorem IR.new {a : Nat} : IR (mm_up h a (.inl (.int, 64, .inl (fun _ => 0)))) a (fun _ => 0) := mm_up_s
theorem z_1056 {n0 p N s0 M z : Nat} {xs : Nat → Int32} (hK : 3000 ≤ K) (lp : LPP P le ti l2 l3 l4 l5 l6 l7 l8 l9 l10 l11 l12 l13 l14 l15 l16 l17) (hn0 : 159 ≤ n0) (hz : n0 ≤ z) (hz9 : z < 900000) (hM : M ≤ 3) (hs0 : s0 ≤ 131071) (b : BA h n0 p (lawL P le ti) N xs s0 (tdN (cx N xs) M)) {m : Nat} (kn : KNp h (kfY (cx N xs) 5) m) (wk : WKp h (cx N xs) M (dD (cx N xs) (-1) M)) (lg : LGp h (cx N xs) 2) (o : OA h z M (cx N xs)) : q_law_1056 K h (z + 8) l2 l3 l4 l5 l6 l7 l8 l9 l10 l11 l12 l13 l14 l15 l16 l17 (Int32.toInt64 (ni s0)) z (z + 1) (z + 2) (z + 3) (z + 4) (z + 5) (z + 6) (ni M) (z + 7) = some () := by
  obtain ⟨lp1, lp2, lp3, lp4, lp5⟩ := lp
  obtain ⟨b1, b2, b3, b4, b5, b6, b7, b8, b9, b0⟩ := id b
  have ht := td_le (cx N xs) M
  have R : RGp h (cx N xs) M s0 (tdN (cx N xs) M) := ⟨b5, b7, b8, b9, ⟨m, kn⟩, wk, lg, by omega, hM, hs0⟩
  have Q0 : QS h h n0 p (lawL P le ti) z M (cx N xs) := ⟨⟨b1, b2, b3, b4, b5⟩, fun _ _ => rfl, o⟩
  unfold q_law_1056
  refine bindS (gq_48 b1 (by omega)) ?_
  refine bindS ((r_count b1 (by omega)).trans (congrArg some b0)) ?_
  refine bindS (newJN (N := 64) (by omega) (by omega)) ?_
  have Q1 : QS (mm_up h (z + 8) (.inl (.long, 64, .inr (.inl (fun _ => 0))))) h n0 p (lawL P le ti) z M (cx N xs) := Q0.own hn0 hz (fun a ha => mm_up_n (by omega))
  have J1 : JRn (mm_up h (z + 8) (.inl (.long, 64, .inr (.inl (fun _ => 0))))) (z + 8) 64 (fun _ => 0) := mm_up_s
  generalize mm_up h (z + 8) (.inl (.long, 64, .inr (.inl (fun _ => 0)))) = h1 at Q1 J1 ⊢
  obtain ⟨g, e, o2, ⟨fl, J2, hf⟩, q2⟩ := lp_1076 (K := K) (n := z + 8 + 1) (l2 := l2) (l3 := l3) (l4 := l4) (l5 := l5) (l6 := l6) (l7 := l7) (l8 := l8) (l9 := l9) (l10 := l10) (l11 := l11) (l12 := l12) (l13 := l13) (l14 := l14) (l15 := l15) (l16 := l16) (l17 := l17) (l30 := ni (tdN (cx N xs) M)) (l31 := Int32.toInt64 (ni s0)) (z := z) R (by omega) (by omega) M 0 K h1 _ (by omega) (by omega) Q1.2.2 J1 (fun i hi => by omega)
  refine bindS e ?_
  exact z_1112 R hK hn0 hz hz9 lp1 lp2 lp3 lp4 lp5 b0 (Nat.le_refl _) (by omega) (Q1.own hn0 hz (fun a ha => q2 a (by omega))) J2 hf
theorem z_485 {n0 p N s0 : Nat} {xs : Nat → Int32} (hN : N ≤ 260) (hK : 3000 ≤ K) (lp : LPP P le ti l2 l3 l4 l5 l6 l7 l8 l9 l10 l11 l12 l13 l14 l15 l16 l17) (hn0 : 159 ≤ n0) (hz : n0 ≤ n) (hz9 : n < 900000) (hs0 : s0 ≤ 131071) (b : BA h n0 p (lawL P le ti) N xs s0 0) (kn : KNp h (kfY (cx N xs) 0) 0) (wk : WKp h (cx N xs) 0 (fun _ => -1)) (lg : LGp h (cx N xs) 0) : q_law_485 K h n l2 l3 l4 l5 l6 l7 l8 l9 l10 l11 l12 l13 l14 l15 l16 l17 (Int32.toInt64 (ni s0)) = some () := by
  unfold q_law_485
  refine bindS (new64 (by omega)) ?_
  refine bindS (new64 (by omega)) ?_
  refine bindS (new64 (by omega)) ?_
  refine bindS (new64 (by omega)) ?_
  have fr : ∀ a, a < n → mm_up (mm_up (mm_up (mm_up h n (.inl (.int, 64, .inl (fun _ => 0)))) (n + 1) (.inl (.int, 64, .inl (fun _ => 0)))) (n + 2) (.inl (.int, 64, .inl (fun _ => 0)))) (n + 3) (.inl (.int, 64, .inl (fun _ => 0))) a = h a := fun a ha => by
    rw [mm_up_n (by omega), mm_up_n (by omega), mm_up_n (by omega), mm_up_n (by omega)]
  have I1 : IR (mm_up (mm_up (mm_up (mm_up h n (.inl (.int, 64, .inl (fun _ => 0)))) (n + 1) (.inl (.int, 64, .inl (fun _ => 0)))) (n + 2) (.inl (.int, 64, .inl (fun _ => 0)))) (n + 3) (.inl (.int, 64, .inl (fun _ => 0)))) n (fun _ => 0) := by
    unfold IR
    rw [mm_up_n (by omega), mm_up_n (by omega), mm_up_n (by omega), mm_up_s]
  have I2 : IR (mm_up (mm_up (mm_up (mm_up h n (.inl (.int, 64, .inl (fun _ => 0)))) (n + 1) (.inl (.int, 64, .inl (fun _ => 0)))) (n + 2) (.inl (.int, 64, .inl (fun _ => 0)))) (n + 3) (.inl (.int, 64, .inl (fun _ => 0)))) (n + 1) (fun _ => 0) := by
    unfold IR
    rw [mm_up_n (by omega), mm_up_n (by omega), mm_up_s]
  have I3 : IR (mm_up (mm_up (mm_up (mm_up h n (.inl (.int, 64, .inl (fun _ => 0)))) (n + 1) (.inl (.int, 64, .inl (fun _ => 0)))) (n + 2) (.inl (.int, 64, .inl (fun _ => 0)))) (n + 3) (.inl (.int, 64, .inl (fun _ => 0)))) (n + 2) (fun _ => 0) := by
    unfold IR
    rw [mm_up_n (by omega), mm_up_s]
  have I4 : IR (mm_up (mm_up (mm_up (mm_up h n (.inl (.int, 64, .inl (fun _ => 0)))) (n + 1) (.inl (.int, 64, .inl (fun _ => 0)))) (n + 2) (.inl (.int, 64, .inl (fun _ => 0)))) (n + 3) (.inl (.int, 64, .inl (fun _ => 0)))) (n + 3) (fun _ => 0) := mm_up_s
  generalize mm_up (mm_up (mm_up (mm_up h n (.inl (.int, 64, .inl (fun _ => 0)))) (n + 1) (.inl (.int, 64, .inl (fun _ => 0)))) (n + 2) (.inl (.int, 64, .inl (fun _ => 0)))) (n + 3) (.inl (.int, 64, .inl (fun _ => 0))) = h1 at fr I1 I2 I3 I4 ⊢
  have b1 : BA h1 n0 p (lawL P le ti) N xs s0 0 := b.own hn0 (fun a ha => fr a (by omega))
  have k1 : KNp h1 (kfY (cx N xs) 0) 0 := kn.c (fun a _ _ => fr a (by omega))
  have w1 : WKp h1 (cx N xs) 0 (fun _ => -1) := wk.c (fun a _ _ => fr a (by omega))
  have g1 : LGp h1 (cx N xs) 0 := lg.c (fun a _ _ => fr a (by omega))
  obtain ⟨h2, e2, b2, ⟨m2, k2⟩, ⟨f1, f2, f3, f4, j1, j2, j3, j4, yr⟩, q2⟩ := lp_512 (K := K) (n := n + 4) (l2 := l2) (l3 := l3) (l4 := l4) (l5 := l5) (l6 := l6) (l7 := l7) (l8 := l8) (l9 := l9) (l10 := l10) (l11 := l11) (l12 := l12) (l13 := l13) (l14 := l14) (l15 := l15) (l16 := l16) (l17 := l17) (l19 := Int32.toInt64 (ni s0)) hK hN hn0 (z := n) hz (Nat.le_refl _) 5 0 K h1 _ _ _ _ 0 (by omega) (by omega) b1 k1 (by omega) I1 I2 I3 I4 (fun i hi => by omega)
  refine bindS e2 ?_
  have w2 : WKp h2 (cx N xs) 0 (fun _ => -1) := w1.c (fun a _ _ => q2 a (by omega) (by omega))
  have g2 : LGp h2 (cx N xs) 0 := g1.c (fun a _ _ => q2 a (by omega) (by omega))
  unfold q_law_755
  refine bindS (new64 (by omega)) ?_
  refine bindS (new64 (by omega)) ?_
  refine bindS (new64 (by omega)) ?_
  have fr3 : ∀ a, a < n + 4 → mm_up (mm_up (mm_up h2 (n + 4) (.inl (.int, 64, .inl (fun _ => 0)))) (n + 4 + 1) (.inl (.int, 64, .inl (fun _ => 0)))) (n + 4 + 2) (.inl (.int, 64, .inl (fun _ => 0))) a = h2 a := fun a ha => by
    rw [mm_up_n (by omega), mm_up_n (by omega), mm_up_n (by omega)]
  have I5 : IR (mm_up (mm_up (mm_up h2 (n + 4) (.inl (.int, 64, .inl (fun _ => 0)))) (n + 4 + 1) (.inl (.int, 64, .inl (fun _ => 0)))) (n + 4 + 2) (.inl (.int, 64, .inl (fun _ => 0)))) (n + 4) (fun _ => 0) := by
    unfold IR
    rw [mm_up_n (by omega), mm_up_n (by omega), mm_up_s]
  have I6 : IR (mm_up (mm_up (mm_up h2 (n + 4) (.inl (.int, 64, .inl (fun _ => 0)))) (n + 4 + 1) (.inl (.int, 64, .inl (fun _ => 0)))) (n + 4 + 2) (.inl (.int, 64, .inl (fun _ => 0)))) (n + 4 + 1) (fun _ => 0) := by
    unfold IR
    rw [mm_up_n (by omega), mm_up_s]
  have I7 : IR (mm_up (mm_up (mm_up h2 (n + 4) (.inl (.int, 64, .inl (fun _ => 0)))) (n + 4 + 1) (.inl (.int, 64, .inl (fun _ => 0)))) (n + 4 + 2) (.inl (.int, 64, .inl (fun _ => 0)))) (n + 4 + 2) (fun _ => 0) := mm_up_s
  generalize mm_up (mm_up (mm_up h2 (n + 4) (.inl (.int, 64, .inl (fun _ => 0)))) (n + 4 + 1) (.inl (.int, 64, .inl (fun _ => 0)))) (n + 4 + 2) (.inl (.int, 64, .inl (fun _ => 0))) = h3 at fr3 I5 I6 I7 ⊢
  have b3 : BA h3 n0 p (lawL P le ti) N xs s0 0 := b2.own hn0 (fun a ha => fr3 a (by omega))
  have k3 := k2.c (g := h3) (fun a _ _ => fr3 a (by omega))
  have w3 := w2.c (g := h3) (fun a _ _ => fr3 a (by omega))
  have g3 := g2.c (g := h3) (fun a _ _ => fr3 a (by omega))
  refine bindS (cell_ok (k := 14) (by omega) b3.2.2.2.2.2.1 hN (by omega)) ?_
  have hM := bt_ok (cx N xs 14) (M := 3) (by omega)
  have hM1 : cx N xs 14 &&& 3 = ni (bt (cx N xs 14) 3) := hM.1
  have hM2 : bt (cx N xs 14) 3 ≤ 3 := hM.2
  rw [hM1]
  generalize bt (cx N xs 14) 3 = M at hM2
  refine bindS rfl ?_
  obtain ⟨h4, e4, b4, w4, ⟨f5, f6, f7, j5, j6, j7, wr⟩, q4⟩ := lp_786 (K := K) (n := n + 4 + 3) (l2 := l2) (l3 := l3) (l4 := l4) (l5 := l5) (l6 := l6) (l7 := l7) (l8 := l8) (l9 := l9) (l10 := l10) (l11 := l11) (l12 := l12) (l13 := l13) (l14 := l14) (l15 := l15) (l16 := l16) (l17 := l17) (l19 := Int32.toInt64 (ni s0)) (a21 := n) (a22 := n + 1) (a23 := n + 2) (a24 := n + 3) hN hn0 hM2 (z := n + 4) (by omega) (Nat.le_refl _) M 0 K h3 _ _ _ (by omega) (by omega) b3 w3 I5 I6 I7 (fun i hi => by omega)
  refine bindS e4 ?_
  have k4 := k3.c (g := h4) (fun a _ _ => q4 a (by omega) (by omega))
  have g4 := g3.c (g := h4) (fun a _ _ => q4 a (by omega) (by omega))
  unfold q_law_868
  refine bindS (new64 (by omega)) ?_
  have fr5 : ∀ a, a < n + 4 + 3 → mm_up h4 (n + 4 + 3) (.inl (.int, 64, .inl (fun _ => 0))) a = h4 a := fun a ha => mm_up_n (by omega)
  have I9 : IR (mm_up h4 (n + 4 + 3) (.inl (.int, 64, .inl (fun _ => 0)))) (n + 4 + 3) (fun _ => 0) := mm_up_s
  generalize mm_up h4 (n + 4 + 3) (.inl (.int, 64, .inl (fun _ => 0))) = h5 at fr5 I9 ⊢
  have b5 : BA h5 n0 p (lawL P le ti) N xs s0 0 := b4.own hn0 (fun a ha => fr5 a (by omega))
  have k5 := k4.c (g := h5) (fun a _ _ => fr5 a (by omega))
  have w5 := w4.c (g := h5) (fun a _ _ => fr5 a (by omega))
  have g5 := g4.c (g := h5) (fun a _ _ => fr5 a (by omega))
  obtain ⟨h6, e6, b6, g6, ⟨f9, j9, lgv⟩, q6⟩ := lp_877 (K := K) (n := n + 4 + 3 + 1) (l2 := l2) (l3 := l3) (l4 := l4) (l5 := l5) (l6 := l6) (l7 := l7) (l8 := l8) (l9 := l9) (l10 := l10) (l11 := l11) (l12 := l12) (l13 := l13) (l14 := l14) (l15 := l15) (l16 := l16) (l17 := l17) (l19 := Int32.toInt64 (ni s0)) (a21 := n) (a22 := n + 1) (a23 := n + 2) (a24 := n + 3) hN hn0 (a25 := n + 4) (a26 := n + 4 + 1) (a27 := n + 4 + 2) (l28 := ni M) (z := n + 4 + 3) (by omega) (by omega) 2 0 K h5 _ (by omega) (by omega) b5 g5 I9 (fun y _ => rfl)
  refine bindS e6 ?_
  have k6 := k5.c (g := h6) (fun a _ _ => q6 a (by omega) (by omega))
  have w6 := w5.c (g := h6) (fun a _ _ => q6 a (by omega) (by omega))
  have e26 : ∀ a, n ≤ a → a < n + 4 → h6 a = h2 a := fun a u v => (q6 a (by omega) (by omega)).trans ((fr5 a (by omega)).trans ((q4 a (by omega) (by omega)).trans (fr3 a (by omega))))
  have e46 : ∀ a, n + 4 ≤ a → a < n + 4 + 3 → h6 a = h4 a := fun a u v => (q6 a (by omega) (by omega)).trans (fr5 a (by omega))
  unfold q_law_956
  obtain ⟨h7, e7, b7, w7, ⟨f7', j7', dv⟩, q7⟩ := lp_959 (K := K) (n := n + 4 + 3 + 1) (l2 := l2) (l3 := l3) (l4 := l4) (l5 := l5) (l6 := l6) (l7 := l7) (l8 := l8) (l9 := l9) (l10 := l10) (l11 := l11) (l12 := l12) (l13 := l13) (l14 := l14) (l15 := l15) (l16 := l16) (l17 := l17) (l19 := Int32.toInt64 (ni s0)) (a21 := n) (a22 := n + 1) (a23 := n + 2) (a24 := n + 3) (p := p) (N := N) (s0 := s0) (L := lawL P le ti) (xs := xs) hN hn0 hM2 (a25 := n + 4) (a26 := n + 4 + 1) (a29 := n + 4 + 3) (z := n + 4 + 2) (by omega) (by omega) M 0 K h6 f7 (by omega) (by omega) b6 ⟨w6.1, fun w hw => by
    have hx : dD (cx N xs) (-1) 0 w = -1 := if_neg (fun v => absurd v.1 (by omega))
    rw [hx]
    exact w6.2 w hw⟩ (j7.c (e46 _ (by omega) (by omega))) (fun i hi => by
    have hx : dD (cx N xs) 9999 0 i = 9999 := if_neg (fun v => absurd v.1 (by omega))
    rw [hx]
    exact (wr i hi).2.2)
  refine bindS e7 ?_
  have k7 := k6.c (g := h7) (fun a _ _ => q7 a (by omega) (by omega) (by omega))
  have g7 := g6.c (g := h7) (fun a _ _ => q7 a (by omega) (by omega) (by omega))
  refine z_1056 (z := n) (m := m2) hK lp hn0 hz hz9 hM2 hs0 b7 k7 w7 g7 ⟨⟨f1, f2, f3, f4, ?_, ?_, ?_, ?_, yr⟩, ⟨f5, f6, f7', ?_, ?_, j7', fun w hw => ⟨(wr w hw).1, (wr w hw).2.1, dv w hw⟩⟩, f9, ?_, lgv⟩
  · exact j1.c ((q7 _ (by omega) (by omega) (by omega)).trans (e26 _ (by omega) (by omega)))
  · exact j2.c ((q7 _ (by omega) (by omega) (by omega)).trans (e26 _ (by omega) (by omega)))
  · exact j3.c ((q7 _ (by omega) (by omega) (by omega)).trans (e26 _ (by omega) (by omega)))
  · exact j4.c ((q7 _ (by omega) (by omega) (by omega)).trans (e26 _ (by omega) (by omega)))
  · exact j5.c ((q7 _ (by omega) (by omega) (by omega)).trans (e46 _ (by omega) (by omega)))
  · exact j6.c ((q7 _ (by omega) (by omega) (by omega)).trans (e46 _ (by omega) (by omega)))
  · exact j9.c (q7 _ (by omega) (by omega) (by omega))
/-- what stands as the text is taken -/
def TKN (h : mm_H) (n0 p : Nat) (L : List Stm) (N : Nat) (xs : Nat → Int32) : Prop := PS h ∧ JR h ∧ TK h n0 p L ∧ PRT h ∧ S0 h N xs ∧ fI h 49 5 = 0 ∧ fI h 49 6 = 0 ∧ fI h 51 4 = 0 ∧ (∀ k, k < 2805 → iA h 55 k = -1) ∧ fI h 56 4 = 0 ∧ fI h 61 5 = 0 ∧ fI h 67 5 = 0
theorem z_452 {n0 p N : Nat} {xs : Nat → Int32} (hN : N ≤ 260) (hK : 3000 ≤ K) (lp : LPP P le ti l2 l3 l4 l5 l6 l7 l8 l9 l10 l11 l12 l13 l14 l15 l16 l17) (hn0 : 159 ≤ n0) (hz : n0 ≤ n) (hz9 : n < 900000) (T : TKN h n0 p (lawL P le ti) N xs) : q_law_452 K h n l2 l3 l4 l5 l6 l7 l8 l9 l10 l11 l12 l13 l14 l15 l16 l17 = some () := by
  obtain ⟨t1, t2, t3, t4, t5, t6, t7, t8, t9, t10, t11, t12⟩ := T
  unfold q_law_452
  refine bindS (cell_ok (k := 3) (by omega) t5 hN (by omega)) ?_
  have hs := bt_ok (cx N xs 3) (M := 131071) (by omega)
  have hs1 : cx N xs 3 &&& 131071 = ni (bt (cx N xs 3) 131071) := hs.1
  have hs2 : bt (cx N xs 3) 131071 ≤ 131071 := hs.2
  rw [hs1]
  generalize bt (cx N xs 3) 131071 = s0 at hs2
  refine bindS rfl ?_
  refine bindS (gq_48 t1 (by omega)) ?_
  rw [i32_64]
  obtain ⟨h1, e1, c1, j1, ke1, a1, a2, a3⟩ := r_firm (K := K) (n := n) t1 (by omega) t2 (m := 0) (v := s0) t6 (by omega) (by omega)
  refine bindS e1 ?_
  refine (if_neg (Classical.not_not.mpr rfl)).trans ?_
  refine bindS (gq_48 c1 (by omega)) ?_
  obtain ⟨h2, e2, c2, j2, ke2, d1, d2, d3⟩ := r_firm (K := K) (n := n) c1 (by omega) j1 (m := 1) (v := 7) a1 (by omega) (by omega)
  refine bindS e2 ?_
  refine (if_neg (Classical.not_not.mpr rfl)).trans ?_
  have ee : ∀ a, a < 49 ∨ 50 < a → h2 a = h a := fun a ha => (ke2 a (by omega)).trans (ke1 a (by omega))
  refine z_485 hN hK lp hn0 hz hz9 hs2 ⟨c2, j2, t3.lo (Nat.le_refl _) (fun a q => ee a (by omega)), ?_, d1, (ee 0 (by omega)).trans t5, ?_, ?_, (fI_c (ee 61 (by omega)) 5).trans t11, ?_⟩ ⟨(fI_c (ee 51 (by omega)) 4).trans t8, fun f y w d hf hy hw _ => ?_⟩ ⟨(fI_c (ee 56 (by omega)) 4).trans t10, fun w hw => by omega⟩ ⟨(fI_c (ee 67 (by omega)) 5).trans t12, fun w hw => by omega⟩
  · obtain ⟨f, q1, q2⟩ := t4
    exact ⟨f, (ee 1 (by omega)).trans q1, q2⟩
  · rw [d3, a3, upd_n (by decide), upd_s]
  · rw [d3, upd_s]
    rfl
  · rw [d2, a2, t7]
    rfl
  · unfold kn
    rw [iA_c (ee 55 (by omega)), t9 _ (keyF_lt hf hy hw)]
    show chase _ _ _ _ (500 + 1) (-1) = _
    unfold chase
    rw [if_pos rfl]
    rfl
end REST

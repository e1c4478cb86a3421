/-! ===== the law's days: works done ===== -/
section DONES
variable {K n : Nat} {h g : mm_H}
theorem BA.day {n0 p N s0 t d : Nat} {L : List Stm} {xs : Nat → Int32} (b : BA h n0 p L N xs s0 t) (hn0 : 159 ≤ n0) (hn : 159 ≤ n) (h1 : t < d) (h2 : d ≤ 1499) : ∃ g, q_X10_day K h n 48 (ni d) = some (1, g) ∧ BA g n0 p L N xs s0 d ∧ KE 49 49 h g := by
  obtain ⟨b1, b2, b3, ⟨f, b4, b4'⟩, b5, b6, b7, b8, b9, b0⟩ := b
  obtain ⟨g, e, c, j, ke, q1, q2⟩ := r_day (K := K) b1 hn b2 b0 h1 h2
  refine ⟨g, e, ⟨c, j, b3.lo (Nat.le_refl _) (fun a q => ke a (by omega)), ⟨f, (ke 1 (by omega)).trans b4, b4'⟩, q1.trans b5, (ke 0 (by omega)).trans b6, ?_, ?_, (fI_c (ke 61 (by omega)) 5).trans b9, q2⟩, ke⟩
  · rw [iA_c (ke 50 (by omega))]; exact b7
  · rw [iA_c (ke 50 (by omega))]; exact b8
variable {l2 l3 l4 l5 l6 l7 l8 l9 l10 l11 l12 l13 l14 l15 l16 l17 : Int32} {l19 : Int64} {a21 a22 a23 a24 : Nat}
theorem dD_eq {x : Nat → Int32} {e : Int32} {m w : Nat} : dD x e (m + 1) w = if w = m ∧ dnB x m = true then ni (wyN x m) else dD x e m w := by
  unfold dD
  by_cases q : w = m
  · subst q
    by_cases z : dnB x w = true
    · rw [if_pos ⟨by omega, z⟩, if_pos ⟨rfl, z⟩]
    · rw [if_neg (fun v => z v.2), if_neg (fun v => z v.2), if_neg (fun v => z v.2)]
  · rw [if_neg (c := w = m ∧ _) (fun v => q v.1)]
    by_cases z : w < m ∧ dnB x w = true
    · rw [if_pos z, if_pos ⟨by omega, z.2⟩]
    · rw [if_neg z, if_neg (fun v => z ⟨by omega, v.2⟩)]
theorem lp_959 {n0 p N s0 M : Nat} {L : List Stm} {xs : Nat → Int32} (hN : N ≤ 260) (hn0 : 159 ≤ n0) (hM : M ≤ 3) {a25 a26 a29 z : Nat} (ha : n0 ≤ z) (han : z < n) : ∀ (q w k : Nat) (h : mm_H) (f7 : Nat → Int32), w + q = M → q < k → BA h n0 p L N xs s0 (tdN (cx N xs) w) → WKp h (cx N xs) M (dD (cx N xs) (-1) w) → IR h z f7 → (∀ i, i < M → f7 i = dD (cx N xs) 9999 w i) →
    ∃ g, lp_L_law_959 K n 0 48 l2 l3 l4 l5 l6 l7 l8 l9 l10 l11 l12 l13 l14 l15 l16 l17 l19 a21 a22 a23 a24 a25 a26 z (ni M) a29 k (ni w) h = some g ∧ BA g n0 p L N xs s0 (tdN (cx N xs) M) ∧ WKp g (cx N xs) M (dD (cx N xs) (-1) M) ∧ (∃ f7, IR g z f7 ∧ ∀ i, i < M → f7 i = dD (cx N xs) 9999 M i) ∧ ∀ a, a ≠ 49 → ¬ (56 ≤ a ∧ a ≤ 60) → a ≠ z → g a = h a := by
  intro q
  induction q with
  | zero =>
    intro w k h f7 hw hk b kn I hf
    obtain ⟨k, rfl⟩ : ∃ z, k = z + 1 := ⟨k - 1, by omega⟩
    obtain rfl : w = M := by omega
    unfold lp_L_law_959
    exact iteY ((ni_le (by omega) (by omega)).mpr (Nat.le_refl w)) ⟨h, rfl, b, kn, ⟨f7, I, hf⟩, fun _ _ _ _ => rfl⟩
  | succ q ih =>
    intro w k h f7 hw hk b kn I hf
    obtain ⟨k, rfl⟩ : ∃ z, k = z + 1 := ⟨k - 1, by omega⟩
    unfold lp_L_law_959
    have S := b.2.2.2.2.2.1
    have ht := td_le (cx N xs) w
    have hw5 := wy_le (cx N xs) w
    have c1 : (cx N xs (15 + w) >>> (15 &&& 31)) &&& (511 : Int32) = ni (wyN (cx N xs) w) := (bt_ok _ (M := 511) (by omega)).1
    have ec : q_L_cell K h n (some 0) ((15 : Int32) + ni w) = some (cx N xs (15 + w)) := by rw [show (15 : Int32) = ni 15 from rfl, ni_add]; exact cell_ok (by omega) S hN (by omega)
    refine iteN (fun v => by have := (ni_le (by omega) (by omega)).mp v; omega) ?_
    refine bindE ec ?_
    rw [c1]
    refine bindE rfl ?_
    refine bindE (gq_48 b.1 (by omega)) ?_
    refine bindE ((r_count b.1 (by omega)).trans (congrArg some b.2.2.2.2.2.2.2.2.2)) ?_
    have skip : dnB (cx N xs) w = false → tdN (cx N xs) (w + 1) = tdN (cx N xs) w → ∃ g, lp_L_law_959 K n 0 48 l2 l3 l4 l5 l6 l7 l8 l9 l10 l11 l12 l13 l14 l15 l16 l17 l19 a21 a22 a23 a24 a25 a26 z (ni M) a29 k (ni (w + 1)) h = some g ∧ BA g n0 p L N xs s0 (tdN (cx N xs) M) ∧ WKp g (cx N xs) M (dD (cx N xs) (-1) M) ∧ (∃ f7, IR g z f7 ∧ ∀ i, i < M → f7 i = dD (cx N xs) 9999 M i) ∧ ∀ a, a ≠ 49 → ¬ (56 ≤ a ∧ a ≤ 60) → a ≠ z → g a = h a := by
      intro d1 d2
      have nd : ∀ i, ¬ (i = w ∧ dnB (cx N xs) w = true) := fun i v => by rw [d1] at v; exact absurd v.2 (by decide)
      refine ih (w + 1) k h f7 (by omega) (by omega) (by rw [d2]; exact b) ⟨kn.1, fun i hi => ?_⟩ I (fun i hi => ?_)
      · rw [dD_eq, if_neg (nd i)]
        exact kn.2 i hi
      · rw [dD_eq, if_neg (nd i)]
        exact hf i hi
    by_cases v1 : wyN (cx N xs) w ≤ tdN (cx N xs) w
    · refine bindE (w := h) (if_pos ((ni_le (by omega) (by omega)).mpr v1)) ?_
      rw [ni_1]
      exact skip (by unfold dnB; rw [decide_eq_true v1]; rfl) (by show (if _ then _ else _) = _; rw [if_pos v1])
    · have v1' : ¬ ni (wyN (cx N xs) w) ≤ ni (tdN (cx N xs) w) := fun e => v1 ((ni_le (by omega) (by omega)).mp e)
      by_cases v2 : (cx N xs (15 + w) >>> (24 &&& 31)) &&& (3 : Int32) = 0
      · refine bindE (w := h) ?_ ?_
        · rw [if_neg v1', ec, Option.bind_some, if_pos v2]
        · rw [ni_1]
          exact skip (by unfold dnB; rw [decide_eq_true v2]; simp) (by show (if _ then _ else if _ then _ else _) = _; rw [if_neg v1, if_pos v2])
      · have dn : dnB (cx N xs) w = true := by unfold dnB; rw [decide_eq_false v1, decide_eq_false v2]; rfl
        have td : tdN (cx N xs) (w + 1) = wyN (cx N xs) w := by show (if _ then _ else if _ then _ else _) = _; rw [if_neg v1, if_neg v2]
        obtain ⟨g1, x1, b1, q1⟩ := b.day (K := K) (n := n) (d := wyN (cx N xs) w) hn0 (by omega) (by omega) (by omega)
        have k1 := kn.c (g := g1) (fun a q _ => q1 a (by omega))
        have d60 : iA g1 60 w = -1 := by
          rw [(k1.2 w (by omega)).2.2.2]
          unfold dD
          rw [if_neg (fun v => absurd v.1 (by omega))]
        obtain ⟨g2, x2, c2, j2, q2, y1, y2, y3, y4, y5⟩ := r_done (K := K) (n := n) b1.1 (by omega) b1.2.1 k1.1 (by omega) (w := w) (by omega) d60
        have b2 : BA g2 n0 p L N xs s0 (wyN (cx N xs) w) := b1.c c2 j2 (fun a ha => q2 a (by omega)) hn0
        have t1 : fI g1 49 6 = ni (wyN (cx N xs) w) := b1.2.2.2.2.2.2.2.2.2
        have x3 := r_again (K := K) (n := n) c2 (by omega) j2 y1 (by omega) (w := w) (t := wyN (cx N xs) w) (by omega) (by omega) (by rw [y5, upd_s, t1])
        have I2 : IR g2 z f7 := I.c ((q2 z (by omega)).trans (q1 z (by omega)))
        refine bindE (w := mm_si g2 z w (ni (wyN (cx N xs) w))) ?_ ?_
        · rw [if_neg v1', ec, Option.bind_some, if_neg v2, gq_48 b.1 (by omega), Option.bind_some, x1, Option.bind_some]
          show (if (1 : Int32) = 0 then none else (ckq g1 n 48 9).bind _) = _
          rw [if_neg (by decide), gq_48 b1.1 (by omega), Option.bind_some, x2, Option.bind_some]
          show (if (1 : Int32) = 0 then none else (ckq g2 n 48 9).bind _) = _
          rw [if_neg (by decide), gq_48 b2.1 (by omega), Option.bind_some, x3, Option.bind_some]
          show (if ¬ ((0 : Int32) = 0) then none else (stI g2 n z (ni w) _).bind _) = _
          rw [if_neg (by decide), I2.st (by omega) (by omega) (by omega)]
          rfl
        · obtain ⟨g, e, r1, r2, r3, r9⟩ := ih (w + 1) k (mm_si g2 z w (ni (wyN (cx N xs) w))) (upd f7 w (ni (wyN (cx N xs) w))) (by omega) (by omega) (by rw [td]; exact b2.own hn0 (fun a q => mm_si_n (by omega))) (WKp.c (h := g2) ⟨y1, fun i hi => by
            rw [y2, y3, y4, y5, dD_eq]
            obtain ⟨o1, o2, o3, o4⟩ := k1.2 i hi
            by_cases v : i = w
            · subst v
              rw [upd_s, if_pos ⟨rfl, dn⟩, t1]
              exact ⟨o1, o2, o3, rfl⟩
            · rw [upd_n v, if_neg (fun e => v e.1)]
              exact ⟨o1, o2, o3, o4⟩⟩ (fun a _ q => mm_si_n (by omega))) (I2.si w (ni (wyN (cx N xs) w))) (fun i hi => by
            rw [dD_eq]
            by_cases v : i = w
            · subst v
              rw [upd_s, if_pos ⟨rfl, dn⟩]
            · rw [upd_n v, if_neg (fun e => v e.1)]
              exact hf i hi)
          rw [ni_1]
          exact ⟨g, e, r1, r2, r3, fun a h1 h2 h3 => (r9 a h1 h2 h3).trans ((mm_si_n h3).trans ((q2 a (by omega)).trans (q1 a (by omega))))⟩
end DONES

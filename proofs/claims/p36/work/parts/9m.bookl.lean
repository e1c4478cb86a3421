/-! ===== the law's own book: its loops ===== -/
section BOOKL
variable {K n : Nat} {H : mm_H} {x : Nat → Int32} {M s0 t : Nat} {P : Nat → Nat} {le ti : Bool}
variable {l2 l3 l4 l5 l6 l7 l8 l9 l10 l11 l12 l13 l14 l15 l16 l17 : Int32}
/-- the law's own arrays -/
def OA (h : mm_H) (z M : Nat) (x : Nat → Int32) : Prop := (∃ f1 f2 f3 f4, IR h z f1 ∧ IR h (z + 1) f2 ∧ IR h (z + 2) f3 ∧ IR h (z + 3) f4 ∧ YR x 5 f1 f2 f3 f4) ∧ (∃ f5 f6 f7, IR h (z + 4) f5 ∧ IR h (z + 5) f6 ∧ IR h (z + 6) f7 ∧ WR x M f5 f6 f7 (dD x 9999 M)) ∧ ∃ f9, IR h (z + 7) f9 ∧ ∀ y, y < 5 → f9 y = ni (lgN x y 2)
theorem OA.c {h g : mm_H} {z : Nat} (o : OA h z M x) (e : ∀ a, z ≤ a → a < z + 8 → g a = h a) : OA g z M x := by
  obtain ⟨⟨f1, f2, f3, f4, a1, a2, a3, a4, a5⟩, ⟨f5, f6, f7, b1, b2, b3, b4⟩, f9, c1, c2⟩ := o
  exact ⟨⟨f1, f2, f3, f4, a1.c (e _ (by omega) (by omega)), a2.c (e _ (by omega) (by omega)), a3.c (e _ (by omega) (by omega)), a4.c (e _ (by omega) (by omega)), a5⟩, ⟨f5, f6, f7, b1.c (e _ (by omega) (by omega)), b2.c (e _ (by omega) (by omega)), b3.c (e _ (by omega) (by omega)), b4⟩, f9, c1.c (e _ (by omega) (by omega)), c2⟩
/-- loop: what is left of each work's coins, at first -/
theorem lp_1076 {z : Nat} {l30 : Int32} {l31 : Int64} (R : RGp H x M s0 t) (hz : 159 ≤ z) (han : z + 9 ≤ n) : ∀ (q w k : Nat) (h : mm_H) (fl : Nat → Int64), w + q = M → q < k → OA h z M x → JRn h (z + 8) 64 fl → (∀ i, i < w → fl i = (iA H 58 i).toInt64) →
    ∃ g, lp_L_law_1076 K n 48 l2 l3 l4 l5 l6 l7 l8 l9 l10 l11 l12 l13 l14 l15 l16 l17 z (z + 1) (z + 2) (z + 3) (z + 4) (z + 5) (z + 6) (ni M) (z + 7) l30 l31 (z + 8) k (ni w) h = some g ∧ OA g z M x ∧ (∃ fl, JRn g (z + 8) 64 fl ∧ ∀ i, i < M → fl i = (iA H 58 i).toInt64) ∧ ∀ a, a ≠ z + 8 → g a = h a := by
  obtain ⟨-, -, -, -, -, wk, -, -, m3, -⟩ := R
  intro q
  induction q with
  | zero =>
    intro w k h fl hw hk o J hf
    obtain ⟨k, rfl⟩ : ∃ z, k = z + 1 := ⟨k - 1, by omega⟩
    obtain rfl : w = M := by omega
    unfold lp_L_law_1076
    exact iteY ((ni_le (by omega) (by omega)).mpr (Nat.le_refl w)) ⟨h, rfl, o, ⟨fl, J, hf⟩, fun _ _ => rfl⟩
  | succ q ih =>
    intro w k h fl hw hk o J hf
    obtain ⟨k, rfl⟩ : ∃ z, k = z + 1 := ⟨k - 1, by omega⟩
    unfold lp_L_law_1076
    obtain ⟨-, ⟨f5, f6, f7, b1, b2, b3, b4⟩, -⟩ := id o
    refine iteN (fun v => by have := (ni_le (by omega) (by omega)).mp v; omega) ?_
    refine bindE (b1.ld (i := w) (by omega) (by omega)) ?_
    refine bindE (J.st (i := w) (by omega) (by omega) (by omega) (by omega) _) ?_
    obtain ⟨g, e, r1, r2, r3⟩ := ih (w + 1) k _ _ (by omega) (by omega) (o.c (fun a _ q => mm_sj_n (by omega))) (J.sj w (Int32.toInt64 (f5 w))) (fun i hi => by
      unfold vp_updL
      by_cases v : i = w
      · subst v
        rw [if_pos rfl, (b4 i (by omega)).1, (wk.2 i (by omega)).2.1]
      · rw [if_neg v]
        exact hf i (by omega))
    rw [ni_1]
    exact ⟨g, e, r1, r2, fun a ha => (r3 a ha).trans (mm_sj_n ha)⟩
theorem jm_eq (a b : Int64) : (if lg_cmp b a ≤ 0 then b else a) = j_min a b := by
  unfold j_min
  simp only [lg_cmp_le]
  by_cases q : b < a
  · rw [if_pos (Int64.le_of_lt q), if_pos q]
  · rw [if_neg q]
    by_cases r : b ≤ a
    · rw [if_pos r]
      exact Int64.le_antisymm r (Int64.not_lt.mp q)
    · rw [if_neg r]
/-- loop: works due, coins taken back -/
theorem lp_1157 {z y : Nat} {l30 : Int32} {l31 l34 l36 l38 l40 l43 l45 : Int64} (R : RGp H x M s0 t) (h5 : l5 = ni (P 5)) (hy : y < 5) (hz : 159 ≤ z) (han : z + 9 ≤ n) : ∀ (q w k : Nat) (h : mm_H) (fl : Nat → Int64), w + q = M → q < k → OA h z M x → JRn h (z + 8) 64 fl → (∀ i, i < M → fl i = if i < w then rmL H (LL P le ti) i (y + 1) else rmL H (LL P le ti) i y) →
    ∃ r : Int64 × Int64 × mm_H, lp_L_law_1157 K n 48 l2 l3 l4 l5 l6 l7 l8 l9 l10 l11 l12 l13 l14 l15 l16 l17 z (z + 1) (z + 2) (z + 3) (z + 4) (z + 5) (z + 6) (ni M) (z + 7) l30 l31 (z + 8) l34 l36 l38 l40 (ni y) l43 l45 k (duS H 0 y w) (tbS H 0 (LL P le ti) y w) (ni w) h = some r ∧ r.1 = duS H 0 y M ∧ r.2.1 = tbS H 0 (LL P le ti) y M ∧ OA r.2.2 z M x ∧ (∃ fl, JRn r.2.2 (z + 8) 64 fl ∧ ∀ i, i < M → fl i = rmL H (LL P le ti) i (y + 1)) ∧ ∀ a, a ≠ z + 8 → r.2.2 a = h a := by
  obtain ⟨-, -, -, -, -, wk, -, -, m3, -⟩ := id R
  intro q
  induction q with
  | zero =>
    intro w k h fl hw hk o J hf
    obtain ⟨k, rfl⟩ : ∃ z, k = z + 1 := ⟨k - 1, by omega⟩
    obtain rfl : w = M := by omega
    unfold lp_L_law_1157
    exact iteY ((ni_le (by omega) (by omega)).mpr (Nat.le_refl w)) ⟨(_, _, _), rfl, rfl, rfl, o, ⟨fl, J, fun i hi => by rw [hf i hi, if_pos hi]⟩, fun _ _ => rfl⟩
  | succ q ih =>
    intro w k h fl hw hk o J hf
    obtain ⟨k, rfl⟩ : ∃ z, k = z + 1 := ⟨k - 1, by omega⟩
    unfold lp_L_law_1157
    obtain ⟨-, ⟨f5, f6, f7, b1, b2, b3, b4⟩, -⟩ := id o
    obtain ⟨c5, c6, c7⟩ := b4 w (by omega)
    obtain ⟨k1, k2, k3, k4⟩ := wk.2 w (by omega)
    have hwd := wd_le x w
    have ld5 := (b1.ld (n := n) (i := w) (by omega) (by omega)).trans (congrArg some c5)
    have ld6 := (b2.ld (n := n) (i := w) (by omega) (by omega)).trans (congrArg some c6)
    have ld7 := (b3.ld (n := n) (i := w) (by omega) (by omega)).trans (congrArg some c7)
    have fw : fl w = rmL H (LL P le ti) w y := by rw [hf w (by omega), if_neg (Nat.lt_irrefl w)]
    have ldL : ldJ h n (z + 8) (ni w) = some (rmL H (LL P le ti) w y) := (J.ld (by omega) (by omega) (by omega) (by omega)).trans (congrArg some fw)
    refine iteN (fun v => by have := (ni_le (by omega) (by omega)).mp v; omega) ?_
    refine bindE ld6 ?_
    refine bindE (w := duS H 0 y (w + 1)) ?_ ?_
    · show (if ni (wdN x w) = ni y then _ else _) = some (if iA H 57 w = ni 0 ∧ iA H 59 w = ni y then duS H 0 y w + (iA H 58 w).toInt64 else duS H 0 y w)
      rw [k1, k2, k3]
      by_cases v : ni (wdN x w) = ni y
      · rw [if_pos v, if_pos ⟨rfl, v⟩, ld5]
        rfl
      · rw [if_neg v, if_neg (fun e => v e.2)]
    refine bindE ld6 ?_
    have lq := lt_eq R hy (w := w) (by omega)
    by_cases lt : ltB H 0 y w = true
    · obtain ⟨v1, v2⟩ := lq.mp lt
      have tw := tbW_eq R (Ls := LL P le ti) hy (by omega) lt
      have ts : tbS H 0 (LL P le ti) y (w + 1) = tbS H 0 (LL P le ti) y w + tbW H 0 (LL P le ti) y w := if_pos lt
      have rs : rmL H (LL P le ti) w (y + 1) = rmL H (LL P le ti) w y - tbW H 0 (LL P le ti) y w := by
        rw [tw]
        exact if_pos lt
      have bv : (if ni y ≤ 3 then some ((Int32.toInt64 (ni (wcN x w)) * Int32.toInt64 l5) / 100) else some 0) = some ((iA H 58 w).toInt64 * bkS H 0 (LL P le ti) y / 100) := by
        rw [bk_eq hy, k2, h5]
        have e3 : (ni y ≤ 3) ↔ (y ≤ 3) := ni_le (b := 3) (by omega) (by omega)
        by_cases u : y ≤ 3
        · rw [if_pos u, if_pos (e3.mpr u)]
        · rw [if_neg u, if_neg (fun v => u (e3.mp v)), Int64.mul_zero]
          rfl
      refine bindE (w := (tbS H 0 (LL P le ti) y (w + 1), mm_sj h (z + 8) w (rmL H (LL P le ti) w (y + 1)))) ?_ ?_
      · rw [if_neg v1, ld7, Option.bind_some, show (100 : Int32) * ni y = ni (100 * y) from ni_mul 100 y, if_pos v2, ld5]
        show ((if ni y ≤ 3 then some ((Int32.toInt64 (ni (wcN x w)) * Int32.toInt64 l5) / 100) else some 0) : Option Int64).bind _ = _
        rw [bv, Option.bind_some, ldL, Option.bind_some, Option.bind_some, iteV, jm_eq, ← tw, Option.bind_some, Option.bind_some, J.st (i := w) (by omega) (by omega) (by omega) (by omega), Option.bind_some, Option.bind_some, ts, rs]
      · obtain ⟨r, e, r1, r2, r3, r4, r5⟩ := ih (w + 1) k _ _ (by omega) (by omega) (o.c (fun a _ q => mm_sj_n (by omega))) (J.sj w (rmL H (LL P le ti) w (y + 1))) (fun i hi => by
          unfold vp_updL
          by_cases v : i = w
          · subst v
            rw [if_pos rfl, if_pos (by omega)]
          · rw [if_neg v, hf i hi]
            by_cases u : i < w
            · rw [if_pos u, if_pos (by omega)]
            · rw [if_neg u, if_neg (by omega)])
        rw [ni_1]
        exact ⟨r, e, r1, r2, r3, r4, fun a ha => (r5 a ha).trans (mm_sj_n ha)⟩
    · have ts : tbS H 0 (LL P le ti) y (w + 1) = tbS H 0 (LL P le ti) y w := if_neg lt
      have rs : rmL H (LL P le ti) w (y + 1) = rmL H (LL P le ti) w y := if_neg lt
      refine bindE (w := (tbS H 0 (LL P le ti) y (w + 1), h)) ?_ ?_
      · by_cases v1 : ni y ≤ ni (wdN x w)
        · rw [if_pos v1, ts]
        · have v2 : ¬ ni (100 * y) ≤ dD x 9999 M w := fun e => lt (lq.mpr ⟨v1, e⟩)
          rw [if_neg v1, ld7, Option.bind_some, show (100 : Int32) * ni y = ni (100 * y) from ni_mul 100 y, if_neg v2, ts]
      · obtain ⟨r, e, r1, r2, r3, r4, r5⟩ := ih (w + 1) k h fl (by omega) (by omega) o J (fun i hi => by
          rw [hf i hi]
          by_cases u : i < w
          · rw [if_pos u, if_pos (by omega)]
          · rw [if_neg u]
            by_cases v : i = w
            · subst v
              rw [if_pos (by omega), rs]
            · rw [if_neg (by omega)])
        rw [ni_1]
        exact ⟨r, e, r1, r2, r3, r4, r5⟩
/-- loop: coins of the works done in the year -/
theorem lp_2036 {h : mm_H} {z y : Nat} {l30 : Int32} {l34 l36 l38 l40 : Int64} (R : RGp H x M s0 t) (hy : y < 5) (hz : 159 ≤ z) (han : z + 9 ≤ n) (o : OA h z M x) (base : Int64) : ∀ (q w k : Nat), w + q = M → q < k →
    lp_L_law_2036 K h n 48 l2 l3 l4 l5 l6 l7 l8 l9 l10 l11 l12 l13 l14 l15 l16 l17 z (z + 1) (z + 2) (z + 3) (z + 4) (z + 5) (z + 6) (ni M) (z + 7) l30 (z + 8) l34 l36 l38 l40 (ni y) k (base + cdS H 0 y w) (ni w) = some (base + cdS H 0 y M) := by
  obtain ⟨-, -, -, -, -, wk, -, -, m3, -⟩ := id R
  intro q
  induction q with
  | zero =>
    intro w k hw hk
    obtain ⟨k, rfl⟩ : ∃ z, k = z + 1 := ⟨k - 1, by omega⟩
    obtain rfl : w = M := by omega
    unfold lp_L_law_2036
    rw [if_pos ((ni_le (by omega) (by omega)).mpr (Nat.le_refl w))]
  | succ q ih =>
    intro w k hw hk
    obtain ⟨k, rfl⟩ : ∃ z, k = z + 1 := ⟨k - 1, by omega⟩
    unfold lp_L_law_2036
    obtain ⟨-, ⟨f5, f6, f7, b1, b2, b3, b4⟩, -⟩ := id o
    obtain ⟨c5, c6, c7⟩ := b4 w (by omega)
    obtain ⟨k1, k2, k3, k4⟩ := wk.2 w (by omega)
    have ld5 := (b1.ld (n := n) (i := w) (by omega) (by omega)).trans (congrArg some c5)
    have ld7 := (b3.ld (n := n) (i := w) (by omega) (by omega)).trans (congrArg some c7)
    rw [if_neg (fun v => by have := (ni_le (by omega) (by omega)).mp v; omega), ld7, Option.bind_some]
    refine bindS (w := base + cdS H 0 y (w + 1)) ?_ ?_
    · have ce := cd_eq R hy (w := w) (by omega)
      show _ = some (base + if cdB H 0 y w = true then cdS H 0 y w + (iA H 58 w).toInt64 else cdS H 0 y w)
      by_cases v : dD x 9999 M w / 100 = ni y
      · rw [if_pos v, if_pos (ce.mpr v), ld5, Option.bind_some, k2, Option.bind_some, Int64.add_assoc]
      · rw [if_neg v, if_neg (fun e => v (ce.mp e))]
    · rw [ni_1]
      exact ih (w + 1) k (by omega) (by omega)
end BOOKL

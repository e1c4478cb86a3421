/-! ===== the two calls that read, with their room ===== -/
section ROOMS
variable {K n : Nat} {h : mm_H}
def pot (h : mm_H) : Nat := 571 * min 30 (fI h 48 5).toNatClampNeg
theorem bud_ok {a b : Nat} (q : b ≤ a) : bud a b = some (a - b) := if_pos q
theorem of_ni {x : Int32} {T : Nat} (hT : T < 2147483648) (h0 : 0 ≤ x) (h1 : x ≤ ni T) : ∃ N : Nat, x = ni N ∧ N ≤ T := by
  have hx : ¬ x < 0 := Int32.not_lt.mpr h0
  obtain ⟨k, hk, rfl⟩ := ni_of hx
  exact ⟨k, rfl, (ni_le (by omega) hT).mp h1⟩
def LR (K : Nat) (h : mm_H) (n kc ks : Nat) (r : Option (mm_H × Nat × Nat × Nat)) : Prop := ∃ g m kc' ks', r = some (g, m, kc', ks') ∧ n ≤ m ∧ PS g ∧ JR g ∧ JN g ∧ JK g m ∧ (∀ a, a < 48 → g a = h a) ∧ kc ≤ kc' + 64 ∧ ks + pot g ≤ ks' + 12000 + pot h
theorem S_9 (hK : 7000 ≤ K) {l3 : Int32} {kc ks : Nat} {x : Nat → Int32} (c : PS h) (hn : 208 ≤ n) (T : TXT h) (j : JR h) (jn : JN h) (jk : JK h n) (sc : SCR (h 0) n l3 x) (hkc : 64 ≤ kc) (hks : 12000 + pot h ≤ ks) : LR K h n kc ks (st_law_9 K h n l3 kc ks) := by
  obtain ⟨s1, s2, -⟩ := sc h rfl
  obtain ⟨⟨T0, e5, hT0⟩, e26, -⟩ := id j.2.2.2.2.2.2
  obtain ⟨⟨m7, e7, hm7⟩, e24, -⟩ := id jn
  have ep : pot h = 571 * min 30 T0 := by unfold pot; rw [e5, ni_tn (by omega)]
  rw [ep] at hks
  have eM : lawM9 h n (x 1) (x 2) = if 0 ≤ x 1 ∧ x 1 ≤ ni T0 ∧ 0 ≤ x 2 ∧ x 2 ≤ 2 ∧ ni m7 < 8 then min 31 (T0 + 2) else 0 := by
    unfold lawM9
    rw [g_48_5 c hn, g_48_7 c hn, e5, e7]
    dsimp only
    rw [ni_tn (by omega)]
  by_cases q : 0 ≤ x 1 ∧ x 1 ≤ ni T0 ∧ 0 ≤ x 2 ∧ x 2 ≤ 2 ∧ ni m7 < 8
  · rw [if_pos q] at eM
    obtain ⟨q1, q2, q3, q4, q5⟩ := q
    obtain ⟨N, eN, hN⟩ := of_ni (by omega) q1 q2
    obtain ⟨R, eR, hR⟩ := of_ni (T := 2) (by omega) q3 q4
    have hm8 : m7 < 8 := (ni_lt (b := 8) (by omega) (by omega)).mp q5
    obtain ⟨v, g, m, w, f1, f2, hnm, cg, cw, jw, jnw, jkw, o, w5⟩ := z_rules9 hK c hn T j jn jk e5 hT0 hN hR e7 hm8 (M := min 31 (T0 + 2)) (by omega)
    obtain ⟨t1, t2, -⟩ := SCR_n (m := m) hn (by omega) sc g ((o 0 (by omega)).1)
    refine ⟨w, m, kc - (2 * min 31 (T0 + 2) + 2), ks - (911 * min 31 (T0 + 2) + 304), ?_, hnm, cw, jw, jnw, jkw, fun a ha => (o a ha).2, by omega, ?_⟩
    · unfold st_law_9
      rw [s1, Option.bind_some, s2, Option.bind_some, gq_48 c hn, Option.bind_some, eM, bud_ok (by omega), Option.bind_some, bud_ok (by omega), Option.bind_some, eN, eR, f1, Option.bind_some]
      dsimp only
      rw [t1, Option.bind_some, t2, Option.bind_some, gq_159 cg (by omega), Option.bind_some, eN, eR, f2, Option.bind_some, if_pos rfl]
    · have e0 : pot w = 0 := by unfold pot; rw [w5]; rfl
      rw [e0, ep]
      omega
  · rw [if_neg q] at eM
    have fin : ∀ v : Int32, q_X10_rules K 0 h n 48 (x 1) (x 2) = some (v, h, n) → q_X11_rules K h n 159 (x 1) (x 2) = some (v, h) → LR K h n kc ks (st_law_9 K h n l3 kc ks) := fun v k1 k2 => by
      refine ⟨h, n, kc - (2 * 0 + 2), ks - (911 * 0 + 304), ?_, Nat.le_refl _, c, j, jn, jk, fun _ _ => rfl, by omega, by omega⟩
      unfold st_law_9
      rw [s1, Option.bind_some, s2, Option.bind_some, gq_48 c hn, Option.bind_some, eM, bud_ok (by omega), Option.bind_some, bud_ok (by omega), Option.bind_some, k1, Option.bind_some]
      dsimp only
      rw [s1, Option.bind_some, s2, Option.bind_some, gq_159 c hn, Option.bind_some, k2, Option.bind_some, if_pos rfl]
    have m0 : ∀ v : Int32, (x 1 < 0 ∨ ni T0 < x 1) → q_X11_rules K h n 159 (x 1) (x 2) = some (-2, h) := fun v z => by
      unfold q_X11_rules
      rw [g_159_26 c hn, e26, e5, Option.bind_some, z_X11_isIn, Option.bind_some, if_pos]
      unfold mm_in
      by_cases z1 : x 1 < 0
      · rw [if_pos z1]
      · rw [if_neg z1, if_pos (z.resolve_left z1)]
    by_cases a1 : x 1 < 0
    · refine fin (-2) ?_ (m0 0 (Or.inl a1))
      unfold q_X10_rules
      rw [if_pos a1]
    by_cases a2 : ni T0 < x 1
    · refine fin (-2) ?_ (m0 0 (Or.inr a2))
      unfold q_X10_rules
      rw [if_neg a1, g_48_5 c hn, e5, Option.bind_some, if_pos a2]
    have i1 : mm_in (x 1) 0 (ni T0) = 1 := by
      unfold mm_in
      rw [if_neg a1, if_neg a2]
    by_cases a3 : mm_in (x 2) 0 2 = 0
    · refine fin (-2) ?_ ?_
      · unfold q_X10_rules
        rw [if_neg a1, g_48_5 c hn, e5, Option.bind_some, if_neg a2, z_X10_isReview, Option.bind_some, if_pos a3]
      · unfold q_X11_rules
        rw [g_159_26 c hn, e26, e5, Option.bind_some, z_X11_isIn, i1, Option.bind_some, if_neg (by decide), z_X11_isReview, Option.bind_some, if_pos a3]
    · have m8 : m7 = 8 := by
        refine Nat.le_antisymm hm7 (Nat.not_lt.mp fun z => q ⟨Int32.not_lt.mp a1, Int32.not_lt.mp a2, ?_, ?_, (ni_lt (b := 8) (by omega) (by omega)).mpr z⟩)
        · refine Int32.not_lt.mp fun y => a3 ?_
          unfold mm_in
          rw [if_pos y]
        · refine Int32.not_lt.mp fun y => a3 ?_
          unfold mm_in
          by_cases y0 : x 2 < 0
          · rw [if_pos y0]
          · rw [if_neg y0, if_pos y]
      subst m8
      refine fin (-3) ?_ ?_
      · unfold q_X10_rules
        rw [if_neg a1, g_48_5 c hn, e5, Option.bind_some, if_neg a2, z_X10_isReview, Option.bind_some, if_neg a3, g_48_7 c hn, e7, Option.bind_some, if_neg (by decide)]
      · unfold q_X11_rules
        rw [g_159_26 c hn, e26, e5, Option.bind_some, z_X11_isIn, i1, Option.bind_some, if_neg (by decide), z_X11_isReview, Option.bind_some, if_neg a3, g_159_24 c hn, e24, e7, Option.bind_some, if_pos (by decide)]
theorem S_10 (hK : 7000 ≤ K) {l3 : Int32} {kc ks : Nat} {x : Nat → Int32} (c : PS h) (hn : 208 ≤ n) (T : TXT h) (j : JR h) (jn : JN h) (jk : JK h n) (sc : SCR (h 0) n l3 x) (hkc : 64 ≤ kc) (hks : 12000 + pot h ≤ ks) : LR K h n kc ks (st_law_10 K h n l3 kc ks) := by
  obtain ⟨s1, -⟩ := sc h rfl
  obtain ⟨⟨T0, e5, hT0⟩, e26, -⟩ := id j.2.2.2.2.2.2
  obtain ⟨⟨m7, e7, hm7⟩, e24, -⟩ := id jn
  have ep : pot h = 571 * min 30 T0 := by unfold pot; rw [e5, ni_tn (by omega)]
  rw [ep] at hks
  have eM : lawM10 h n (x 1) = if 0 ≤ x 1 ∧ x 1 ≤ ni T0 then min 31 (T0 + 2) else 0 := by
    unfold lawM10
    rw [g_48_5 c hn, e5]
    dsimp only
    rw [ni_tn (by omega)]
  by_cases q : 0 ≤ x 1 ∧ x 1 ≤ ni T0
  · rw [if_pos q] at eM
    obtain ⟨N, eN, hN⟩ := of_ni (by omega) q.1 q.2
    obtain ⟨v, g, m, w, f1, f2, hnm, cg, cw, jw, jnw, jkw, o, w5⟩ := z_beside10 hK c hn T j jn jk e5 hT0 hN e7 hm7 (M := min 31 (T0 + 2)) (by omega)
    obtain ⟨t1, -⟩ := SCR_n (m := m) hn (by omega) sc g ((o 0 (by omega)).1)
    refine ⟨w, m, kc - (2 * min 31 (T0 + 2) + 2), ks - (911 * min 31 (T0 + 2) + 304), ?_, hnm, cw, jw, jnw, jkw, fun a ha => (o a ha).2, by omega, ?_⟩
    · unfold st_law_10
      rw [s1, Option.bind_some, gq_48 c hn, Option.bind_some, eM, bud_ok (by omega), Option.bind_some, bud_ok (by omega), Option.bind_some, eN, f1, Option.bind_some]
      dsimp only
      rw [t1, Option.bind_some, gq_159 cg (by omega), Option.bind_some, eN, f2, Option.bind_some, if_pos rfl]
    · have e0 : pot w = 0 := by unfold pot; rw [w5]; rfl
      rw [e0, ep]
      omega
  · rw [if_neg q] at eM
    have fin : ∀ v : Int32, q_X10_beside K 0 h n 48 (x 1) = some (v, h, n) → q_X11_beside K h n 159 (x 1) = some (v, h) → LR K h n kc ks (st_law_10 K h n l3 kc ks) := fun v k1 k2 => by
      refine ⟨h, n, kc - (2 * 0 + 2), ks - (911 * 0 + 304), ?_, Nat.le_refl _, c, j, jn, jk, fun _ _ => rfl, by omega, by omega⟩
      unfold st_law_10
      rw [s1, Option.bind_some, gq_48 c hn, Option.bind_some, eM, bud_ok (by omega), Option.bind_some, bud_ok (by omega), Option.bind_some, k1, Option.bind_some]
      dsimp only
      rw [s1, Option.bind_some, gq_159 c hn, Option.bind_some, k2, Option.bind_some, if_pos rfl]
    have m0 : (x 1 < 0 ∨ ni T0 < x 1) → q_X11_beside K h n 159 (x 1) = some (-2, h) := fun z => by
      unfold q_X11_beside
      rw [g_159_26 c hn, e26, e5, Option.bind_some, z_X11_isIn, Option.bind_some, if_pos]
      unfold mm_in
      by_cases z1 : x 1 < 0
      · rw [if_pos z1]
      · rw [if_neg z1, if_pos (z.resolve_left z1)]
    by_cases a1 : x 1 < 0
    · refine fin (-2) ?_ (m0 (Or.inl a1))
      unfold q_X10_beside
      rw [if_pos a1]
    · have a2 : ni T0 < x 1 := Int32.not_le.mp fun z => q ⟨Int32.not_lt.mp a1, z⟩
      refine fin (-2) ?_ (m0 (Or.inr a2))
      unfold q_X10_beside
      rw [if_neg a1, g_48_5 c hn, e5, Option.bind_some, if_neg (Int32.not_le.mpr a2)]
end ROOMS

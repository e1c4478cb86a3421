/-! ===== the law's own book: the questions ===== -/
section BOOKQ
variable {K n : Nat} {h H : mm_H} {x : Nat → Int32} {M s0 t : Nat} {P : Nat → Nat} {le ti : Bool}
variable {l2 l3 l4 l5 l6 l7 l8 l9 l10 l11 l12 l13 l14 l15 l16 l17 : Int32}
theorem AQ.up {n0 p : Nat} {L : List Stm} (A : AQ h n0 p L) (hn : n0 ≤ n) : AQ h n p L := ⟨A.1, A.2.1, A.2.2.1.lo hn (fun _ _ => rfl), A.2.2.2⟩
theorem AQ.own {g : mm_H} {n0 p : Nat} {L : List Stm} (A : AQ h n0 p L) (hn0 : 159 ≤ n0) (e : ∀ a, a < n0 → g a = h a) : AQ g n0 p L :=
  ⟨A.1.of (fun a s q => e a (by
    refine Nat.lt_of_not_le fun z => ?_
    rw [mm_sh_top (by omega)] at q
    cases q)), JR_0 (fun a ha => e a (by omega)) A.2.1, A.2.2.1.lo (Nat.le_refl _) (fun a q => e a (by omega)), A.2.2.2.1.c (fun a q => e a (by omega)), (fI_c (e 49 (by omega)) 5).trans A.2.2.2.2⟩
/-- while it asks: the class, the register as it was, the law's arrays -/
def QS (h H : mm_H) (n0 p : Nat) (L : List Stm) (z M : Nat) (x : Nat → Int32) : Prop := AQ h n0 p L ∧ (∀ a, a < 73 → h a = H a) ∧ OA h z M x
theorem QS.sw {g : mm_H} {n0 p z : Nat} {L : List Stm} (q : QS h H n0 p L z M x) (hn0 : 159 ≤ n0) (hz : n0 ≤ z) (c : PS g) (s : SW h g) : QS g H n0 p L z M x :=
  ⟨q.1.sw c s, fun a ha => (s.1 a (by omega)).trans (q.2.1 a ha), q.2.2.c (fun a h1 _ => s.1 a (by omega))⟩
theorem QS.own {g : mm_H} {n0 p z : Nat} {L : List Stm} (q : QS h H n0 p L z M x) (hn0 : 159 ≤ n0) (hz : n0 ≤ z) (e : ∀ a, a < z + 8 → g a = h a) : QS g H n0 p L z M x :=
  ⟨q.1.own hn0 (fun a ha => e a (by omega)), fun a ha => (e a (by omega)).trans (q.2.1 a ha), q.2.2.c (fun a _ h2 => e a h2)⟩
theorem lp_1418 {n0 p z y b : Nat} {L : List Stm} {l28 l30 : Int32} {l31 l38 l40 l43 l45 l53 : Int64} {l33 : Nat} {F : Nat → Int64} (hK : 3000 ≤ K) (hn0 : 159 ≤ n0) (hz : n0 ≤ z) (hzn : z + 9 ≤ n) (hb : z + 9 ≤ b) (hbn : b < n) (hy : y < 5) (ht : t ≤ 1499) (hF : ∀ i, i < 15 → F i = lnS H 2 0 (fun _ => L) (ni t) y i) : ∀ (q i k : Nat) (h : mm_H), i + q = 15 → q < k → QS h H n0 p L z M x → JRn h b 15 F →
    ∃ g, lp_L_law_1418 K n 48 l2 l3 l4 l5 l6 l7 l8 l9 l10 l11 l12 l13 l14 l15 l16 l17 z (z + 1) (z + 2) (z + 3) (z + 4) (z + 5) (z + 6) l28 (z + 7) (ni t) l31 l33 l38 l40 (ni y) l43 l45 l53 b k (ni i) h = some g ∧ QS g H n0 p L z M x ∧ ∀ a, 159 ≤ a → g a = h a := by
  intro q
  induction q with
  | zero =>
    intro i k h hi hk Q J
    obtain ⟨k, rfl⟩ : ∃ z, k = z + 1 := ⟨k - 1, by omega⟩
    obtain rfl : i = 15 := by omega
    unfold lp_L_law_1418
    exact iteY (by decide) ⟨h, rfl, Q, fun _ _ => rfl⟩
  | succ q ih =>
    intro i k h hi hk Q J
    obtain ⟨k, rfl⟩ : ∃ z, k = z + 1 := ⟨k - 1, by omega⟩
    unfold lp_L_law_1418
    obtain ⟨g1, e1, c1, w1⟩ := a_line (K := K) (n := n) hK (by omega) (Q.1.up (by omega)) Q.2.1 (f := 0) (y := y) (k := i) (d := t) (by omega) (by omega) (by omega) ht
    refine iteN (fun v => by have := (ni_le (a := 15) (by omega) (by omega)).mp v; omega) ?_
    refine bindE (gq_48 Q.1.1 (by omega)) ?_
    refine bindE e1 ?_
    have J1 : JRn g1 b 15 F := J.c (w1.1 b (by omega))
    refine bindE ((J1.ld (by omega) (by omega) (by omega) (by omega)).trans (congrArg some (hF i (by omega)))) ?_
    refine iteN (Classical.not_not.mpr ((lg_cmp_eq _ _).mpr rfl)) ?_
    obtain ⟨g, e, r1, r2⟩ := ih (i + 1) k g1 (by omega) (by omega) (Q.sw hn0 hz c1 w1) J1
    rw [ni_1]
    exact ⟨g, e, r1, fun a ha => (r2 a ha).trans (w1.1 a (by omega))⟩
theorem y_50 {y : Nat} (hy : y < 5) : y / 5 * 5 = 0 ∧ y - y / 5 * 5 + 1 = y + 1 := by omega
theorem b_bills {p : Nat} {L : List Stm} (hK : 3000 ≤ K) (hn : 159 ≤ n) (A : AQ h n p L) (e : ∀ a, a < 73 → h a = H a) {y : Nat} (hy : y < 5) (ht : t ≤ 1499) : ∃ g : mm_H, q_X10_bills K h n 48 0 (ni y) (ni t) 0 = some ((blP H 2 0 (fun _ => L) (ni t) 0 (y + 1)).1, g) ∧ PS g ∧ SW h g := by
  have r := a_bills (K := K) hK hn A e (f := 0) (y := y) (d := t) (by omega) (by omega) ht
  rw [(y_50 hy).2, (y_50 hy).1] at r
  exact r
theorem b_carried {p : Nat} {L : List Stm} (hK : 3000 ≤ K) (hn : 159 ≤ n) (A : AQ h n p L) (e : ∀ a, a < 73 → h a = H a) {y : Nat} (hy : y < 5) (ht : t ≤ 1499) : ∃ g : mm_H, q_X10_bills K h n 48 0 (ni y) (ni t) 1 = some ((blP H 2 0 (fun _ => L) (ni t) 0 (y + 1)).2, g) ∧ PS g ∧ SW h g := by
  have r := a_carried (K := K) hK hn A e (f := 0) (y := y) (d := t) (by omega) (by omega) ht
  rw [(y_50 hy).2, (y_50 hy).1] at r
  exact r
theorem b_home {p : Nat} {L : List Stm} (hK : 3000 ≤ K) (hn : 159 ≤ n) (A : AQ h n p L) (e : ∀ a, a < 73 → h a = H a) {y k : Nat} (hy : y < 5) (hk : k ≤ 3) (ht : t ≤ 1499) : ∃ g : mm_H, q_X10_home K h n 48 0 (ni y) (ni t) (ni k) = some (if 3 ≤ k then lfS H 0 y (ni t) (blP H 2 0 (fun _ => L) (ni t) 0 (y + 1)).1 3 else pdS H 0 y (ni t) (blP H 2 0 (fun _ => L) (ni t) 0 (y + 1)).1 k, g) ∧ PS g ∧ SW h g := by
  have r := a_home (K := K) hK hn A e (f := 0) (y := y) (k := k) (d := t) (by omega) (by omega) hk ht
  rw [(y_50 hy).2, (y_50 hy).1] at r
  exact r
theorem lp_1730 {n0 p z y b : Nat} {L : List Stm} {l28 l30 : Int32} {l31 l38 l40 l43 l45 l60 : Int64} {l33 : Nat} {F : Nat → Int64} (R : RGp H x M s0 t) (hK : 3000 ≤ K) (hn0 : 159 ≤ n0) (hz : n0 ≤ z) (hzn : z + 9 ≤ n) (hb : z + 9 ≤ b) (hbn : b < n) (hy : y < 5) (hF : ∀ i, i < 3 → F i = pdS H 0 y (ni t) (blP H 2 0 (fun _ => L) (ni t) 0 (y + 1)).1 i) : ∀ (q i k : Nat) (h : mm_H), i + q = 3 → q < k → QS h H n0 p L z M x → JRn h b 3 F →
    ∃ r : Int64 × mm_H, lp_L_law_1730 K n 48 l2 l3 l4 l5 l6 l7 l8 l9 l10 l11 l12 l13 l14 l15 l16 l17 z (z + 1) (z + 2) (z + 3) (z + 4) (z + 5) (z + 6) l28 (z + 7) (ni t) l31 l33 l38 l40 (ni y) l43 l45 l60 b k (lfS H 0 y (ni t) (blP H 2 0 (fun _ => L) (ni t) 0 (y + 1)).1 i) (ni i) h = some r ∧ r.1 = lfS H 0 y (ni t) (blP H 2 0 (fun _ => L) (ni t) 0 (y + 1)).1 3 ∧ QS r.2 H n0 p L z M x ∧ ∀ a, 159 ≤ a → r.2 a = h a := by
  intro q
  induction q with
  | zero =>
    intro i k h hi hk Q J
    obtain ⟨k, rfl⟩ : ∃ z, k = z + 1 := ⟨k - 1, by omega⟩
    obtain rfl : i = 3 := by omega
    unfold lp_L_law_1730
    exact iteY (by decide) ⟨(_, _), rfl, rfl, Q, fun _ _ => rfl⟩
  | succ q ih =>
    intro i k h hi hk Q J
    obtain ⟨k, rfl⟩ : ∃ z, k = z + 1 := ⟨k - 1, by omega⟩
    unfold lp_L_law_1730
    have ht : t ≤ 1499 := R.2.2.2.2.2.2.2.1
    obtain ⟨g1, e1, c1, w1⟩ := b_home (K := K) (n := n) hK (by omega) (Q.1.up (by omega)) Q.2.1 (y := y) (k := i) hy (by omega) ht
    rw [if_neg (by omega)] at e1
    refine iteN (fun v => by have := (ni_le (a := 3) (by omega) (by omega)).mp v; omega) ?_
    refine bindE (gq_48 Q.1.1 (by omega)) ?_
    refine bindE e1 ?_
    have J1 : JRn g1 b 3 F := J.c (w1.1 b (by omega))
    have Q1 := Q.sw hn0 hz c1 w1
    have ldF := (J1.ld (n := n) (i := i) (by omega) (by omega) (by omega) (by omega)).trans (congrArg some (hF i (by omega)))
    refine bindE ldF ?_
    refine iteN (Classical.not_not.mpr ((lg_cmp_eq _ _).mpr rfl)) ?_
    refine bindE ldF ?_
    obtain ⟨⟨f1, f2, f3, f4, i1, i2, i3, i4, i5⟩, -, -⟩ := id Q1.2.2
    refine bindE (w := ni (hvN x y i)) (by rw [show (8 : Int32) = ni 8 from rfl, ni_mul, ni_add]; exact (i4.ld (by omega) (by omega)).trans (congrArg some ((i5 y hy).2.2.2 i (by omega)))) ?_
    have hl : lfS H 0 y (ni t) (blP H 2 0 (fun _ => L) (ni t) 0 (y + 1)).1 i - pdS H 0 y (ni t) (blP H 2 0 (fun _ => L) (ni t) 0 (y + 1)).1 i * Int32.toInt64 (ni (hvN x y i)) = lfS H 0 y (ni t) (blP H 2 0 (fun _ => L) (ni t) 0 (y + 1)).1 (i + 1) := by
      show _ = lfS _ _ _ _ _ i - pdS _ _ _ _ _ i * (hmP H 0 y (ni t) i).toInt64
      rw [hm_eq R hy (by omega) (by omega)]
    refine bindE (congrArg some hl) ?_
    obtain ⟨r, e, r1, r2, r3⟩ := ih (i + 1) k g1 (by omega) (by omega) Q1 J1
    rw [ni_1]
    exact ⟨r, e, r1, r2, fun a ha => (r3 a ha).trans (w1.1 a (by omega))⟩
theorem st_ex {b N i : Nat} {F : Nat → Int64} (J : JRn h b N F) (hb : 48 ≤ b) (hbn : b < n) (hi : i < N) (hi2 : i < 2147483648) (v : Int64) : ∃ g, stJ h n b (ni i) v = some g ∧ JRn g b N (vp_updL F i v) ∧ ∀ a, a ≠ b → g a = h a :=
  ⟨_, J.st hb hbn hi hi2 v, J.sj i v, fun _ q => mm_sj_n q⟩
theorem fill15 {β : Type} {f : mm_H → Option β} {Q : β → Prop} {b : Nat} {F : Nat → Int64} {a0 a1 a2 a3 a4 a5 a6 a7 a8 a9 a10 a11 a12 a13 a14 : Int64} (J : JRn h b 15 F) (hb : 48 ≤ b) (hbn : b < n) (k : ∀ g F, JRn g b 15 F → (F 0 = a0 ∧ F 1 = a1 ∧ F 2 = a2 ∧ F 3 = a3 ∧ F 4 = a4 ∧ F 5 = a5 ∧ F 6 = a6 ∧ F 7 = a7 ∧ F 8 = a8 ∧ F 9 = a9 ∧ F 10 = a10 ∧ F 11 = a11 ∧ F 12 = a12 ∧ F 13 = a13 ∧ F 14 = a14) → (∀ a, a ≠ b → g a = h a) → ∃ r, f g = some r ∧ Q r) :
    ∃ r, ((stJ h n b 0 a0).bind fun h1 => (stJ h1 n b 1 a1).bind fun h2 => (stJ h2 n b 2 a2).bind fun h3 => (stJ h3 n b 3 a3).bind fun h4 => (stJ h4 n b 4 a4).bind fun h5 => (stJ h5 n b 5 a5).bind fun h6 => (stJ h6 n b 6 a6).bind fun h7 => (stJ h7 n b 7 a7).bind fun h8 => (stJ h8 n b 8 a8).bind fun h9 => (stJ h9 n b 9 a9).bind fun h10 => (stJ h10 n b 10 a10).bind fun h11 => (stJ h11 n b 11 a11).bind fun h12 => (stJ h12 n b 12 a12).bind fun h13 => (stJ h13 n b 13 a13).bind fun h14 => (stJ h14 n b 14 a14).bind f) = some r ∧ Q r := by
  obtain ⟨g0, e0, J0, q0⟩ := st_ex (n := n) J hb hbn (i := 0) (by omega) (by omega) a0
  obtain ⟨g1, e1, J1, q1⟩ := st_ex (n := n) J0 hb hbn (i := 1) (by omega) (by omega) a1
  obtain ⟨g2, e2, J2, q2⟩ := st_ex (n := n) J1 hb hbn (i := 2) (by omega) (by omega) a2
  obtain ⟨g3, e3, J3, q3⟩ := st_ex (n := n) J2 hb hbn (i := 3) (by omega) (by omega) a3
  obtain ⟨g4, e4, J4, q4⟩ := st_ex (n := n) J3 hb hbn (i := 4) (by omega) (by omega) a4
  obtain ⟨g5, e5, J5, q5⟩ := st_ex (n := n) J4 hb hbn (i := 5) (by omega) (by omega) a5
  obtain ⟨g6, e6, J6, q6⟩ := st_ex (n := n) J5 hb hbn (i := 6) (by omega) (by omega) a6
  obtain ⟨g7, e7, J7, q7⟩ := st_ex (n := n) J6 hb hbn (i := 7) (by omega) (by omega) a7
  obtain ⟨g8, e8, J8, q8⟩ := st_ex (n := n) J7 hb hbn (i := 8) (by omega) (by omega) a8
  obtain ⟨g9, e9, J9, q9⟩ := st_ex (n := n) J8 hb hbn (i := 9) (by omega) (by omega) a9
  obtain ⟨g10, e10, J10, q10⟩ := st_ex (n := n) J9 hb hbn (i := 10) (by omega) (by omega) a10
  obtain ⟨g11, e11, J11, q11⟩ := st_ex (n := n) J10 hb hbn (i := 11) (by omega) (by omega) a11
  obtain ⟨g12, e12, J12, q12⟩ := st_ex (n := n) J11 hb hbn (i := 12) (by omega) (by omega) a12
  obtain ⟨g13, e13, J13, q13⟩ := st_ex (n := n) J12 hb hbn (i := 13) (by omega) (by omega) a13
  obtain ⟨g14, e14, J14, q14⟩ := st_ex (n := n) J13 hb hbn (i := 14) (by omega) (by omega) a14
  refine bindE e0 (bindE e1 (bindE e2 (bindE e3 (bindE e4 (bindE e5 (bindE e6 (bindE e7 (bindE e8 (bindE e9 (bindE e10 (bindE e11 (bindE e12 (bindE e13 (bindE e14 (k g14 _ J14 ?_ ?_)))))))))))))))
  · simp [vp_updL]
  · intro a q
    rw [q14 a q, q13 a q, q12 a q, q11 a q, q10 a q, q9 a q, q8 a q, q7 a q, q6 a q, q5 a q, q4 a q, q3 a q, q2 a q, q1 a q, q0 a q]
theorem nsub64 {a b : Nat} (ha : a < 2147483648) (hb : b < 2147483648) : (ni a - ni b).toInt64 = (ni a).toInt64 - (ni b).toInt64 := by
  refine Int64.toInt_inj.mp ?_
  rw [Int32.toInt_toInt64, Int32.toInt_sub, ni_int ha, ni_int hb, Int64.toInt_sub, ni_nj ha, ni_nj hb, nj_int (by omega), nj_int (by omega)]
  rw [Int.bmod_eq_of_le (by omega) (by omega), Int.bmod_eq_of_le (by omega) (by omega)]
/-- what is over or under: the law's words -/
theorem ov_eq {a : Option Int32} {c : Int32} {u : Int64} (ha : a = some c) (hc : c = -1 ∨ ∃ k, k ≤ 1023 ∧ c = ni k) (h9 : l9 = ni (P 9)) (h10 : l10 = ni (P 10)) : ∃ v : Int64, (if (0 : Int32) ≤ c then a.bind fun v828 => some ((Int32.toInt64 v828) - u) else some 0) = some v ∧ v - (if lg_cmp v 0 ≤ 0 then (v * (Int32.toInt64 l10)) / 100 else (v * (Int32.toInt64 l9)) / 100) = if c = -1 then 0 else (c.toInt64 - u) - brS ((1, 0, 0), (P 9, P 10, 0, 0, 0), []) (c.toInt64 - u) := by
  subst ha h9 h10
  rcases hc with rfl | ⟨k, hk, rfl⟩
  · refine ⟨0, if_neg (by decide), ?_⟩
    rw [if_pos ((lg_cmp_le 0 0).mpr (Int64.le_refl 0)), if_pos rfl, Int64.zero_mul]
    rfl
  · refine ⟨(ni k).toInt64 - u, ?_, ?_⟩
    · rw [if_pos (show (0 : Int32) ≤ ni k from (ni_le (a := 0) (by omega) (by omega)).mpr (Nat.zero_le k))]
      rfl
    · rw [if_neg (ni_n1 (by omega))]
      unfold brS
      simp only [lg_cmp_le]
/-- what is earned or owed: the law's words -/
theorem er_eq {a : Option Int32} {c : Int32} (ha : a = some c) (hc : c = -1 ∨ ∃ k, k ≤ 127 ∧ c = ni k) (hP : ∀ j, P j ≤ 500) (hP12 : 1 ≤ P 12) (h11 : l11 = ni (P 11)) (h12 : l12 = ni (P 12)) (h13 : l13 = ni (P 13)) (h14 : l14 = ni (P 14)) (h15 : l15 = ni (P 15)) (h16 : l16 = if le = true then 1 else 0) :
    ((if c < 0 then some 0 else
      ((if l16 = 0 then a.bind fun v846 => some (Int32.toInt64 (v846 - l11)) else a.bind fun v848 => some (Int32.toInt64 (l11 - v848)) : Option (Int64))).bind fun y843 =>
      ((if 0 ≤ (lg_cmp y843 0) then some (y843) else some (-y843) : Option (Int64))).bind fun y851 =>
      (some (y851 - (Int32.toInt64 l14) : Int64)).bind fun x854 =>
      ((if 0 ≤ (lg_cmp x854 0) then some (x854) else some (0) : Option (Int64))).bind fun y857 =>
      if (Int32.toInt64 l12) = 0 then none else
      (some ((y857 / (Int32.toInt64 l12)) * (Int32.toInt64 l13) : Int64)).bind fun x861 =>
      ((if (lg_cmp x861 (Int32.toInt64 l15)) ≤ 0 then some (x861) else (some (Int32.toInt64 l15 : Int64)).bind fun x867 => some (x867) : Option (Int64))).bind fun y864 =>
      ((if 0 ≤ (lg_cmp y843 0) then some (y864) else some (-y864) : Option (Int64))).bind fun y870 =>
      some (y870) : Option (Int64))) = some (if c = -1 then 0 else erS ((2, 1, if le = true then 1 else 0), (P 11, P 12, P 13, P 14, P 15), []) c.toInt64) := by
  subst ha h11 h12 h13 h14 h15 h16
  rcases hc with rfl | ⟨k, hk, rfl⟩
  · rw [if_pos (by decide), if_pos rfl]
  · have p11 := hP 11
    have p12 := hP 12
    rw [if_neg (ni_pos (by omega)), if_neg (ni_n1 (by omega))]
    have n12 : ¬ Int32.toInt64 (ni (P 12)) = 0 := by
      rw [ni_nj (by omega)]
      intro e
      have := congrArg Int64.toInt e
      rw [nj_int (by omega)] at this
      have e0 : (0 : Int64).toInt = 0 := rfl
      omega
    have key : ∀ b : Int64, (((if 0 ≤ (lg_cmp b 0) then some (b) else some (-b) : Option (Int64))).bind fun y851 =>
      (some (y851 - (Int32.toInt64 (ni (P 14))) : Int64)).bind fun x854 =>
      ((if 0 ≤ (lg_cmp x854 0) then some (x854) else some (0) : Option (Int64))).bind fun y857 =>
      if (Int32.toInt64 (ni (P 12))) = 0 then none else
      (some ((y857 / (Int32.toInt64 (ni (P 12)))) * (Int32.toInt64 (ni (P 13))) : Int64)).bind fun x861 =>
      ((if (lg_cmp x861 (Int32.toInt64 (ni (P 15)))) ≤ 0 then some (x861) else (some (Int32.toInt64 (ni (P 15)) : Int64)).bind fun x867 => some (x867) : Option (Int64))).bind fun y864 =>
      ((if 0 ≤ (lg_cmp b 0) then some (y864) else some (-y864) : Option (Int64))).bind fun y870 =>
      some (y870)) = some (erB ((2, 1, if le = true then 1 else 0), (P 11, P 12, P 13, P 14, P 15), []) b) := by
      intro b
      simp only [iteV, Option.bind_some, if_neg n12, jm_eq]
      unfold erB absS j_max
      simp only [lg_cmp_ge]
      have m0 : ∀ z : Int64, (if 0 ≤ z then z else 0) = if z < 0 then 0 else z := fun z => by
        by_cases q : 0 ≤ z
        · rw [if_pos q, if_neg (Int64.not_lt.mpr q)]
        · rw [if_neg q, if_pos (Int64.not_le.mp q)]
      rw [m0]
    cases le
    · rw [if_pos (by rfl), Option.bind_some, nsub64 (by omega) (by omega), Option.bind_some, key]
      rfl
    · rw [if_neg (by decide), Option.bind_some, nsub64 (by omega) (by omega), Option.bind_some, key]
      rfl
/-- the bills of a year: the law's words -/
theorem bl_s {y : Nat} (d : Int32) : blP H 2 0 (LL P le ti) d 0 (y + 1) = (blV H 0 (LL P le ti) y y (blP H 2 0 (LL P le ti) d 0 y).1 (rvS H 2 0 (LL P le ti) d y 15 + (blP H 2 0 (LL P le ti) d 0 y).2), rvS H 2 0 (LL P le ti) d y 15 + (blP H 2 0 (LL P le ti) d 0 y).2 - blV H 0 (LL P le ti) y y (blP H 2 0 (LL P le ti) d 0 y).1 (rvS H 2 0 (LL P le ti) d y 15 + (blP H 2 0 (LL P le ti) d 0 y).2)) := by
  show (blV H 0 (LL P le ti) (0 + y) y _ (rvS H 2 0 (LL P le ti) d (0 + y) 15 + _), rvS H 2 0 (LL P le ti) d (0 + y) 15 + _ - blV H 0 (LL P le ti) (0 + y) y _ (rvS H 2 0 (LL P le ti) d (0 + y) 15 + _)) = _
  rw [Nat.zero_add]
theorem blv_eq {y : Nat} (hy : y < 5) (hP : ∀ j, P j ≤ 500) (h6 : l6 = ni (P 6)) (h17 : l17 = if ti = true then 1 else 0) (a w : Int64) :
    ((if ni y ≤ 0 then some (w) else
      if 4 ≤ ni y then some (w) else
      if l17 = 0 then some (w) else
      (some ((a * (Int32.toInt64 (100 + l6))) / 100 : Int64)).bind fun x739 =>
      (some ((a * (Int32.toInt64 (100 - l6))) / 100 : Int64)).bind fun x741 =>
      ((if (lg_cmp w x739) ≤ 0 then some (w) else some (x739) : Option (Int64))).bind fun y744 =>
      if 0 ≤ (lg_cmp y744 x741) then some (y744) else
      some (x741) : Option (Int64))) = some (blV H 0 (LL P le ti) y y a w) := by
  subst h6 h17
  have p6 := hP 6
  have e1 : (ni y ≤ 0) ↔ (y = 0) := by
    have := ni_le (a := y) (b := 0) (by omega) (by omega)
    exact this.trans (by omega)
  have e2 : (4 ≤ ni y) ↔ (4 ≤ y) := ni_le (a := 4) (by omega) (by omega)
  unfold blV
  by_cases y0 : y = 0
  · rw [if_pos (e1.mpr y0), if_pos (Or.inl y0)]
  · rw [if_neg (fun q => y0 (e1.mp q))]
    by_cases y4 : 4 ≤ y
    · rw [if_pos (e2.mpr y4), if_pos (Or.inr y4)]
    · rw [if_neg (fun q => y4 (e2.mp q)), if_neg (show ¬ (y = 0 ∨ 4 ≤ y) by omega)]
      unfold tlS
      rw [num_7]
      cases ti
      · rw [if_pos (show (if false = true then (1 : Int32) else 0) = 0 from rfl), if_pos (show (if false = true then ni (P 6) else (-1 : Int32)) = -1 from rfl)]
      · have nn : ¬ (if true = true then ni (P 6) else (-1 : Int32)) = -1 := ni_n1 (by omega)
        rw [if_neg (by decide), if_neg nn]
        simp only [Option.bind_some, iteV, lg_cmp_ge, jm_eq, if_true]
        unfold j_max
        congr 1
        by_cases q : j_min (a * (100 + ni (P 6)).toInt64 / 100) w < a * (100 - ni (P 6)).toInt64 / 100
        · rw [if_pos q, if_neg (Int64.not_le.mpr q)]
        · rw [if_neg q, if_pos (Int64.not_lt.mp q)]
end BOOKQ

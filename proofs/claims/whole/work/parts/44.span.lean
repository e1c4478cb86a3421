/-! ===== the call span ===== -/
section CALLS
variable {K n : Nat} {h : mm_H}
theorem clampM_in (v : Int64) : 0 ≤ clampM v ∧ clampM v ≤ 999999 := by
  unfold clampM
  by_cases h1 : v < 0
  · rw [if_pos h1]; exact ⟨by decide, by decide⟩
  · rw [if_neg h1]
    by_cases h2 : 999999 < v
    · rw [if_pos h2]; exact ⟨by decide, by decide⟩
    · rw [if_neg h2]; exact ⟨Int64.not_lt.mp h1, Int64.not_lt.mp h2⟩
theorem heldM_in (a b : Int64) : 0 ≤ heldM a b ∧ heldM a b ≤ 999999 := by
  unfold heldM
  by_cases h1 : b = 0
  · rw [if_pos h1]; exact ⟨by decide, by decide⟩
  · rw [if_neg h1]; exact clampM_in _
theorem lineS_in (L : List Pt) (x : Int64) : 0 ≤ lineS L x ∧ lineS L x ≤ 999999 := by
  unfold lineS
  by_cases h1 : detS L = 0
  · rw [if_pos h1]; exact heldM_in _ _
  · rw [if_neg h1]; exact heldM_in _ _
def hasO (L : List Pt) (o : Nat) : Prop := ∃ p ∈ L, p.1 = o
theorem z_has (c : PS h) (hn : 208 ≤ n) {L : List Pt} (q : PtC 147 h L) (hL0 : ∀ p ∈ L, okP p) {o : Nat} (ho : o ≤ 10) : ∀ (rest pre : List Pt) (k : Nat), L = pre ++ rest → rest.length < k → (hasO rest o ∧ lp_X2_has_2 K h n 147 (ni o) k (ni pre.length) = some 0) ∨ (¬ hasO rest o ∧ lp_X2_has_2 K h n 147 (ni o) k (ni pre.length) = some 1) := by
  intro rest
  induction rest with
  | nil =>
    intro pre k hL hk
    obtain ⟨k, rfl⟩ : ∃ z, k = z + 1 := ⟨k - 1, by omega⟩
    rw [List.append_nil] at hL
    have e : ni L.length ≤ ni pre.length := by rw [hL]; exact Int32.le_refl _
    right
    refine ⟨fun ⟨p, hp, _⟩ => (by cases hp), ?_⟩
    unfold lp_X2_has_2
    simp only [g_147_4 c hn, q.1, Option.bind_some, e, if_true]
  | cons p rest ih =>
    intro pre k hL hk
    obtain ⟨k, rfl⟩ : ∃ z, k = z + 1 := ⟨k - 1, by omega⟩
    rw [List.length_cons] at hk
    have hlen : L.length = pre.length + (rest.length + 1) := by rw [hL, List.length_append, List.length_cons]
    have h50 := q.2.1
    have n1 : ¬ ni L.length ≤ ni pre.length := fun z => by have := (ni_le (by omega) (by omega)).mp z; omega
    have n2 : ¬ (50 : Int32) ≤ ni pre.length := fun z => by have := (ni_le (a := 50) (by omega) (by omega)).mp z; omega
    have hget : L[pre.length]? = some p := by rw [hL, List.getElem?_append_right (Nat.le_refl _), Nat.sub_self]; rfl
    have hL2 : L = (pre ++ [p]) ++ rest := by rw [hL, List.append_assoc]; rfl
    have hpl : ni (pre.length + 1) = ni (pre ++ [p]).length := by rw [List.length_append]; rfl
    have i9 : inb (ni pre.length) 50 = true := ni_inb (by omega) (by omega)
    have t9 : (ni pre.length).toNatClampNeg = pre.length := ni_tn (by omega)
    obtain ⟨o1, o2, o3⟩ := q.2.2 _ _ hget
    have o1' : iA h 148 pre.length = ni p.1 := o1
    have hp10 := (hL0 p (List.mem_of_getElem? hget)).1
    unfold lp_X2_has_2
    simp only [g_147_4 c hn, g_147_1 c hn, ge_148 c hn, q.1, Option.bind_some, n1, n2, if_false, i9, t9, if_true, o1', ni_1, hpl]
    by_cases e : p.1 = o
    · left
      exact ⟨⟨p, List.mem_cons_self, e⟩, if_pos (by rw [e])⟩
    · have ne : ¬ ni p.1 = ni o := fun z => e ((ni_inj (by omega) (by omega)).mp z)
      rw [if_neg ne]
      rcases ih (pre ++ [p]) k hL2 (by omega) with ⟨⟨w, w1, w2⟩, w3⟩ | ⟨w1, w3⟩
      · exact Or.inl ⟨⟨w, List.mem_cons_of_mem _ w1, w2⟩, w3⟩
      · refine Or.inr ⟨fun ⟨z, z1, z2⟩ => ?_, w3⟩
        rcases List.mem_cons.mp z1 with rfl | z1
        · exact e z2
        · exact w1 ⟨z, z1, z2⟩
theorem z_X2_has (hK : 3000 ≤ K) (c : PS h) (hn : 208 ≤ n) {L : List Pt} (q : PtC 147 h L) (hL0 : ∀ p ∈ L, okP p) {o : Nat} (ho : o ≤ 10) : (hasO L o ∧ q_X2_has K h n 147 (ni o) = some 1) ∨ (¬ hasO L o ∧ q_X2_has K h n 147 (ni o) = some 0) := by
  have h50 := q.2.1
  unfold q_X2_has
  rcases z_has (K := K) c hn q hL0 ho L [] K rfl (by omega) with ⟨w, e⟩ | ⟨w, e⟩
  · refine Or.inl ⟨w, bnd (show lp_X2_has_2 K h n 147 (ni o) K 0 = some 0 from e) (if_pos rfl)⟩
  · refine Or.inr ⟨w, bnd (show lp_X2_has_2 K h n 147 (ni o) K 0 = some 1 from e) ?_⟩
    rw [if_neg (by decide), if_pos rfl]
/-- the end of the span as the program finds it -/
theorem esC (hK : 3000 ≤ K) (hn : 208 ≤ n) {g : mm_H} {F : Nat} (uF : fI g 49 5 = ni F) (hF : F ≤ 11) {L : List Pt} (hL0 : ∀ p ∈ L, okP p) (x : Int32) (R : Nat → Int64 → Prop) (l2 : Int32)
    (hskip : ∀ i e, i < F → ¬ hasO L i → R i e → R (i + 1) e) (htake : ∀ i e, i < F → hasO L i → R i e → R (i + 1) (if e = -1 then lineS (flt (ni i) L) (Int32.toInt64 x) else if l2 = 0 then (if e ≤ lineS (flt (ni i) L) (Int32.toInt64 x) then e else lineS (flt (ni i) L) (Int32.toInt64 x)) else (if lineS (flt (ni i) L) (Int32.toInt64 x) ≤ e then e else lineS (flt (ni i) L) (Int32.toInt64 x)))) : ∀ (c i k : Nat) (e : Int64) (h : mm_H), i + c = F → c < k → PS h → SE g h → PtC 147 h L → R i e → ∃ e' f, lp_X10_endOfSpan_7 K n 48 x l2 k e (ni i) h = some (e', f) ∧ PS f ∧ SE g f ∧ R F e' := by
  intro c
  induction c with
  | zero =>
    intro i k e h hi hk p s q hR
    obtain ⟨k, rfl⟩ : ∃ z, k = z + 1 := ⟨k - 1, by omega⟩
    have e0 : fI h 49 5 = ni F := by rw [fI_c (s.1 49 (by omega))]; exact uF
    refine ⟨e, h, ?_, p, s, by rw [← show i = F by omega]; exact hR⟩
    unfold lp_X10_endOfSpan_7
    simp only [g_48_0 p hn, g_49_5 p hn, e0, Option.bind_some]
    rw [if_pos ((ni_le (by omega) (by omega)).mpr (by omega))]
  | succ c ih =>
    intro i k e h hi hk p s q hR
    obtain ⟨k, rfl⟩ : ∃ z, k = z + 1 := ⟨k - 1, by omega⟩
    have e0 : fI h 49 5 = ni F := by rw [fI_c (s.1 49 (by omega))]; exact uF
    have n1 : ¬ ni F ≤ ni i := fun z => by have := (ni_le (by omega) (by omega)).mp z; omega
    have n10 : ¬ (1 : Int32) = 0 := by decide
    unfold lp_X10_endOfSpan_7
    simp only [g_48_0 p hn, g_48_2 p hn, g_49_5 p hn, gq_147 p hn, e0, Option.bind_some, n1, if_false]
    rcases z_X2_has hK p hn q hL0 (o := i) (by omega) with ⟨w, e1⟩ | ⟨w, e1⟩
    · obtain ⟨f, f1, f2, f3, f4, f5⟩ := z_addUp147 hK p hn q (ni i)
      simp only [e1, n10, if_false, Option.bind_some, f1, g_48_2 f2 hn, gq_147 f2 hn, (z_line147 f2 hn f5 _).1, lg_cmp_eq, lg_cmp_ge, lg_cmp_le, ni_1]
      have ht := htake i e (by omega) w hR
      by_cases b1 : e = -1
      · simp only [if_pos b1] at ht ⊢
        exact ih (i + 1) k _ f (by omega) (by omega) f2 (s.trans f3) f4 ht
      · simp only [if_neg b1] at ht ⊢
        by_cases b2 : l2 = 0
        · simp only [if_pos b2] at ht ⊢
          by_cases b3 : e ≤ lineS (flt (ni i) L) (Int32.toInt64 x)
          · simp only [if_pos b3] at ht ⊢
            exact ih (i + 1) k _ f (by omega) (by omega) f2 (s.trans f3) f4 ht
          · simp only [if_neg b3] at ht ⊢
            exact ih (i + 1) k _ f (by omega) (by omega) f2 (s.trans f3) f4 ht
        · simp only [if_neg b2] at ht ⊢
          by_cases b3 : lineS (flt (ni i) L) (Int32.toInt64 x) ≤ e
          · simp only [if_pos b3] at ht ⊢
            exact ih (i + 1) k _ f (by omega) (by omega) f2 (s.trans f3) f4 ht
          · simp only [if_neg b3] at ht ⊢
            exact ih (i + 1) k _ f (by omega) (by omega) f2 (s.trans f3) f4 ht
    · simp only [e1, if_true, Option.bind_some, ni_1]
      exact ih (i + 1) k e h (by omega) (by omega) p s q (hskip i e (by omega) w hR)
def msk : List Pt → Nat → Nat
  | [], M => M
  | p :: t, M => msk t (M ||| 2 ^ p.1)
theorem msk_bit {o : Nat} : ∀ (L : List Pt) (M : Nat), (msk L M).testBit o = true ↔ (M.testBit o = true ∨ hasO L o) := by
  intro L
  induction L with
  | nil => intro M; exact ⟨Or.inl, fun z => z.elim id (fun ⟨p, hp, _⟩ => (by cases hp))⟩
  | cons p t ih =>
    intro M
    show (msk t (M ||| 2 ^ p.1)).testBit o = true ↔ _
    rw [ih, Nat.testBit_or, Nat.testBit_two_pow, Bool.or_eq_true, decide_eq_true_eq]
    constructor
    · rintro ((z | z) | ⟨q, q1, q2⟩)
      · exact Or.inl z
      · exact Or.inr ⟨p, List.mem_cons_self, z⟩
      · exact Or.inr ⟨q, List.mem_cons_of_mem _ q1, q2⟩
    · rintro (z | ⟨q, q1, q2⟩)
      · exact Or.inl (Or.inl z)
      · rcases List.mem_cons.mp q1 with rfl | q1
        · exact Or.inl (Or.inr q2)
        · exact Or.inr ⟨q, q1, q2⟩
theorem msk_lt : ∀ (L : List Pt) (M : Nat), (∀ p ∈ L, okP p) → M < 2048 → msk L M < 2048 := by
  intro L
  induction L with
  | nil => intro M _ h; exact h
  | cons p t ih =>
    intro M hL hM
    have hp := (hL p List.mem_cons_self).1
    refine ih _ (fun q hq => hL q (List.mem_cons_of_mem _ hq)) ?_
    have h2 : 2 ^ p.1 < 2 ^ 11 := Nat.pow_lt_pow_right (by omega) (by omega)
    exact Nat.or_lt_two_pow (n := 11) hM h2
theorem z_msk (c : PS h) (hn : 208 ≤ n) {L : List Pt} (q : PtR h L) (hL0 : ∀ p ∈ L, okP p) {l1 l2 l3 l4 l5 l6 : Int32} : ∀ (rest pre : List Pt) (k M : Nat), L = pre ++ rest → rest.length < k → M < 2048 → lp_X11_span_97 K h n 159 l1 l2 l3 l4 l5 l6 k (ni M) (ni pre.length) = some (ni (msk rest M)) := by
  intro rest
  induction rest with
  | nil =>
    intro pre k M hL hk hM
    obtain ⟨k, rfl⟩ : ∃ z, k = z + 1 := ⟨k - 1, by omega⟩
    rw [List.append_nil] at hL
    have e : ni L.length ≤ ni pre.length := by rw [hL]; exact Int32.le_refl _
    unfold lp_X11_span_97
    simp only [g_159_65 c hn, q.1, Option.bind_some, e, if_true]
    rfl
  | cons p rest ih =>
    intro pre k M hL hk hM
    obtain ⟨k, rfl⟩ : ∃ z, k = z + 1 := ⟨k - 1, by omega⟩
    rw [List.length_cons] at hk
    have hlen : L.length = pre.length + (rest.length + 1) := by rw [hL, List.length_append, List.length_cons]
    have h50 := q.2.1
    have n1 : ¬ ni L.length ≤ ni pre.length := fun z => by have := (ni_le (by omega) (by omega)).mp z; omega
    have hget : L[pre.length]? = some p := by rw [hL, List.getElem?_append_right (Nat.le_refl _), Nat.sub_self]; rfl
    have hL2 : L = (pre ++ [p]) ++ rest := by rw [hL, List.append_assoc]; rfl
    have hpl : ni (pre.length + 1) = ni (pre ++ [p]).length := by rw [List.length_append]; rfl
    have i9 : inb (ni pre.length) 50 = true := ni_inb (by omega) (by omega)
    have t9 : (ni pre.length).toNatClampNeg = pre.length := ni_tn (by omega)
    obtain ⟨o1, o2, o3⟩ := q.2.2 _ _ hget
    have hp10 := (hL0 p (List.mem_of_getElem? hget)).1
    unfold lp_X11_span_97
    simp only [g_159_65 c hn, g_159_64 c hn, ge_206 c hn, q.1, Option.bind_some, n1, if_false, i9, t9, if_true, o1, ni_1, hpl]
    rw [bit_or M hM p.1 (by omega)]
    have h2 : 2 ^ p.1 < 2 ^ 11 := Nat.pow_lt_pow_right (by omega) (by omega)
    exact ih (pre ++ [p]) k _ hL2 (by omega) (Nat.or_lt_two_pow (n := 11) hM h2)
theorem ptYs_own {g : mm_H} {o hd dr : Nat} {d : Int32} : ∀ (c y : Nat), ∀ p ∈ ptYs g o hd dr d y c, p.1 = o := by
  intro c
  induction c with
  | zero => intro y p hp; cases hp
  | succ c ih =>
    intro y p hp
    unfold ptYs at hp
    rcases List.mem_append.mp hp with q | q
    · unfold ptY at q
      by_cases a1 : kn g o y dr d = -1
      · rw [if_pos a1] at q; cases q
      · rw [if_neg a1] at q
        by_cases a2 : kn g o y (3 + hd) d = -1
        · rw [if_pos a2] at q; cases q
        · rw [if_neg a2, List.mem_singleton] at q
          rw [q]
    · exact ih _ p q
theorem ptOs_flt {g : mm_H} {fm b hd dr y0 c0 : Nat} {d : Int32} : ∀ (c o : Nat), o + c ≤ 11 → ptOs g fm (ni b) hd dr d y0 c0 o c = flt (ni b) (ptOs g fm (-1) hd dr d y0 c0 o c) := by
  intro c
  induction c with
  | zero => intro o _; rfl
  | succ c ih =>
    intro o ho
    unfold ptOs
    rw [ih (o + 1) (by omega)]
    unfold flt
    rw [List.filter_append]
    congr 1
    have hm : ¬ ni o = -1 := ni_n1 (by omega)
    by_cases h1 : o = fm
    · rw [if_pos (Or.inl h1), if_pos (Or.inl h1)]
      rfl
    · have hz : ¬ (o = fm ∨ ni o = -1) := fun z => z.elim h1 hm
      rw [if_neg hz]
      by_cases h2 : ni o = ni b
      · rw [if_pos (Or.inr h2)]
        symm
        rw [List.filter_eq_nil_iff]
        intro p hp
        rw [ptYs_own _ _ p hp]
        simp [h2]
      · have hz2 : ¬ (o = fm ∨ ni o = ni b) := fun z => z.elim h1 h2
        rw [if_neg hz2]
        symm
        rw [List.filter_eq_self]
        intro p hp
        rw [ptYs_own _ _ p hp]
        simp [h2]
theorem ptOs_owner {g : mm_H} {fm hd dr y0 c0 : Nat} {bt d : Int32} : ∀ (c o : Nat), ∀ p ∈ ptOs g fm bt hd dr d y0 c0 o c, p.1 < o + c := by
  intro c
  induction c with
  | zero => intro o p hp; cases hp
  | succ c ih =>
    intro o p hp
    unfold ptOs at hp
    rcases List.mem_append.mp hp with q | q
    · by_cases z : o = fm ∨ ni o = bt
      · rw [if_pos z] at q; cases q
      · rw [if_neg z] at q
        rw [ptYs_own _ _ p q]
        omega
    · have := ih (o + 1) p q
      omega
end CALLS

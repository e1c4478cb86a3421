/-! ===== the call moves ===== -/
section CALLM
variable {K n : Nat} {h : mm_H}
theorem absS_j (v : Int64) : j_abs v = absS v := by
  unfold j_abs absS
  by_cases h1 : 0 < v
  · rw [if_pos h1, if_pos (Int64.le_of_lt h1)]
  · rw [if_neg h1]
    by_cases h2 : 0 ≤ v
    · rw [if_pos h2]
      have : v = 0 := Int64.le_antisymm (Int64.not_lt.mp h1) h2
      rw [this]
      rfl
    · rw [if_neg h2]
theorem z_missC (c : PS h) (hn : 208 ≤ n) {L : List Pt} (q : PtC 147 h L) (m : SmC 147 h (s5 L (0, 0, 0, 0, 0))) : ∀ (rest pre : List Pt) (k : Nat) (s : Int64), L = pre ++ rest → rest.length < k → lp_X2_missedByLine_4 K h n 147 k s (ni pre.length) = some (missS L rest s) := by
  intro rest
  induction rest with
  | nil =>
    intro pre k s hL hk
    obtain ⟨k, rfl⟩ : ∃ z, k = z + 1 := ⟨k - 1, by omega⟩
    rw [List.append_nil] at hL
    have e : ni L.length ≤ ni pre.length := by rw [hL]; exact Int32.le_refl _
    unfold lp_X2_missedByLine_4
    simp only [g_147_4 c hn, q.1, Option.bind_some, e, if_true]
    rfl
  | cons p rest ih =>
    intro pre k s hL hk
    obtain ⟨k, rfl⟩ : ∃ z, k = z + 1 := ⟨k - 1, by omega⟩
    rw [List.length_cons] at hk
    have hlen : L.length = pre.length + (rest.length + 1) := by rw [hL, List.length_append, List.length_cons]
    have h50 := q.2.1
    have n1 : ¬ ni L.length ≤ ni pre.length := fun z => by have := (ni_le (by omega) (by omega)).mp z; omega
    have n2 : ¬ (50 : Int32) ≤ ni pre.length := fun z => by have := (ni_le (a := 50) (by omega) (by omega)).mp z; omega
    have hget : L[pre.length]? = some p := by rw [hL, List.getElem?_append_right (Nat.le_refl _), Nat.sub_self]; rfl
    have hL2 : L = (pre ++ [p]) ++ rest := by rw [hL, List.append_assoc]; rfl
    have hpl : ni (pre.length + 1) = ni (pre ++ [p]).length := by rw [List.length_append]; rfl
    have i9 : inb (ni pre.length) 50 = true := ni_inb (by omega) (by omega)
    have t9 : (ni pre.length).toNatClampNeg = pre.length := ni_tn (by omega)
    obtain ⟨o1, o2, o3⟩ := q.2.2 _ _ hget
    have o2' : iA h 149 pre.length = p.2.1 := o2
    have o3' : iA h 150 pre.length = p.2.2 := o3
    unfold lp_X2_missedByLine_4
    simp only [g_147_4 c hn, g_147_2 c hn, g_147_3 c hn, gq_147 c hn, ge_149 c hn, ge_150 c hn, q.1, Option.bind_some, n1, n2, if_false, i9, t9, if_true, o2', o3', ni_1, hpl, (z_line147 c hn m _).1, z_X8_size]
    exact ih (pre ++ [p]) k _ hL2 (by omega)
theorem z_missM (hK : 3000 ≤ K) (c : PS h) (hn : 208 ≤ n) {L : List Pt} (q : PtR h L) (hL0 : ∀ p ∈ L, okP p) {l1 l2 l3 l4 l7 : Int32} {l5 : Int64} : ∀ (rest pre : List Pt) (k : Nat) (s : Int64), L = pre ++ rest → rest.length < k → lp_X11_moves_65 K h n 159 l1 l2 l3 l4 l5 l7 k s (ni pre.length) = some (missS L rest s) := by
  intro rest
  induction rest with
  | nil =>
    intro pre k s hL hk
    obtain ⟨k, rfl⟩ : ∃ z, k = z + 1 := ⟨k - 1, by omega⟩
    rw [List.append_nil] at hL
    have e : ni L.length ≤ ni pre.length := by rw [hL]; exact Int32.le_refl _
    unfold lp_X11_moves_65
    simp only [g_159_65 c hn, q.1, Option.bind_some, e, if_true]
    rfl
  | cons p rest ih =>
    intro pre k s hL hk
    obtain ⟨k, rfl⟩ : ∃ z, k = z + 1 := ⟨k - 1, by omega⟩
    rw [List.length_cons] at hk
    have hlen : L.length = pre.length + (rest.length + 1) := by rw [hL, List.length_append, List.length_cons]
    have h50 := q.2.1
    have n1 : ¬ ni L.length ≤ ni pre.length := fun z => by have := (ni_le (by omega) (by omega)).mp z; omega
    have hget : L[pre.length]? = some p := by rw [hL, List.getElem?_append_right (Nat.le_refl _), Nat.sub_self]; rfl
    have hL2 : L = (pre ++ [p]) ++ rest := by rw [hL, List.append_assoc]; rfl
    have hpl : ni (pre.length + 1) = ni (pre ++ [p]).length := by rw [List.length_append]; rfl
    have i9 : inb (ni pre.length) 50 = true := ni_inb (by omega) (by omega)
    have t9 : (ni pre.length).toNatClampNeg = pre.length := ni_tn (by omega)
    obtain ⟨o1, o2, o3⟩ := q.2.2 _ _ hget
    obtain ⟨v, e1, e2⟩ := z_lineAt hK c hn q hL0 p.2.1
    unfold lp_X11_moves_65
    simp only [g_159_65 c hn, g_159_62 c hn, g_159_63 c hn, gq_159 c hn, ge_204 c hn, ge_205 c hn, q.1, Option.bind_some, n1, if_false, i9, t9, if_true, o2, o3, ni_1, hpl, e1, z_X11_moded, e2, absS_j]
    exact ih (pre ++ [p]) k _ hL2 (by omega)
/-- the driver whose line misses least -/
def mvS (P : Nat → List Pt) : Nat → Nat → Int32 × Int64 → Int32 × Int64
  | 0, _, s => s
  | c + 1, i, s => if P i = [] then mvS P c (i + 1) s else if s.1 = -1 then mvS P c (i + 1) (ni i, missS (P i) (P i) 0) else if missS (P i) (P i) 0 < s.2 then mvS P c (i + 1) (ni i, missS (P i) (P i) 0) else mvS P c (i + 1) s
theorem len_nil {L : List Pt} (hl : L.length ≤ 50) : (ni L.length = 0) ↔ L = [] := by
  constructor
  · intro e
    exact List.length_eq_zero_iff.mp ((ni_inj (b := 0) (by omega) (by omega)).mp e)
  · intro e; rw [e]; rfl
theorem mvC (hK : 3000 ≤ K) (hn : 208 ≤ n) {g : mm_H} {F fm hd r : Nat} (uF : fI g 49 5 = ni F) (hF : F ≤ 11) (hhd : hd ≤ 3) (hfm : fm < F) (hr : r ≤ 2) (jg : JA g) : ∀ (c i k : Nat) (s : Int32 × Int64) (h : mm_H), i + c = 3 → c < k → PS h → SE g h → ∃ f, lp_X10_moves_33 K n 48 (ni fm) (ni hd) (ni r) k s.1 s.2 (ni i) h = some ((mvS (fun i => PtL g F fm (-1) hd r i) c i s).1, f) ∧ PS f ∧ SE g f := by
  intro c
  induction c with
  | zero =>
    intro i k s h hi hk p e
    obtain ⟨k, rfl⟩ : ∃ z, k = z + 1 := ⟨k - 1, by omega⟩
    refine ⟨h, ?_, p, e⟩
    unfold lp_X10_moves_33
    rw [if_pos (show (3 : Int32) ≤ ni i from (ni_le (a := 3) (by omega) (by omega)).mpr (by omega))]
    rfl
  | succ c ih =>
    intro i k s h hi hk p e
    obtain ⟨k, rfl⟩ : ∃ z, k = z + 1 := ⟨k - 1, by omega⟩
    have n1 : ¬ (3 : Int32) ≤ ni i := fun z => by have := (ni_le (a := 3) (by omega) (by omega)).mp z; omega
    obtain ⟨f, k1, k2, k3, k4, k5⟩ := z_gather147 hK hn uF hF hhd (dr := i) (by omega) hfm hr jg p e
    rw [PtL_flt jg hF hhd (by omega) hr] at k5
    have h50 := k4.2.1
    have em := z_missC (K := K) (n := n) k2 hn k4 k5 (PtL g F fm (-1) hd r i) [] K 0 rfl (by omega)
    have em' : q_X2_missedByLine K f n 147 = some (missS (PtL g F fm (-1) hd r i) (PtL g F fm (-1) hd r i) 0) := by
      unfold q_X2_missedByLine
      exact bnd (show lp_X2_missedByLine_4 K f n 147 K 0 (ni 0) = _ from em) rfl
    unfold lp_X10_moves_33 mvS
    simp only [n1, if_false, g_48_2 p hn, gq_147 p hn, k1, g_48_2 k2 hn, g_147_4 k2 hn, gq_147 k2 hn, k4.1, Option.bind_some, len_nil h50, ni_1, em', lg_cmp_ge]
    by_cases e0 : PtL g F fm (-1) hd r i = []
    · simp only [e0, if_true]
      exact ih (i + 1) k s f (by omega) (by omega) k2 k3
    · simp only [e0, if_false]
      by_cases e1 : s.1 = -1
      · simp only [e1, if_true]
        exact ih (i + 1) k (_, _) f (by omega) (by omega) k2 k3
      · simp only [e1, if_false]
        by_cases e2 : missS (PtL g F fm (-1) hd r i) (PtL g F fm (-1) hd r i) 0 < s.2
        · simp only [Int64.not_le.mpr e2, e2, if_true, if_false]
          exact ih (i + 1) k (_, _) f (by omega) (by omega) k2 k3
        · simp only [Int64.not_lt.mp e2, e2, if_true, if_false]
          exact ih (i + 1) k s f (by omega) (by omega) k2 k3
theorem mvM (hK : 3000 ≤ K) (hn : 208 ≤ n) {g : mm_H} {F fm hd r : Nat} (jF : JF g) (uF : fI g 49 5 = ni F) (hF : F ≤ 11) (hhd : hd ≤ 3) (hfm : fm < F) (hr : r ≤ 2) (jg : JA g) : ∀ (c i k : Nat) (s : Int32 × Int64) (h : mm_H), i + c = 3 → c < k → PS h → SE g h → ∃ f, lp_X11_moves_33 K n 159 (ni fm) (ni hd) (ni r) k s.1 s.2 (ni i) h = some ((mvS (fun i => PtL g F fm (-1) hd r i) c i s).1, f) ∧ PS f ∧ SE g f := by
  intro c
  induction c with
  | zero =>
    intro i k s h hi hk p e
    obtain ⟨k, rfl⟩ : ∃ z, k = z + 1 := ⟨k - 1, by omega⟩
    refine ⟨h, ?_, p, e⟩
    unfold lp_X11_moves_33
    rw [if_pos (show (3 : Int32) ≤ ni i from (ni_le (a := 3) (by omega) (by omega)).mpr (by omega))]
    rfl
  | succ c ih =>
    intro i k s h hi hk p e
    obtain ⟨k, rfl⟩ : ∃ z, k = z + 1 := ⟨k - 1, by omega⟩
    have n1 : ¬ (3 : Int32) ≤ ni i := fun z => by have := (ni_le (a := 3) (by omega) (by omega)).mp z; omega
    obtain ⟨f, k1, k2, k3, k4⟩ := z_X11_gathers (bt := -1) hK hn jF uF hF hhd (dr := i) (by omega) hfm hr jg p e
    have h50 := k4.2.1
    have em := z_missM (n := n) hK k2 hn k4 (PtL_ok jg hF hhd (by omega) hr) (l1 := ni fm) (l2 := ni hd) (l3 := ni r) (l4 := s.1) (l7 := ni i) (l5 := s.2) (PtL g F fm (-1) hd r i) [] K 0 rfl (by omega)
    have em' : lp_X11_moves_65 K f n 159 (ni fm) (ni hd) (ni r) s.1 s.2 (ni i) K 0 0 = some (missS (PtL g F fm (-1) hd r i) (PtL g F fm (-1) hd r i) 0) := em
    unfold lp_X11_moves_33 mvS
    simp only [n1, if_false, gq_159 p hn, k1, g_159_65 k2 hn, k4.1, Option.bind_some, len_nil h50, ni_1, em', lg_cmp_lt]
    by_cases e0 : PtL g F fm (-1) hd r i = []
    · simp only [e0, if_true]
      exact ih (i + 1) k s f (by omega) (by omega) k2 k3
    · simp only [e0, if_false]
      by_cases e1 : s.1 = -1
      · simp only [e1, if_true]
        exact ih (i + 1) k (_, _) f (by omega) (by omega) k2 k3
      · simp only [e1, if_false]
        by_cases e2 : missS (PtL g F fm (-1) hd r i) (PtL g F fm (-1) hd r i) 0 < s.2
        · simp only [e2, if_true]
          exact ih (i + 1) k (_, _) f (by omega) (by omega) k2 k3
        · simp only [e2, if_false]
          exact ih (i + 1) k s f (by omega) (by omega) k2 k3
theorem F11 (uF : JF h) : (fI h 49 5).toNatClampNeg ≤ 11 := by
  obtain ⟨⟨m, hm, hm11⟩, -⟩ := uF
  rw [hm, ni_tn (by omega)]; exact hm11
theorem S_24 (hK : 3000 ≤ K) {l3 : Int32} {kc ks : Nat} {x : Nat → Int32} (c : PS h) (hn : 208 ≤ n) (j : JR h) (sc : SCR (h 0) n l3 x) : ∃ g, st_law_24 K h n l3 kc ks = some (g, n, kc, ks) ∧ PS g ∧ JR g ∧ FB h g := by
  obtain ⟨s1, s2, s3, -⟩ := sc h rfl
  obtain ⟨uT, uF, uA, uW, uB, uL, uP⟩ := id j
  have fin : ∀ (v : Int32) (f w : mm_H), q_X10_moves K h n 48 (x 1) (x 2) (x 3) = some (v, f) → PS f → SE h f → q_X11_moves K f n 159 (x 1) (x 2) (x 3) = some (v, w) → PS w → SE h w → ∃ g, st_law_24 K h n l3 kc ks = some (g, n, kc, ks) ∧ PS g ∧ JR g ∧ FB h g := by
    intro v f w k1 p1 e1 k2 p2 e2
    obtain ⟨t1, t2, t3, -⟩ := sc f (e1.1 0 (by omega))
    refine ⟨w, ?_, p2, SE_JR e2 j, SE_FB e2⟩
    unfold st_law_24
    simp only [s1, s2, s3, gq_48 c hn, Option.bind_some, k1, t1, t2, t3, gq_159 p1 hn, k2, if_true]
  have no : (mm_in (x 1) 0 (fI h 49 5 - 1) = 0 ∨ mm_in (x 2) 0 3 = 0 ∨ mm_in (x 3) 0 2 = 0) → q_X10_moves K h n 48 (x 1) (x 2) (x 3) = some (-1, h) ∧ q_X11_moves K h n 159 (x 1) (x 2) (x 3) = some (-1, h) := by
    intro hh
    unfold q_X10_moves q_X11_moves
    simp only [gq_48 c hn, gq_159 c hn, y_X10_isFirm c hn uF, y_X11_isFirm c hn uF, z_X10_isHead, z_X11_isHead, z_X10_isReview, z_X11_isReview, Option.bind_some]
    by_cases b1 : mm_in (x 1) 0 (fI h 49 5 - 1) = 0
    · simp only [b1, if_true, and_self]
    by_cases b2 : mm_in (x 2) 0 3 = 0
    · simp only [b1, b2, if_true, if_false, and_self]
    by_cases b3 : mm_in (x 3) 0 2 = 0
    · simp only [b1, b2, b3, if_true, if_false, and_self]
    · exact absurd hh (by simp only [b1, b2, b3, or_self, not_false_eq_true])
  by_cases a1 : mm_in (x 1) 0 (fI h 49 5 - 1) = 0
  · exact fin _ h h (no (Or.inl a1)).1 c SE.id_ (no (Or.inl a1)).2 c SE.id_
  by_cases a2 : mm_in (x 2) 0 3 = 0
  · exact fin _ h h (no (Or.inr (Or.inl a2))).1 c SE.id_ (no (Or.inr (Or.inl a2))).2 c SE.id_
  by_cases a3 : mm_in (x 3) 0 2 = 0
  · exact fin _ h h (no (Or.inr (Or.inr a3))).1 c SE.id_ (no (Or.inr (Or.inr a3))).2 c SE.id_
  obtain ⟨fm, hfm, hfm10, hF1, hF2⟩ := in_firm uF a1
  obtain ⟨hd, hhd, hhd2⟩ := mm_in_nat (N := 3) (by omega) a2
  obtain ⟨r, hr, hr2⟩ := mm_in_nat (N := 2) (by omega) a3
  obtain ⟨f, k1, k2, k3⟩ := mvC hK hn hF1 (F11 uF) hhd hF2 hr uA 3 0 K (-1, 0) h rfl (by omega) c SE.id_
  obtain ⟨w, l1, l2, l3'⟩ := mvM hK hn uF hF1 (F11 uF) hhd hF2 hr uA 3 0 K (-1, 0) f rfl (by omega) k2 k3
  generalize (mvS (fun i => PtL h (fI h 49 5).toNatClampNeg fm (-1) hd r i) 3 0 (-1, 0)).1 = v at k1 l1
  have k1' : lp_X10_moves_33 K n 48 (x 1) (x 2) (x 3) K (-1) 0 0 h = some (v, f) := by rw [hfm, hhd2, hr2]; exact k1
  have l1' : lp_X11_moves_33 K n 159 (x 1) (x 2) (x 3) K (-1) 0 0 f = some (v, w) := by rw [hfm, hhd2, hr2]; exact l1
  have ef : fI f 49 5 = fI h 49 5 := fI_c (k3.1 49 (by omega)) 5
  refine fin v f w ?_ k2 k3 ?_ l2 l3'
  · unfold q_X10_moves
    simp only [gq_48 c hn, y_X10_isFirm c hn uF, z_X10_isHead, z_X10_isReview, Option.bind_some, a1, a2, a3, if_false, k1']
  · unfold q_X11_moves
    simp only [gq_159 k2 hn, y_X11_isFirm k2 hn (SE_JF k3 uF), ef, z_X11_isHead, z_X11_isReview, Option.bind_some, a1, a2, a3, if_false, l1']
end CALLM

/-! ===== the call span: both ends ===== -/
section CALLT
variable {K n : Nat} {h : mm_H}
def vS (L : List Pt) (x : Int32) (i : Nat) : Int64 := lineS (flt (ni i) L) (Int32.toInt64 x)
def SCe (L : List Pt) (x l2 : Int32) : Nat → Int64
  | 0 => -1
  | i + 1 => if (∃ p ∈ L, p.1 = i) then (if SCe L x l2 i = -1 then vS L x i else if l2 = 0 then (if SCe L x l2 i ≤ vS L x i then SCe L x l2 i else vS L x i) else (if vS L x i ≤ SCe L x l2 i then SCe L x l2 i else vS L x i)) else SCe L x l2 i
def SRe (L : List Pt) (x : Int32) : Nat → Int64 × Int64
  | 0 => (999999, 0)
  | i + 1 => if (∃ p ∈ L, p.1 = i) then (j_min (SRe L x i).1 (vS L x i), j_max (SRe L x i).2 (vS L x i)) else SRe L x i
theorem SRe_pos {L : List Pt} {x : Int32} {i : Nat} (hh : hasO L i) : SRe L x (i + 1) = (j_min (SRe L x i).1 (vS L x i), j_max (SRe L x i).2 (vS L x i)) := if_pos hh
theorem SRe_neg {L : List Pt} {x : Int32} {i : Nat} (hh : ¬ hasO L i) : SRe L x (i + 1) = SRe L x i := if_neg hh
theorem SCe_pos {L : List Pt} {x l2 : Int32} {i : Nat} (hh : hasO L i) : SCe L x l2 (i + 1) = (if SCe L x l2 i = -1 then vS L x i else if l2 = 0 then (if SCe L x l2 i ≤ vS L x i then SCe L x l2 i else vS L x i) else (if vS L x i ≤ SCe L x l2 i then SCe L x l2 i else vS L x i)) := if_pos hh
theorem SCe_neg {L : List Pt} {x l2 : Int32} {i : Nat} (hh : ¬ hasO L i) : SCe L x l2 (i + 1) = SCe L x l2 i := if_neg hh
theorem SCR_eq (L : List Pt) (x : Int32) : ∀ i : Nat, ((∀ o, o < i → ¬ hasO L o) ∧ SCe L x 0 i = -1 ∧ SCe L x 1 i = -1 ∧ SRe L x i = (999999, 0)) ∨ ((∃ o, o < i ∧ hasO L o) ∧ SCe L x 0 i = (SRe L x i).1 ∧ SCe L x 1 i = (SRe L x i).2 ∧ 0 ≤ (SRe L x i).1 ∧ 0 ≤ (SRe L x i).2) := by
  intro i
  induction i with
  | zero => exact Or.inl ⟨fun o q => by omega, rfl, rfl, rfl⟩
  | succ i ih =>
    have hv := lineS_in (flt (ni i) L) (Int32.toInt64 x)
    have hv0 : 0 ≤ vS L x i := hv.1
    have hv1 : vS L x i ≤ 999999 := hv.2
    have n10 : ¬ (1 : Int32) = 0 := by decide
    by_cases hh : ∃ p ∈ L, p.1 = i
    · have e1 : SCe L x 0 (i + 1) = (if SCe L x 0 i = -1 then vS L x i else if SCe L x 0 i ≤ vS L x i then SCe L x 0 i else vS L x i) := by
        show (if (∃ p ∈ L, p.1 = i) then _ else _) = _
        rw [if_pos hh]
        rfl
      have e2 : SCe L x 1 (i + 1) = (if SCe L x 1 i = -1 then vS L x i else if vS L x i ≤ SCe L x 1 i then SCe L x 1 i else vS L x i) := by
        show (if (∃ p ∈ L, p.1 = i) then _ else _) = _
        rw [if_pos hh, if_neg n10]
      have e3 : SRe L x (i + 1) = (j_min (SRe L x i).1 (vS L x i), j_max (SRe L x i).2 (vS L x i)) := by
        show (if (∃ p ∈ L, p.1 = i) then _ else _) = _
        rw [if_pos hh]
      right
      refine ⟨⟨i, by omega, hh⟩, ?_⟩
      rw [e1, e2, e3]
      unfold j_min j_max
      dsimp only
      rcases ih with ⟨-, i1, i2, i3⟩ | ⟨-, i1, i2, i3, i4⟩
      · rw [i1, i2, i3, if_pos rfl, if_pos rfl]
        dsimp only
        have h1 : (if vS L x i < 999999 then vS L x i else 999999) = vS L x i := by
          by_cases q : vS L x i < 999999
          · rw [if_pos q]
          · rw [if_neg q]
            exact Int64.le_antisymm (Int64.not_lt.mp q) hv1
        rw [h1, if_neg (Int64.not_lt.mpr hv0)]
        exact ⟨rfl, rfl, hv0, hv0⟩
      · have m1 : ¬ SCe L x 0 i = -1 := fun q => by rw [← i1, q] at i3; exact absurd i3 (by decide)
        have m2 : ¬ SCe L x 1 i = -1 := fun q => by rw [← i2, q] at i4; exact absurd i4 (by decide)
        rw [if_neg m1, if_neg m2, i1, i2]
        by_cases q : vS L x i < (SRe L x i).1
        · rw [if_pos q, if_neg (Int64.not_le.mpr q)]
          by_cases q2 : vS L x i < (SRe L x i).2
          · rw [if_pos q2, if_pos (Int64.le_of_lt q2)]
            exact ⟨rfl, rfl, hv0, i4⟩
          · rw [if_neg q2]
            by_cases q3 : vS L x i ≤ (SRe L x i).2
            · rw [if_pos q3]
              exact ⟨rfl, Int64.le_antisymm (Int64.not_lt.mp q2) q3, hv0, hv0⟩
            · rw [if_neg q3]
              exact ⟨rfl, rfl, hv0, hv0⟩
        · rw [if_neg q, if_pos (Int64.not_lt.mp q)]
          by_cases q2 : vS L x i < (SRe L x i).2
          · rw [if_pos q2, if_pos (Int64.le_of_lt q2)]
            exact ⟨rfl, rfl, i3, i4⟩
          · rw [if_neg q2]
            by_cases q3 : vS L x i ≤ (SRe L x i).2
            · rw [if_pos q3]
              exact ⟨rfl, Int64.le_antisymm (Int64.not_lt.mp q2) q3, i3, hv0⟩
            · rw [if_neg q3]
              exact ⟨rfl, rfl, i3, hv0⟩
    · have e1 : ∀ l, SCe L x l (i + 1) = SCe L x l i := fun l => by
        show (if (∃ p ∈ L, p.1 = i) then _ else _) = _
        rw [if_neg hh]
      have e3 : SRe L x (i + 1) = SRe L x i := by
        show (if (∃ p ∈ L, p.1 = i) then _ else _) = _
        rw [if_neg hh]
      rw [e1, e1, e3]
      rcases ih with ⟨i0, i1, i2, i3⟩ | ⟨⟨o, o1, o2⟩, i1⟩
      · refine Or.inl ⟨fun o q => ?_, i1, i2, i3⟩
        by_cases z : o = i
        · subst z; exact hh
        · exact i0 o (by omega)
      · exact Or.inr ⟨⟨o, by omega, o2⟩, i1⟩
theorem esM (hK : 3000 ≤ K) (hn : 208 ≤ n) {g : mm_H} {F fm hd r dr : Nat} (jF : JF g) (uF : fI g 49 5 = ni F) (hF : F ≤ 11) (hhd : hd ≤ 3) (hdr : dr ≤ 2) (hfm : fm < F) (hr : r ≤ 2) (jg : JA g) (x l6 : Int32) {M : Nat} (hM : M < 2048) (hbit : ∀ o, o < 11 → (M.testBit o = true ↔ hasO (PtL g F fm (-1) hd r dr) o)) : ∀ (c i k : Nat) (s : Int64 × Int64) (h : mm_H), i + c = F → c < k → PS h → SE g h → s = SRe (PtL g F fm (-1) hd r dr) x i → ∃ f, lp_X11_span_137 K n 159 (ni fm) (ni hd) (ni r) (ni dr) x l6 (ni M) k s.1 s.2 (ni i) h = some ((SRe (PtL g F fm (-1) hd r dr) x F).1, (SRe (PtL g F fm (-1) hd r dr) x F).2, f) ∧ PS f ∧ SE g f := by
  intro c
  induction c with
  | zero =>
    intro i k s h hi hk p e hs
    obtain ⟨k, rfl⟩ : ∃ z, k = z + 1 := ⟨k - 1, by omega⟩
    have e0 : fI h 159 1 = ni F := by rw [e.2.1 1 (by decide) (by decide) (by decide) (by decide), jF.2.1]; exact uF
    have hiF : i = F := by omega
    subst hiF
    refine ⟨h, ?_, p, e⟩
    unfold lp_X11_span_137
    simp only [g_159_1 p hn, e0, Option.bind_some]
    rw [if_pos (Int32.le_refl _), hs]
  | succ c ih =>
    intro i k s h hi hk p e hs
    obtain ⟨k, rfl⟩ : ∃ z, k = z + 1 := ⟨k - 1, by omega⟩
    have e0 : fI h 159 1 = ni F := by rw [e.2.1 1 (by decide) (by decide) (by decide) (by decide), jF.2.1]; exact uF
    have n1 : ¬ ni F ≤ ni i := fun z => by have := (ni_le (by omega) (by omega)).mp z; omega
    unfold lp_X11_span_137
    simp only [g_159_1 p hn, e0, Option.bind_some, n1, if_false, bit_in M hM i (by omega), gq_159 p hn, ni_1]
    by_cases hb : hasO (PtL g F fm (-1) hd r dr) i
    · have b1 : ¬ M.testBit i = false := by rw [(hbit i (by omega)).mpr hb]; decide
      obtain ⟨f, k1, k2, k3, k4⟩ := z_X11_gathers (bt := ni i) hK hn jF uF hF hhd hdr hfm hr jg p e
      have hfl : PtL g F fm (ni i) hd r dr = flt (ni i) (PtL g F fm (-1) hd r dr) := ptOs_flt F 0 (by omega)
      obtain ⟨v, v1, v2⟩ := z_lineAt hK k2 hn k4 (PtL_ok jg hF hhd hdr hr) x
      rw [hfl] at v2
      simp only [b1, if_false, k1, gq_159 k2 hn, v1, z_X11_moded, v2, Option.bind_some]
      refine ih (i + 1) k (_, _) f (by omega) (by omega) k2 k3 ?_
      rw [SRe_pos hb, ← hs]
      rfl
    · have b1 : M.testBit i = false := by
        cases q : M.testBit i with
        | false => rfl
        | true => exact absurd ((hbit i (by omega)).mp q) hb
      simp only [b1, if_true]
      refine ih (i + 1) k s h (by omega) (by omega) p e ?_
      rw [SRe_neg hb]
      exact hs
theorem S_23 (hK : 3000 ≤ K) {l3 : Int32} {kc ks : Nat} {x : Nat → Int32} (c : PS h) (hn : 208 ≤ n) (j : JR h) (sc : SCR (h 0) n l3 x) : ∃ g, st_law_23 K h n l3 kc ks = some (g, n, kc, ks) ∧ PS g ∧ JR g ∧ FB h g := by
  obtain ⟨s1, s2, s3, s4, s5, s6⟩ := sc h rfl
  obtain ⟨uT, uF, uA, uW, uB, uL, uP⟩ := id j
  have n10 : ¬ (1 : Int32) = 0 := by decide
  have fin : ∀ (v : Int32) (f w : mm_H), q_X10_span K h n 48 (x 1) (x 2) (x 3) (x 4) (x 5) (x 6) = some (v, f) → PS f → SE h f → q_X11_span K f n 159 (x 1) (x 2) (x 3) (x 4) (x 5) (x 6) = some (v, w) → PS w → SE h w → ∃ g, st_law_23 K h n l3 kc ks = some (g, n, kc, ks) ∧ PS g ∧ JR g ∧ FB h g := by
    intro v f w k1 p1 e1 k2 p2 e2
    obtain ⟨t1, t2, t3, t4, t5, t6⟩ := sc f (e1.1 0 (by omega))
    refine ⟨w, ?_, p2, SE_JR e2 j, SE_FB e2⟩
    unfold st_law_23
    simp only [s1, s2, s3, s4, s5, s6, gq_48 c hn, Option.bind_some, k1, t1, t2, t3, t4, t5, t6, gq_159 p1 hn, k2, if_true]
  have no : (mm_in (x 1) 0 (fI h 49 5 - 1) = 0 ∨ mm_in (x 2) 0 3 = 0 ∨ mm_in (x 3) 0 2 = 0 ∨ mm_in (x 4) 0 2 = 0 ∨ mm_in (x 5) 0 999 = 0 ∨ mm_in (x 6) 0 2 = 0) → q_X10_span K h n 48 (x 1) (x 2) (x 3) (x 4) (x 5) (x 6) = some (-1, h) ∧ q_X11_span K h n 159 (x 1) (x 2) (x 3) (x 4) (x 5) (x 6) = some (-1, h) := by
    intro hh
    unfold q_X10_span q_X11_span
    simp only [gq_48 c hn, gq_159 c hn, y_X10_isFirm c hn uF, y_X11_isFirm c hn uF, z_X10_isHead, z_X11_isHead, z_X10_isReview, z_X11_isReview, z_X10_isDriver, z_X10_isWithin, z_X11_isIn, Option.bind_some]
    by_cases b1 : mm_in (x 1) 0 (fI h 49 5 - 1) = 0
    · simp only [b1, if_true, and_self]
    by_cases b2 : mm_in (x 2) 0 3 = 0
    · simp only [b1, b2, if_true, if_false, and_self]
    by_cases b3 : mm_in (x 3) 0 2 = 0
    · simp only [b1, b2, b3, if_true, if_false, and_self]
    by_cases b4 : mm_in (x 4) 0 2 = 0
    · simp only [b1, b2, b3, b4, if_true, if_false, and_self]
    by_cases b5 : mm_in (x 5) 0 999 = 0
    · simp only [b1, b2, b3, b4, b5, if_true, if_false, and_self]
    by_cases b6 : mm_in (x 6) 0 2 = 0
    · simp only [b1, b2, b3, b4, b5, b6, if_true, if_false, and_self]
    · exact absurd hh (by simp only [b1, b2, b3, b4, b5, b6, or_self, not_false_eq_true])
  by_cases a0 : (mm_in (x 1) 0 (fI h 49 5 - 1) = 0 ∨ mm_in (x 2) 0 3 = 0 ∨ mm_in (x 3) 0 2 = 0 ∨ mm_in (x 4) 0 2 = 0 ∨ mm_in (x 5) 0 999 = 0 ∨ mm_in (x 6) 0 2 = 0)
  · exact fin _ h h (no a0).1 c SE.id_ (no a0).2 c SE.id_
  obtain ⟨a1, a2, a3, a4, a5, a6⟩ : (¬ mm_in (x 1) 0 (fI h 49 5 - 1) = 0) ∧ (¬ mm_in (x 2) 0 3 = 0) ∧ (¬ mm_in (x 3) 0 2 = 0) ∧ (¬ mm_in (x 4) 0 2 = 0) ∧ (¬ mm_in (x 5) 0 999 = 0) ∧ (¬ mm_in (x 6) 0 2 = 0) := by
    refine ⟨fun q => a0 (Or.inl q), fun q => a0 (Or.inr (Or.inl q)), fun q => a0 (Or.inr (Or.inr (Or.inl q))), fun q => a0 (Or.inr (Or.inr (Or.inr (Or.inl q)))), fun q => a0 (Or.inr (Or.inr (Or.inr (Or.inr (Or.inl q))))), fun q => a0 (Or.inr (Or.inr (Or.inr (Or.inr (Or.inr q)))))⟩
  obtain ⟨fm, hfm, hfm10, hF1, hF2⟩ := in_firm uF a1
  obtain ⟨hd, hhd, hhd2⟩ := mm_in_nat (N := 3) (by omega) a2
  obtain ⟨r, hr, hr2⟩ := mm_in_nat (N := 2) (by omega) a3
  obtain ⟨dr, hdr, hdr2⟩ := mm_in_nat (N := 2) (by omega) a4
  obtain ⟨z6, hz6, hz62⟩ := mm_in_nat (N := 2) (by omega) a6
  have hF11 := F11 uF
  have hL0 := PtL_ok (F := (fI h 49 5).toNatClampNeg) (fm := fm) (hd := hd) (r := r) (dr := dr) (bt := -1) uA hF11 hhd hdr hr
  obtain ⟨f, k1, k2, k3, k4, k5⟩ := z_gather147 hK hn hF1 hF11 hhd hdr hF2 hr uA c SE.id_
  rw [PtL_flt uA hF11 hhd hdr hr] at k5
  have h50 := k4.2.1
  have ef : fI f 49 5 = fI h 49 5 := fI_c (k3.1 49 (by omega)) 5
  have k1' : q_X2_gather K h n 147 (x 1) (x 2) (x 3) (x 4) = some f := by rw [hfm, hhd2, hr2, hdr2]; exact k1
  have gM : ∀ f2, PS f2 → SE h f2 → ∃ w, q_X11_gathers K f2 n 159 (x 1) (x 2) (x 3) (x 4) (-1) = some w ∧ PS w ∧ SE h w ∧ PtR w (PtL h (fI h 49 5).toNatClampNeg fm (-1) hd r dr) := fun f2 p2 e2 => by
    rw [hfm, hhd2, hr2, hdr2]
    exact z_X11_gathers (bt := -1) hK hn uF hF1 hF11 hhd hdr hF2 hr uA p2 e2
  by_cases e0 : PtL h (fI h 49 5).toNatClampNeg fm (-1) hd r dr = []
  · obtain ⟨w, l1, l2, l3', l4⟩ := gM f k2 k3
    refine fin (-1) f w ?_ k2 k3 ?_ l2 l3'
    · unfold q_X10_span
      simp only [gq_48 c hn, y_X10_isFirm c hn uF, z_X10_isHead, z_X10_isReview, z_X10_isDriver, z_X10_isWithin, Option.bind_some, a1, a2, a3, a4, a5, a6, if_false, g_48_2 c hn, gq_147 c hn, k1', g_48_2 k2 hn, g_147_4 k2 hn, k4.1, (len_nil h50).mpr e0, if_true]
    · unfold q_X11_span
      simp only [gq_159 k2 hn, y_X11_isFirm k2 hn (SE_JF k3 uF), ef, z_X11_isHead, z_X11_isReview, z_X11_isIn, Option.bind_some, a1, a2, a3, a4, a5, a6, if_false, l1, g_159_65 l2 hn, l4.1, (len_nil h50).mpr e0, if_true]
  have e0' : ¬ ni (PtL h (fI h 49 5).toNatClampNeg fm (-1) hd r dr).length = 0 := fun q => e0 ((len_nil h50).mp q)
  by_cases b0 : x 6 = 0
  · obtain ⟨w, l1, l2, l3', l4⟩ := gM f k2 k3
    obtain ⟨v, v1, v2⟩ := z_lineAt hK l2 hn l4 hL0 (x 5)
    refine fin (Int64.toInt32 (lineS (PtL h (fI h 49 5).toNatClampNeg fm (-1) hd r dr) (Int32.toInt64 (x 5)))) f w ?_ k2 k3 ?_ l2 l3'
    · unfold q_X10_span
      simp only [gq_48 c hn, y_X10_isFirm c hn uF, z_X10_isHead, z_X10_isReview, z_X10_isDriver, z_X10_isWithin, Option.bind_some, a1, a2, a3, a4, a5, a6, if_false, g_48_2 c hn, gq_147 c hn, k1', g_48_2 k2 hn, gq_147 k2 hn, g_147_4 k2 hn, k4.1, e0', if_pos b0, (z_line147 k2 hn k5 _).1]
    · unfold q_X11_span
      simp only [gq_159 k2 hn, y_X11_isFirm k2 hn (SE_JF k3 uF), ef, z_X11_isHead, z_X11_isReview, z_X11_isIn, Option.bind_some, a1, a2, a3, a4, a5, a6, if_false, l1, g_159_65 l2 hn, gq_159 l2 hn, l4.1, e0', if_pos b0, v1, z_X11_moded, v2]
  · have esc : ∀ l2 : Int32, ∃ f2, q_X10_endOfSpan K f n 48 (x 5) l2 = some (SCe (PtL h (fI h 49 5).toNatClampNeg fm (-1) hd r dr) (x 5) l2 (fI h 49 5).toNatClampNeg, f2) ∧ PS f2 ∧ SE h f2 := fun l2 => by
      obtain ⟨e', f2, q1, q2, q3, q4⟩ := esC hK hn hF1 hF11 hL0 (x 5) (fun i e => e = SCe (PtL h (fI h 49 5).toNatClampNeg fm (-1) hd r dr) (x 5) l2 i) l2 (fun i e _ hh he => by
        rw [SCe_neg hh]
        exact he) (fun i e _ hh he => by
        rw [SCe_pos hh, ← he]
        rfl) (fI h 49 5).toNatClampNeg 0 K (-1) f (by omega) (by omega) k2 k3 k4 rfl
      refine ⟨f2, ?_, q2, q3⟩
      unfold q_X10_endOfSpan
      rw [q4] at q1
      exact bnd (show lp_X10_endOfSpan_7 K n 48 (x 5) l2 K (-1) 0 f = _ from q1) rfl
    have hasF : ∃ o, o < (fI h 49 5).toNatClampNeg ∧ hasO (PtL h (fI h 49 5).toNatClampNeg fm (-1) hd r dr) o := by
      cases hq : PtL h (fI h 49 5).toNatClampNeg fm (-1) hd r dr with
      | nil => exact absurd hq e0
      | cons p t =>
        have hp : p ∈ PtL h (fI h 49 5).toNatClampNeg fm (-1) hd r dr := by rw [hq]; exact List.mem_cons_self
        have := ptOs_owner _ _ p hp
        exact ⟨p.1, by omega, p, List.mem_cons_self, rfl⟩
    have SS := (SCR_eq (PtL h (fI h 49 5).toNatClampNeg fm (-1) hd r dr) (x 5) (fI h 49 5).toNatClampNeg).resolve_left (fun q => by
      obtain ⟨o, o1, o2⟩ := hasF
      exact q.1 o o1 o2)
    have mM : ∀ f2, PS f2 → SE h f2 → ∃ w, q_X11_span K f2 n 159 (x 1) (x 2) (x 3) (x 4) (x 5) (x 6) = some (if x 6 = 1 then Int64.toInt32 (SRe (PtL h (fI h 49 5).toNatClampNeg fm (-1) hd r dr) (x 5) (fI h 49 5).toNatClampNeg).1 else Int64.toInt32 (SRe (PtL h (fI h 49 5).toNatClampNeg fm (-1) hd r dr) (x 5) (fI h 49 5).toNatClampNeg).2, w) ∧ PS w ∧ SE h w := fun f2 p2 e2 => by
      obtain ⟨w, l1, l2, l3', l4⟩ := gM f2 p2 e2
      have ef2 : fI f2 49 5 = fI h 49 5 := fI_c (e2.1 49 (by omega)) 5
      have em := z_msk (K := K) (n := n) l2 hn l4 hL0 (l1 := x 1) (l2 := x 2) (l3 := x 3) (l4 := x 4) (l5 := x 5) (l6 := x 6) (PtL h (fI h 49 5).toNatClampNeg fm (-1) hd r dr) [] K 0 rfl (by omega) (by omega)
      have em' : lp_X11_span_97 K w n 159 (x 1) (x 2) (x 3) (x 4) (x 5) (x 6) K 0 0 = some (ni (msk (PtL h (fI h 49 5).toNatClampNeg fm (-1) hd r dr) 0)) := em
      obtain ⟨w2, q1, q2, q3⟩ := esM hK hn uF hF1 hF11 hhd hdr hF2 hr uA (x 5) (x 6) (msk_lt _ 0 hL0 (by omega)) (fun o ho => by
        rw [msk_bit]
        exact ⟨fun z => z.resolve_left (by simp), Or.inr⟩) (fI h 49 5).toNatClampNeg 0 K (999999, 0) w (by omega) (by omega) l2 l3' rfl
      have q1' : lp_X11_span_137 K n 159 (x 1) (x 2) (x 3) (x 4) (x 5) (x 6) (ni (msk (PtL h (fI h 49 5).toNatClampNeg fm (-1) hd r dr) 0)) K 999999 0 0 w = some ((SRe (PtL h (fI h 49 5).toNatClampNeg fm (-1) hd r dr) (x 5) (fI h 49 5).toNatClampNeg).1, (SRe (PtL h (fI h 49 5).toNatClampNeg fm (-1) hd r dr) (x 5) (fI h 49 5).toNatClampNeg).2, w2) := by
        rw [hfm, hhd2, hr2, hdr2]; exact q1
      refine ⟨w2, ?_, q2, q3⟩
      unfold q_X11_span
      simp only [gq_159 p2 hn, y_X11_isFirm p2 hn (SE_JF e2 uF), ef2, z_X11_isHead, z_X11_isReview, z_X11_isIn, Option.bind_some, a1, a2, a3, a4, a5, a6, if_false, l1, g_159_65 l2 hn, l4.1, e0', if_neg b0, em', q1']
      split <;> rfl
    by_cases b2 : x 6 = 2
    · obtain ⟨f2, q1, q2, q3⟩ := esc 1
      obtain ⟨w, w1, w2, w3⟩ := mM f2 q2 q3
      have b1 : ¬ x 6 = 1 := by rw [b2]; decide
      rw [if_neg b1] at w1
      refine fin _ f2 w ?_ q2 q3 w1 w2 w3
      unfold q_X10_span
      simp only [gq_48 c hn, y_X10_isFirm c hn uF, z_X10_isHead, z_X10_isReview, z_X10_isDriver, z_X10_isWithin, Option.bind_some, a1, a2, a3, a4, a5, a6, if_false, g_48_2 c hn, gq_147 c hn, k1', g_48_2 k2 hn, gq_48 k2 hn, g_147_4 k2 hn, k4.1, e0', if_neg b0, if_pos b2, q1, SS.2.2.1]
    · obtain ⟨f2, q1, q2, q3⟩ := esc 0
      obtain ⟨w, w1, w2, w3⟩ := mM f2 q2 q3
      have b1 : x 6 = 1 := by
        rw [hz62] at b0 b2 ⊢
        have : z6 = 0 ∨ z6 = 1 ∨ z6 = 2 := by omega
        rcases this with rfl | rfl | rfl
        · exact absurd rfl b0
        · rfl
        · exact absurd rfl b2
      rw [if_pos b1] at w1
      refine fin _ f2 w ?_ q2 q3 w1 w2 w3
      unfold q_X10_span
      simp only [gq_48 c hn, y_X10_isFirm c hn uF, z_X10_isHead, z_X10_isReview, z_X10_isDriver, z_X10_isWithin, Option.bind_some, a1, a2, a3, a4, a5, a6, if_false, g_48_2 c hn, gq_147 c hn, k1', g_48_2 k2 hn, gq_48 k2 hn, g_147_4 k2 hn, k4.1, e0', if_neg b0, if_neg b2, q1, SS.2.1]
end CALLT

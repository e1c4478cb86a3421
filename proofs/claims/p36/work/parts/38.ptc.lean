/-! ===== the program's points: gathered ===== -/
section PTC
variable {K n : Nat} {h : mm_H}
/-- the points object at a (its rows right behind it) holds a list of points -/
def PtC (a : Nat) (h : mm_H) (L : List Pt) : Prop := fI h a 4 = ni L.length ∧ L.length ≤ 50 ∧ ∀ (i : Nat) (p : Pt), L[i]? = some p → iA h (a + 1) i = ni p.1 ∧ iA h (a + 2) i = p.2.1 ∧ iA h (a + 3) i = p.2.2
theorem add143 (c : PS h) (hn : 159 ≤ n) {L : List Pt} (q : PtC 143 h L) (hl : L.length < 50) (o : Nat) (x y : Int32) : ∃ g, q_X2_add K h n 143 (ni o) x y = some g ∧ PS g ∧ SE h g ∧ PtC 143 g (L ++ [(o, x, y)]) := by
  obtain ⟨q1, q2, q3⟩ := q
  have i9 : inb (ni L.length) 50 = true := ni_inb (by omega) hl
  have t9 : (ni L.length).toNatClampNeg = L.length := ni_tn (by omega)
  have n9 : ¬ (50 : Int32) ≤ ni L.length := fun q => by have := (ni_le (a := 50) (by omega) (by omega)).mp q; omega
  have b1 : PS (mm_si h 144 L.length (ni o)) := ps_144 c _ _
  have b2 : PS (mm_si (mm_si h 144 L.length (ni o)) 145 L.length x) := ps_145 b1 _ _
  have b3 : PS (mm_si (mm_si (mm_si h 144 L.length (ni o)) 145 L.length x) 146 L.length y) := ps_146 b2 _ _
  refine ⟨mm_sf (mm_si (mm_si (mm_si h 144 L.length (ni o)) 145 L.length x) 146 L.length y) 143 4 (.int (ni L.length + 1)), ?_, ps_143_4 b3 _, ⟨fun z hz => ?_, fun k _ _ _ _ => ?_, ?_⟩, ?_, ?_, fun i p hp => ?_⟩
  · unfold q_X2_add
    simp (maxDischargeDepth := 40) only [gq_143, g_143_0, g_143_1, g_143_2, g_143_3, g_143_4, p_143_4, ps_143_4, fs_143_4, g_143_5, p_143_5, ps_143_5, fs_143_5, g_143_6, p_143_6, ps_143_6, fs_143_6, g_143_7, p_143_7, ps_143_7, fs_143_7, g_143_8, p_143_8, ps_143_8, fs_143_8, g_143_9, p_143_9, ps_143_9, fs_143_9, gl_144, ge_144, pe_144, ps_144, is_144, gl_145, ge_145, pe_145, ps_145, is_145, gl_146, ge_146, pe_146, ps_146, is_146, c, hn, Option.bind_some, q1, n9, if_false, i9, t9, if_true, fI_sf_n, fJ_sf_n, fR_sf_n, fI_sf_o, fJ_sf_o, fR_sf_o, iA_sf, jA_sf, rA_sf, fI_si, fJ_si, fR_si, iA_si_n, jA_si, rA_si, fI_sj, fJ_sj, fR_sj, iA_sj, jA_sj_n, rA_sj, fI_sr, fJ_sr, fR_sr, iA_sr, jA_sr, rA_sr_n, ne_eq, not_false_eq_true, Nat.reduceEqDiff, Nat.zero_ne_one, Nat.one_ne_zero]
  · rw [mm_sf_n (by omega), mm_si_n (by omega), mm_si_n (by omega), mm_si_n (by omega)]
  · simp only [fI_sf_n, fJ_sf_n, fR_sf_n, fI_sf_o, fJ_sf_o, fR_sf_o, iA_sf, jA_sf, rA_sf, fI_si, fJ_si, fR_si, iA_si_n, jA_si, rA_si, fI_sj, fJ_sj, fR_sj, iA_sj, jA_sj_n, rA_sj, fI_sr, fJ_sr, fR_sr, iA_sr, jA_sr, rA_sr_n, ne_eq, not_false_eq_true, Nat.reduceEqDiff, Nat.zero_ne_one, Nat.one_ne_zero]
  · simp only [fI_sf_n, fJ_sf_n, fR_sf_n, fI_sf_o, fJ_sf_o, fR_sf_o, iA_sf, jA_sf, rA_sf, fI_si, fJ_si, fR_si, iA_si_n, jA_si, rA_si, fI_sj, fJ_sj, fR_sj, iA_sj, jA_sj_n, rA_sj, fI_sr, fJ_sr, fR_sr, iA_sr, jA_sr, rA_sr_n, ne_eq, not_false_eq_true, Nat.reduceEqDiff, Nat.zero_ne_one, Nat.one_ne_zero]
  · rw [fs_143_4 b3, List.length_append, ni_1]
    rfl
  · rw [List.length_append]
    exact hl
  · simp only [fI_sf_n, fJ_sf_n, fR_sf_n, fI_sf_o, fJ_sf_o, fR_sf_o, iA_sf, jA_sf, rA_sf, fI_si, fJ_si, fR_si, iA_si_n, jA_si, rA_si, fI_sj, fJ_sj, fR_sj, iA_sj, jA_sj_n, rA_sj, fI_sr, fJ_sr, fR_sr, iA_sr, jA_sr, rA_sr_n, ne_eq, not_false_eq_true, Nat.reduceEqDiff, Nat.zero_ne_one, Nat.one_ne_zero]
    show iA (mm_si (mm_si (mm_si h 144 L.length (ni o)) 145 L.length x) 146 L.length y) 144 i = _ ∧ iA (mm_si (mm_si (mm_si h 144 L.length (ni o)) 145 L.length x) 146 L.length y) 145 i = _ ∧ iA (mm_si (mm_si (mm_si h 144 L.length (ni o)) 145 L.length x) 146 L.length y) 146 i = _
    simp only [is_146 b2, is_145 b1, is_144 c, fI_sf_n, fJ_sf_n, fR_sf_n, fI_sf_o, fJ_sf_o, fR_sf_o, iA_sf, jA_sf, rA_sf, fI_si, fJ_si, fR_si, iA_si_n, jA_si, rA_si, fI_sj, fJ_sj, fR_sj, iA_sj, jA_sj_n, rA_sj, fI_sr, fJ_sr, fR_sr, iA_sr, jA_sr, rA_sr_n, ne_eq, not_false_eq_true, Nat.reduceEqDiff, Nat.zero_ne_one, Nat.one_ne_zero]
    by_cases hi : i < L.length
    · rw [List.getElem?_append_left hi] at hp
      rw [upd_n (by omega), upd_n (by omega), upd_n (by omega)]
      exact q3 i p hp
    · rw [List.getElem?_append_right (by omega)] at hp
      have h2 := (List.getElem?_eq_some_iff.mp hp).1
      rw [List.length_singleton] at h2
      have h3 : i = L.length := by omega
      subst h3
      rw [Nat.sub_self] at hp
      cases hp
      rw [upd_s, upd_s, upd_s]
      exact ⟨rfl, rfl, rfl⟩
theorem gaY143 (hK : 3000 ≤ K) (hn : 159 ≤ n) {g : mm_H} (u : JA g) {fm hd dr o r : Nat} (hhd : hd ≤ 3) (hdr : dr ≤ 2) (ho : o ≤ 10) (hof : o ≠ fm) (hfm : fm ≤ 10) (hr : r ≤ 2) (d : Int32) : ∀ (c : Nat) (y k : Nat) (h : mm_H) (L : List Pt), y + c = 5 * r → c < k → PS h → SE g h → JA h → PtC 143 h L → L.length + c ≤ 50 → ∃ f, lp_X2_gather_38 K n 143 (ni fm) (ni hd) (ni dr) (ni (5 * r)) d (ni o) k (ni y) h = some f ∧ PS f ∧ SE g f ∧ JA f ∧ PtC 143 f (L ++ ptYs g o hd dr d y c) := by
  intro c
  induction c with
  | zero =>
    intro y k h L hy hk p s j q hl
    obtain ⟨k, rfl⟩ : ∃ z, k = z + 1 := ⟨k - 1, by omega⟩
    refine ⟨h, ?_, p, s, j, ?_⟩
    · unfold lp_X2_gather_38
      rw [if_pos ((ni_le (by omega) (by omega)).mpr (by omega))]
    · unfold ptYs
      rw [List.append_nil]
      exact q
  | succ c ih =>
    intro y k h L hy hk p s j q hl
    obtain ⟨k, rfl⟩ : ∃ z, k = z + 1 := ⟨k - 1, by omega⟩
    have n1 : ¬ ni (5 * r) ≤ ni y := fun z => by have := (ni_le (by omega) (by omega)).mp z; omega
    have n2 : ¬ ni o = ni fm := fun z => hof ((ni_inj (by omega) (by omega)).mp z)
    have e1 := z_X0_knownBy hK p hn j (f := o) (y := y) (w := dr) ho (by omega) (by omega) d
    have e2 := z_X0_knownBy hK p hn j (f := o) (y := y) (w := 3 + hd) ho (by omega) (by omega) d
    rw [SE_kn s] at e1 e2
    have e3 : (3 : Int32) + ni hd = ni (3 + hd) := ni_add 3 hd
    unfold lp_X2_gather_38
    simp only [n1, n2, if_false, g_143_0 p hn, g_49_1 p hn, gq_51 p hn, gq_143 p hn, Option.bind_some, e1, e2, e3, ni_1]
    unfold ptYs ptY
    by_cases a1 : kn g o y dr d = -1
    · simp only [a1, if_true, List.nil_append]
      exact ih (y + 1) k h L (by omega) (by omega) p s j q (by omega)
    · by_cases a2 : kn g o y (3 + hd) d = -1
      · simp only [a1, a2, if_true, if_false, List.nil_append]
        exact ih (y + 1) k h L (by omega) (by omega) p s j q (by omega)
      · simp only [a1, a2, if_false]
        obtain ⟨f, f1, f2, f3, f4⟩ := add143 (K := K) p hn q (by omega) o (kn g o y dr d) (kn g o y (3 + hd) d)
        obtain ⟨w, w1, w2, w3, w4, w5⟩ := ih (y + 1) k f _ (by omega) (by omega) f2 (s.trans f3) (by
          have j2 : JA f := by
            unfold JA at j ⊢
            have e : ∀ x, x < 73 ∨ (151 ≤ x ∧ x ≤ 158) ∨ (160 ≤ x ∧ x ≤ 199) ∨ x = 207 → (∀ k, fI f x k = fI h x k) ∧ iA f x = iA h x := fun x q => ⟨fun k => fI_c (f3.1 x (by omega)) k, iA_c (f3.1 x (by omega))⟩
            rw [(e 51 (by omega)).1, (e 52 (by omega)).2, (e 53 (by omega)).2, (e 54 (by omega)).2, (e 55 (by omega)).2]
            exact j
          exact j2) f4 (by rw [List.length_append, List.length_singleton]; omega)
        refine ⟨w, ?_, w2, w3, w4, ?_⟩
        · rw [f1, Option.bind_some]; exact w1
        · rw [List.append_assoc] at w5
          exact w5
theorem gaN143 (hK : 3000 ≤ K) (c : PS h) (hn : 159 ≤ n) {l1 l2 l4 l6 l7 l8 : Int32} (h8 : l8 < 0) (n2 : ¬ l7 = l1) (k : Nat) : lp_X2_gather_38 K n 143 l1 l2 l4 (ni (5 * 0)) l6 l7 (k + 1) l8 h = lp_X2_gather_38 K n 143 l1 l2 l4 (ni (5 * 0)) l6 l7 k (l8 + 1) h := by
  have n1 : ¬ ni (5 * 0) ≤ l8 := Int32.not_le.mpr h8
  conv => lhs; unfold lp_X2_gather_38
  simp only [n1, n2, if_false, g_143_0 c hn, g_49_1 c hn, gq_51 c hn, Option.bind_some, z_X0_knownBy_no hK c hn _ _ _ _ h8, if_true]
theorem gaO143 (hK : 3000 ≤ K) (hn : 159 ≤ n) {g : mm_H} {F fm hd dr r : Nat} (uF : fI g 49 5 = ni F) (hF : F ≤ 11) (hhd : hd ≤ 3) (hdr : dr ≤ 2) (hfm : fm < F) (hr : r ≤ 2) (d : Int32) : ∀ (c : Nat) (o k : Nat) (h : mm_H) (L : List Pt), o + c = F → c < k → PS h → SE g h → JA g → JA h → PtC 143 h L → L.length ≤ 5 * (if o ≤ fm then o else o - 1) → ∃ f, lp_X2_gather_20 K n 143 (ni fm) (ni hd) (ni dr) (ni (5 * r)) d k (ni o) h = some f ∧ PS f ∧ SE g f ∧ PtC 143 f (L ++ ptOs g fm (-1) hd dr d (5 * r - 5) (5 * r - (5 * r - 5)) o c) := by
  intro c
  induction c with
  | zero =>
    intro o k h L ho hk p s jg j q hl
    obtain ⟨k, rfl⟩ : ∃ z, k = z + 1 := ⟨k - 1, by omega⟩
    refine ⟨h, ?_, p, s, ?_⟩
    · unfold lp_X2_gather_20
      simp only [g_143_0 p hn, g_49_5 p hn, Option.bind_some]
      rw [fI_c (s.1 49 (by omega)), uF, if_pos ((ni_le (by omega) (by omega)).mpr (by omega))]
    · unfold ptOs
      rw [List.append_nil]
      exact q
  | succ c ih =>
    intro o k h L ho hk p s jg j q hl
    obtain ⟨k, rfl⟩ : ∃ z, k = z + 1 := ⟨k - 1, by omega⟩
    have n1 : ¬ ni F ≤ ni o := fun z => by have := (ni_le (by omega) (by omega)).mp z; omega
    have e0 : fI h 49 5 = ni F := by rw [fI_c (s.1 49 (by omega))]; exact uF
    unfold lp_X2_gather_20
    simp only [g_143_0 p hn, g_49_5 p hn, Option.bind_some, e0, n1, if_false]
    obtain ⟨k9, hk9⟩ : ∃ z, K = z + 1 + 1 + 1 + 1 + 1 + 1 := ⟨K - 6, by omega⟩
    unfold ptOs
    by_cases hof : o = fm
    · have e1 : lp_X2_gather_38 K n 143 (ni fm) (ni hd) (ni dr) (ni (5 * r)) d (ni o) K (ni (5 * r) - 5) h = some h := by
        conv => lhs; arg 10; rw [hk9]
        unfold lp_X2_gather_38
        by_cases z : ni (5 * r) ≤ ni (5 * r) - 5
        · rw [if_pos z]
        · rw [if_neg z, if_pos (by rw [hof])]
      rw [e1, Option.bind_some, if_pos (Or.inl hof), List.nil_append, ni_1]
      refine ih (o + 1) k h L (by omega) (by omega) p s jg j q ?_
      rw [if_pos (by omega)] at hl
      rw [if_neg (by omega)]
      omega
    · have hob : ¬ (o = fm ∨ ni o = -1) := fun z => z.elim hof (ni_n1 (by omega))
      have hl2 : L.length + 5 ≤ 50 ∧ L.length + 5 ≤ 5 * (if o + 1 ≤ fm then o + 1 else o + 1 - 1) := by
        by_cases z : o ≤ fm
        · rw [if_pos z] at hl
          rw [if_pos (by omega)]
          omega
        · rw [if_neg z] at hl
          rw [if_neg (by omega)]
          omega
      have e1 : ∃ f, lp_X2_gather_38 K n 143 (ni fm) (ni hd) (ni dr) (ni (5 * r)) d (ni o) K (ni (5 * r) - 5) h = some f ∧ PS f ∧ SE g f ∧ JA f ∧ PtC 143 f (L ++ ptYs g o hd dr d (5 * r - 5) (5 * r - (5 * r - 5))) := by
        by_cases hr0 : r = 0
        · subst hr0
          have n2 : ¬ ni o = ni fm := fun z => hof ((ni_inj (by omega) (by omega)).mp z)
          refine ⟨h, ?_, p, s, j, ?_⟩
          · conv => lhs; arg 10; rw [hk9]
            rw [show ni (5 * 0) - 5 = -5 by decide, gaN143 hK p hn (by decide) n2, show (-5 : Int32) + 1 = -4 by decide, gaN143 hK p hn (by decide) n2, show (-4 : Int32) + 1 = -3 by decide, gaN143 hK p hn (by decide) n2, show (-3 : Int32) + 1 = -2 by decide, gaN143 hK p hn (by decide) n2, show (-2 : Int32) + 1 = -1 by decide, gaN143 hK p hn (by decide) n2, show (-1 : Int32) + 1 = 0 by decide]
            unfold lp_X2_gather_38
            rw [if_pos (by decide)]
          · show PtC 143 h (L ++ [])
            rw [List.append_nil]
            exact q
        · have e5 : ni (5 * r) - 5 = ni (5 * r - 5) := by
            obtain ⟨r, rfl⟩ : ∃ z, r = z + 1 := ⟨r - 1, by omega⟩
            rw [show 5 * (r + 1) = (5 * (r + 1) - 5) + 5 by omega, ← ni_add]
            show ni (5 * (r + 1) - 5) + 5 - 5 = _
            rw [Int32.add_sub_cancel]
            congr 1
          rw [e5]
          exact gaY143 hK hn jg hhd hdr (by omega) hof (by omega) hr d (5 * r - (5 * r - 5)) (5 * r - 5) K h L (by omega) (by omega) p s j q (by omega)
      obtain ⟨f, f1, f2, f3, f4, f5⟩ := e1
      have hlen := ptYs_len g o hd dr d (5 * r - (5 * r - 5)) (5 * r - 5)
      obtain ⟨w, w1, w2, w3, w4⟩ := ih (o + 1) k f _ (by omega) (by omega) f2 f3 jg f4 f5 (by rw [List.length_append]; omega)
      refine ⟨w, ?_, w2, w3, ?_⟩
      · rw [f1, Option.bind_some, ni_1]; exact w1
      · rw [if_neg hob, ← List.append_assoc]
        exact w4
theorem add147 (c : PS h) (hn : 159 ≤ n) {L : List Pt} (q : PtC 147 h L) (hl : L.length < 50) (o : Nat) (x y : Int32) : ∃ g, q_X2_add K h n 147 (ni o) x y = some g ∧ PS g ∧ SE h g ∧ PtC 147 g (L ++ [(o, x, y)]) := by
  obtain ⟨q1, q2, q3⟩ := q
  have i9 : inb (ni L.length) 50 = true := ni_inb (by omega) hl
  have t9 : (ni L.length).toNatClampNeg = L.length := ni_tn (by omega)
  have n9 : ¬ (50 : Int32) ≤ ni L.length := fun q => by have := (ni_le (a := 50) (by omega) (by omega)).mp q; omega
  have b1 : PS (mm_si h 148 L.length (ni o)) := ps_148 c _ _
  have b2 : PS (mm_si (mm_si h 148 L.length (ni o)) 149 L.length x) := ps_149 b1 _ _
  have b3 : PS (mm_si (mm_si (mm_si h 148 L.length (ni o)) 149 L.length x) 150 L.length y) := ps_150 b2 _ _
  refine ⟨mm_sf (mm_si (mm_si (mm_si h 148 L.length (ni o)) 149 L.length x) 150 L.length y) 147 4 (.int (ni L.length + 1)), ?_, ps_147_4 b3 _, ⟨fun z hz => ?_, fun k _ _ _ _ => ?_, ?_⟩, ?_, ?_, fun i p hp => ?_⟩
  · unfold q_X2_add
    simp (maxDischargeDepth := 40) only [gq_147, g_147_0, g_147_1, g_147_2, g_147_3, g_147_4, p_147_4, ps_147_4, fs_147_4, g_147_5, p_147_5, ps_147_5, fs_147_5, g_147_6, p_147_6, ps_147_6, fs_147_6, g_147_7, p_147_7, ps_147_7, fs_147_7, g_147_8, p_147_8, ps_147_8, fs_147_8, g_147_9, p_147_9, ps_147_9, fs_147_9, gl_148, ge_148, pe_148, ps_148, is_148, gl_149, ge_149, pe_149, ps_149, is_149, gl_150, ge_150, pe_150, ps_150, is_150, c, hn, Option.bind_some, q1, n9, if_false, i9, t9, if_true, fI_sf_n, fJ_sf_n, fR_sf_n, fI_sf_o, fJ_sf_o, fR_sf_o, iA_sf, jA_sf, rA_sf, fI_si, fJ_si, fR_si, iA_si_n, jA_si, rA_si, fI_sj, fJ_sj, fR_sj, iA_sj, jA_sj_n, rA_sj, fI_sr, fJ_sr, fR_sr, iA_sr, jA_sr, rA_sr_n, ne_eq, not_false_eq_true, Nat.reduceEqDiff, Nat.zero_ne_one, Nat.one_ne_zero]
  · rw [mm_sf_n (by omega), mm_si_n (by omega), mm_si_n (by omega), mm_si_n (by omega)]
  · simp only [fI_sf_n, fJ_sf_n, fR_sf_n, fI_sf_o, fJ_sf_o, fR_sf_o, iA_sf, jA_sf, rA_sf, fI_si, fJ_si, fR_si, iA_si_n, jA_si, rA_si, fI_sj, fJ_sj, fR_sj, iA_sj, jA_sj_n, rA_sj, fI_sr, fJ_sr, fR_sr, iA_sr, jA_sr, rA_sr_n, ne_eq, not_false_eq_true, Nat.reduceEqDiff, Nat.zero_ne_one, Nat.one_ne_zero]
  · simp only [fI_sf_n, fJ_sf_n, fR_sf_n, fI_sf_o, fJ_sf_o, fR_sf_o, iA_sf, jA_sf, rA_sf, fI_si, fJ_si, fR_si, iA_si_n, jA_si, rA_si, fI_sj, fJ_sj, fR_sj, iA_sj, jA_sj_n, rA_sj, fI_sr, fJ_sr, fR_sr, iA_sr, jA_sr, rA_sr_n, ne_eq, not_false_eq_true, Nat.reduceEqDiff, Nat.zero_ne_one, Nat.one_ne_zero]
  · rw [fs_147_4 b3, List.length_append, ni_1]
    rfl
  · rw [List.length_append]
    exact hl
  · simp only [fI_sf_n, fJ_sf_n, fR_sf_n, fI_sf_o, fJ_sf_o, fR_sf_o, iA_sf, jA_sf, rA_sf, fI_si, fJ_si, fR_si, iA_si_n, jA_si, rA_si, fI_sj, fJ_sj, fR_sj, iA_sj, jA_sj_n, rA_sj, fI_sr, fJ_sr, fR_sr, iA_sr, jA_sr, rA_sr_n, ne_eq, not_false_eq_true, Nat.reduceEqDiff, Nat.zero_ne_one, Nat.one_ne_zero]
    show iA (mm_si (mm_si (mm_si h 148 L.length (ni o)) 149 L.length x) 150 L.length y) 148 i = _ ∧ iA (mm_si (mm_si (mm_si h 148 L.length (ni o)) 149 L.length x) 150 L.length y) 149 i = _ ∧ iA (mm_si (mm_si (mm_si h 148 L.length (ni o)) 149 L.length x) 150 L.length y) 150 i = _
    simp only [is_150 b2, is_149 b1, is_148 c, fI_sf_n, fJ_sf_n, fR_sf_n, fI_sf_o, fJ_sf_o, fR_sf_o, iA_sf, jA_sf, rA_sf, fI_si, fJ_si, fR_si, iA_si_n, jA_si, rA_si, fI_sj, fJ_sj, fR_sj, iA_sj, jA_sj_n, rA_sj, fI_sr, fJ_sr, fR_sr, iA_sr, jA_sr, rA_sr_n, ne_eq, not_false_eq_true, Nat.reduceEqDiff, Nat.zero_ne_one, Nat.one_ne_zero]
    by_cases hi : i < L.length
    · rw [List.getElem?_append_left hi] at hp
      rw [upd_n (by omega), upd_n (by omega), upd_n (by omega)]
      exact q3 i p hp
    · rw [List.getElem?_append_right (by omega)] at hp
      have h2 := (List.getElem?_eq_some_iff.mp hp).1
      rw [List.length_singleton] at h2
      have h3 : i = L.length := by omega
      subst h3
      rw [Nat.sub_self] at hp
      cases hp
      rw [upd_s, upd_s, upd_s]
      exact ⟨rfl, rfl, rfl⟩
theorem gaY147 (hK : 3000 ≤ K) (hn : 159 ≤ n) {g : mm_H} (u : JA g) {fm hd dr o r : Nat} (hhd : hd ≤ 3) (hdr : dr ≤ 2) (ho : o ≤ 10) (hof : o ≠ fm) (hfm : fm ≤ 10) (hr : r ≤ 2) (d : Int32) : ∀ (c : Nat) (y k : Nat) (h : mm_H) (L : List Pt), y + c = 5 * r → c < k → PS h → SE g h → JA h → PtC 147 h L → L.length + c ≤ 50 → ∃ f, lp_X2_gather_38 K n 147 (ni fm) (ni hd) (ni dr) (ni (5 * r)) d (ni o) k (ni y) h = some f ∧ PS f ∧ SE g f ∧ JA f ∧ PtC 147 f (L ++ ptYs g o hd dr d y c) := by
  intro c
  induction c with
  | zero =>
    intro y k h L hy hk p s j q hl
    obtain ⟨k, rfl⟩ : ∃ z, k = z + 1 := ⟨k - 1, by omega⟩
    refine ⟨h, ?_, p, s, j, ?_⟩
    · unfold lp_X2_gather_38
      rw [if_pos ((ni_le (by omega) (by omega)).mpr (by omega))]
    · unfold ptYs
      rw [List.append_nil]
      exact q
  | succ c ih =>
    intro y k h L hy hk p s j q hl
    obtain ⟨k, rfl⟩ : ∃ z, k = z + 1 := ⟨k - 1, by omega⟩
    have n1 : ¬ ni (5 * r) ≤ ni y := fun z => by have := (ni_le (by omega) (by omega)).mp z; omega
    have n2 : ¬ ni o = ni fm := fun z => hof ((ni_inj (by omega) (by omega)).mp z)
    have e1 := z_X0_knownBy hK p hn j (f := o) (y := y) (w := dr) ho (by omega) (by omega) d
    have e2 := z_X0_knownBy hK p hn j (f := o) (y := y) (w := 3 + hd) ho (by omega) (by omega) d
    rw [SE_kn s] at e1 e2
    have e3 : (3 : Int32) + ni hd = ni (3 + hd) := ni_add 3 hd
    unfold lp_X2_gather_38
    simp only [n1, n2, if_false, g_147_0 p hn, g_49_1 p hn, gq_51 p hn, gq_147 p hn, Option.bind_some, e1, e2, e3, ni_1]
    unfold ptYs ptY
    by_cases a1 : kn g o y dr d = -1
    · simp only [a1, if_true, List.nil_append]
      exact ih (y + 1) k h L (by omega) (by omega) p s j q (by omega)
    · by_cases a2 : kn g o y (3 + hd) d = -1
      · simp only [a1, a2, if_true, if_false, List.nil_append]
        exact ih (y + 1) k h L (by omega) (by omega) p s j q (by omega)
      · simp only [a1, a2, if_false]
        obtain ⟨f, f1, f2, f3, f4⟩ := add147 (K := K) p hn q (by omega) o (kn g o y dr d) (kn g o y (3 + hd) d)
        obtain ⟨w, w1, w2, w3, w4, w5⟩ := ih (y + 1) k f _ (by omega) (by omega) f2 (s.trans f3) (by
          have j2 : JA f := by
            unfold JA at j ⊢
            have e : ∀ x, x < 73 ∨ (151 ≤ x ∧ x ≤ 158) ∨ (160 ≤ x ∧ x ≤ 199) ∨ x = 207 → (∀ k, fI f x k = fI h x k) ∧ iA f x = iA h x := fun x q => ⟨fun k => fI_c (f3.1 x (by omega)) k, iA_c (f3.1 x (by omega))⟩
            rw [(e 51 (by omega)).1, (e 52 (by omega)).2, (e 53 (by omega)).2, (e 54 (by omega)).2, (e 55 (by omega)).2]
            exact j
          exact j2) f4 (by rw [List.length_append, List.length_singleton]; omega)
        refine ⟨w, ?_, w2, w3, w4, ?_⟩
        · rw [f1, Option.bind_some]; exact w1
        · rw [List.append_assoc] at w5
          exact w5
theorem gaN147 (hK : 3000 ≤ K) (c : PS h) (hn : 159 ≤ n) {l1 l2 l4 l6 l7 l8 : Int32} (h8 : l8 < 0) (n2 : ¬ l7 = l1) (k : Nat) : lp_X2_gather_38 K n 147 l1 l2 l4 (ni (5 * 0)) l6 l7 (k + 1) l8 h = lp_X2_gather_38 K n 147 l1 l2 l4 (ni (5 * 0)) l6 l7 k (l8 + 1) h := by
  have n1 : ¬ ni (5 * 0) ≤ l8 := Int32.not_le.mpr h8
  conv => lhs; unfold lp_X2_gather_38
  simp only [n1, n2, if_false, g_147_0 c hn, g_49_1 c hn, gq_51 c hn, Option.bind_some, z_X0_knownBy_no hK c hn _ _ _ _ h8, if_true]
theorem gaO147 (hK : 3000 ≤ K) (hn : 159 ≤ n) {g : mm_H} {F fm hd dr r : Nat} (uF : fI g 49 5 = ni F) (hF : F ≤ 11) (hhd : hd ≤ 3) (hdr : dr ≤ 2) (hfm : fm < F) (hr : r ≤ 2) (d : Int32) : ∀ (c : Nat) (o k : Nat) (h : mm_H) (L : List Pt), o + c = F → c < k → PS h → SE g h → JA g → JA h → PtC 147 h L → L.length ≤ 5 * (if o ≤ fm then o else o - 1) → ∃ f, lp_X2_gather_20 K n 147 (ni fm) (ni hd) (ni dr) (ni (5 * r)) d k (ni o) h = some f ∧ PS f ∧ SE g f ∧ PtC 147 f (L ++ ptOs g fm (-1) hd dr d (5 * r - 5) (5 * r - (5 * r - 5)) o c) := by
  intro c
  induction c with
  | zero =>
    intro o k h L ho hk p s jg j q hl
    obtain ⟨k, rfl⟩ : ∃ z, k = z + 1 := ⟨k - 1, by omega⟩
    refine ⟨h, ?_, p, s, ?_⟩
    · unfold lp_X2_gather_20
      simp only [g_147_0 p hn, g_49_5 p hn, Option.bind_some]
      rw [fI_c (s.1 49 (by omega)), uF, if_pos ((ni_le (by omega) (by omega)).mpr (by omega))]
    · unfold ptOs
      rw [List.append_nil]
      exact q
  | succ c ih =>
    intro o k h L ho hk p s jg j q hl
    obtain ⟨k, rfl⟩ : ∃ z, k = z + 1 := ⟨k - 1, by omega⟩
    have n1 : ¬ ni F ≤ ni o := fun z => by have := (ni_le (by omega) (by omega)).mp z; omega
    have e0 : fI h 49 5 = ni F := by rw [fI_c (s.1 49 (by omega))]; exact uF
    unfold lp_X2_gather_20
    simp only [g_147_0 p hn, g_49_5 p hn, Option.bind_some, e0, n1, if_false]
    obtain ⟨k9, hk9⟩ : ∃ z, K = z + 1 + 1 + 1 + 1 + 1 + 1 := ⟨K - 6, by omega⟩
    unfold ptOs
    by_cases hof : o = fm
    · have e1 : lp_X2_gather_38 K n 147 (ni fm) (ni hd) (ni dr) (ni (5 * r)) d (ni o) K (ni (5 * r) - 5) h = some h := by
        conv => lhs; arg 10; rw [hk9]
        unfold lp_X2_gather_38
        by_cases z : ni (5 * r) ≤ ni (5 * r) - 5
        · rw [if_pos z]
        · rw [if_neg z, if_pos (by rw [hof])]
      rw [e1, Option.bind_some, if_pos (Or.inl hof), List.nil_append, ni_1]
      refine ih (o + 1) k h L (by omega) (by omega) p s jg j q ?_
      rw [if_pos (by omega)] at hl
      rw [if_neg (by omega)]
      omega
    · have hob : ¬ (o = fm ∨ ni o = -1) := fun z => z.elim hof (ni_n1 (by omega))
      have hl2 : L.length + 5 ≤ 50 ∧ L.length + 5 ≤ 5 * (if o + 1 ≤ fm then o + 1 else o + 1 - 1) := by
        by_cases z : o ≤ fm
        · rw [if_pos z] at hl
          rw [if_pos (by omega)]
          omega
        · rw [if_neg z] at hl
          rw [if_neg (by omega)]
          omega
      have e1 : ∃ f, lp_X2_gather_38 K n 147 (ni fm) (ni hd) (ni dr) (ni (5 * r)) d (ni o) K (ni (5 * r) - 5) h = some f ∧ PS f ∧ SE g f ∧ JA f ∧ PtC 147 f (L ++ ptYs g o hd dr d (5 * r - 5) (5 * r - (5 * r - 5))) := by
        by_cases hr0 : r = 0
        · subst hr0
          have n2 : ¬ ni o = ni fm := fun z => hof ((ni_inj (by omega) (by omega)).mp z)
          refine ⟨h, ?_, p, s, j, ?_⟩
          · conv => lhs; arg 10; rw [hk9]
            rw [show ni (5 * 0) - 5 = -5 by decide, gaN147 hK p hn (by decide) n2, show (-5 : Int32) + 1 = -4 by decide, gaN147 hK p hn (by decide) n2, show (-4 : Int32) + 1 = -3 by decide, gaN147 hK p hn (by decide) n2, show (-3 : Int32) + 1 = -2 by decide, gaN147 hK p hn (by decide) n2, show (-2 : Int32) + 1 = -1 by decide, gaN147 hK p hn (by decide) n2, show (-1 : Int32) + 1 = 0 by decide]
            unfold lp_X2_gather_38
            rw [if_pos (by decide)]
          · show PtC 147 h (L ++ [])
            rw [List.append_nil]
            exact q
        · have e5 : ni (5 * r) - 5 = ni (5 * r - 5) := by
            obtain ⟨r, rfl⟩ : ∃ z, r = z + 1 := ⟨r - 1, by omega⟩
            rw [show 5 * (r + 1) = (5 * (r + 1) - 5) + 5 by omega, ← ni_add]
            show ni (5 * (r + 1) - 5) + 5 - 5 = _
            rw [Int32.add_sub_cancel]
            congr 1
          rw [e5]
          exact gaY147 hK hn jg hhd hdr (by omega) hof (by omega) hr d (5 * r - (5 * r - 5)) (5 * r - 5) K h L (by omega) (by omega) p s j q (by omega)
      obtain ⟨f, f1, f2, f3, f4, f5⟩ := e1
      have hlen := ptYs_len g o hd dr d (5 * r - (5 * r - 5)) (5 * r - 5)
      obtain ⟨w, w1, w2, w3, w4⟩ := ih (o + 1) k f _ (by omega) (by omega) f2 f3 jg f4 f5 (by rw [List.length_append]; omega)
      refine ⟨w, ?_, w2, w3, ?_⟩
      · rw [f1, Option.bind_some, ni_1]; exact w1
      · rw [if_neg hob, ← List.append_assoc]
        exact w4
end PTC

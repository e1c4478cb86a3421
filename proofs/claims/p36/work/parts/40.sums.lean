/-! ===== sums over points; what the modes tell ===== -/
section SUMS
variable {K n : Nat} {h : mm_H}
def sm (f : Pt → Int64) : List Pt → Int64 → Int64
  | [], s => s
  | p :: t, s => sm f t (s + f p)
def f1 (_ : Pt) : Int64 := 1
def fX (p : Pt) : Int64 := Int32.toInt64 p.2.1
def fY (p : Pt) : Int64 := Int32.toInt64 p.2.2
def fXX (p : Pt) : Int64 := Int32.toInt64 p.2.1 * Int32.toInt64 p.2.1
def fXY (p : Pt) : Int64 := Int32.toInt64 p.2.1 * Int32.toInt64 p.2.2
/-- without one owner's -/
def flt (lo : Int32) (L : List Pt) : List Pt := L.filter (fun p => !decide (ni p.1 = lo))
abbrev S5 : Type := Int64 × Int64 × Int64 × Int64 × Int64
def SmC (a : Nat) (h : mm_H) (s : S5) : Prop := fJ h a 5 = s.1 ∧ fJ h a 6 = s.2.1 ∧ fJ h a 7 = s.2.2.1 ∧ fJ h a 8 = s.2.2.2.1 ∧ fJ h a 9 = s.2.2.2.2
def s5 (L : List Pt) (s : S5) : S5 := (sm f1 L s.1, sm fX L s.2.1, sm fY L s.2.2.1, sm fXX L s.2.2.2.1, sm fXY L s.2.2.2.2)
def clampM (v : Int64) : Int64 := if v < 0 then 0 else if 999999 < v then 999999 else v
def heldM (a b : Int64) : Int64 := if b = 0 then 0 else clampM (a / b)
theorem z_X8_held (a b : Int64) : q_X8_held K h n a b = some (heldM a b) := by
  unfold q_X8_held heldM clampM
  simp only [lg_cmp_eq, lg_cmp_ge, lg_cmp_le]
  by_cases h1 : b = 0
  · rw [if_pos h1, if_pos h1]
    rfl
  · rw [if_neg h1, if_neg h1, if_neg h1]
    by_cases h2 : 0 ≤ a / b
    · rw [if_pos h2, if_neg (Int64.not_lt.mpr h2)]
      by_cases h3 : a / b ≤ 999999
      · rw [if_pos h3, if_neg (Int64.not_lt.mpr h3)]
      · rw [if_neg h3, if_pos (Int64.not_le.mp h3)]
    · rw [if_neg h2, if_pos (Int64.not_le.mp h2)]
theorem clampM_max (v : Int64) : clampM (j_max 0 v) = clampM v := by
  unfold j_max
  by_cases h1 : v < 0
  · rw [if_pos h1]
    unfold clampM
    rw [if_pos h1]
    rfl
  · rw [if_neg h1]
def meanS (L : List Pt) (x : Int64) : Int64 := heldM (sm fY L 0 * x) (sm fX L 0)
def detS (L : List Pt) : Int64 := sm f1 L 0 * sm fXX L 0 - sm fX L 0 * sm fX L 0
def lineS (L : List Pt) (x : Int64) : Int64 := if detS L = 0 then meanS L x else heldM (sm fY L 0 * detS L + (sm f1 L 0 * sm fXY L 0 - sm fX L 0 * sm fY L 0) * (sm f1 L 0 * x - sm fX L 0)) (sm f1 L 0 * detS L)
def absS (v : Int64) : Int64 := if 0 ≤ v then v else -v
/-- how much "line" misses -/
def missS (L : List Pt) : List Pt → Int64 → Int64
  | [], s => s
  | p :: t, s => missS L t (s + absS (fY p - lineS L (fX p)))
theorem z_X8_size (v : Int64) : q_X8_size K h n v = some (absS v) := by
  unfold q_X8_size absS
  simp only [lg_cmp_ge]
  split <;> rfl
theorem flt_none {L : List Pt} (hL : ∀ p ∈ L, p.1 < 2147483648) : flt (-1) L = L := by
  unfold flt
  rw [List.filter_eq_self]
  intro p hp
  have := ni_n1 (hL p hp)
  simp [this]
theorem auS143 (c : PS h) (s : S5) : PS (mm_sf (mm_sf (mm_sf (mm_sf (mm_sf h 143 5 (.long s.1)) 143 6 (.long s.2.1)) 143 7 (.long s.2.2.1)) 143 8 (.long s.2.2.2.1)) 143 9 (.long s.2.2.2.2)) ∧ SE h (mm_sf (mm_sf (mm_sf (mm_sf (mm_sf h 143 5 (.long s.1)) 143 6 (.long s.2.1)) 143 7 (.long s.2.2.1)) 143 8 (.long s.2.2.2.1)) 143 9 (.long s.2.2.2.2)) ∧ SmC 143 (mm_sf (mm_sf (mm_sf (mm_sf (mm_sf h 143 5 (.long s.1)) 143 6 (.long s.2.1)) 143 7 (.long s.2.2.1)) 143 8 (.long s.2.2.2.1)) 143 9 (.long s.2.2.2.2)) s ∧ ∀ L, PtC 143 h L → PtC 143 (mm_sf (mm_sf (mm_sf (mm_sf (mm_sf h 143 5 (.long s.1)) 143 6 (.long s.2.1)) 143 7 (.long s.2.2.1)) 143 8 (.long s.2.2.2.1)) 143 9 (.long s.2.2.2.2)) L := by
  have b1 : PS (mm_sf h 143 5 (.long s.1)) := ps_143_5 c _
  have b2 : PS (mm_sf (mm_sf h 143 5 (.long s.1)) 143 6 (.long s.2.1)) := ps_143_6 b1 _
  have b3 : PS (mm_sf (mm_sf (mm_sf h 143 5 (.long s.1)) 143 6 (.long s.2.1)) 143 7 (.long s.2.2.1)) := ps_143_7 b2 _
  have b4 : PS (mm_sf (mm_sf (mm_sf (mm_sf h 143 5 (.long s.1)) 143 6 (.long s.2.1)) 143 7 (.long s.2.2.1)) 143 8 (.long s.2.2.2.1)) := ps_143_8 b3 _
  refine ⟨ps_143_9 b4 _, ⟨fun z hz => ?_, fun k _ _ _ _ => ?_, ?_⟩, ?_, fun L q => ?_⟩
  · rw [mm_sf_n (by omega), mm_sf_n (by omega), mm_sf_n (by omega), mm_sf_n (by omega), mm_sf_n (by omega)]
  · simp only [fI_sf_n, fJ_sf_n, fR_sf_n, fI_sf_o, fJ_sf_o, fR_sf_o, iA_sf, jA_sf, rA_sf, fI_si, fJ_si, fR_si, iA_si_n, jA_si, rA_si, fI_sj, fJ_sj, fR_sj, iA_sj, jA_sj_n, rA_sj, fI_sr, fJ_sr, fR_sr, iA_sr, jA_sr, rA_sr_n, ne_eq, not_false_eq_true, Nat.reduceEqDiff, Nat.zero_ne_one, Nat.one_ne_zero]
  · simp only [fI_sf_n, fJ_sf_n, fR_sf_n, fI_sf_o, fJ_sf_o, fR_sf_o, iA_sf, jA_sf, rA_sf, fI_si, fJ_si, fR_si, iA_si_n, jA_si, rA_si, fI_sj, fJ_sj, fR_sj, iA_sj, jA_sj_n, rA_sj, fI_sr, fJ_sr, fR_sr, iA_sr, jA_sr, rA_sr_n, ne_eq, not_false_eq_true, Nat.reduceEqDiff, Nat.zero_ne_one, Nat.one_ne_zero]
  · unfold SmC
    refine ⟨?_, ?_, ?_, ?_, ?_⟩
    · simp only [fs_143_5 c, fI_sf_n, fJ_sf_n, fR_sf_n, fI_sf_o, fJ_sf_o, fR_sf_o, iA_sf, jA_sf, rA_sf, fI_si, fJ_si, fR_si, iA_si_n, jA_si, rA_si, fI_sj, fJ_sj, fR_sj, iA_sj, jA_sj_n, rA_sj, fI_sr, fJ_sr, fR_sr, iA_sr, jA_sr, rA_sr_n, ne_eq, not_false_eq_true, Nat.reduceEqDiff, Nat.zero_ne_one, Nat.one_ne_zero]
    · simp only [fs_143_6 b1, fI_sf_n, fJ_sf_n, fR_sf_n, fI_sf_o, fJ_sf_o, fR_sf_o, iA_sf, jA_sf, rA_sf, fI_si, fJ_si, fR_si, iA_si_n, jA_si, rA_si, fI_sj, fJ_sj, fR_sj, iA_sj, jA_sj_n, rA_sj, fI_sr, fJ_sr, fR_sr, iA_sr, jA_sr, rA_sr_n, ne_eq, not_false_eq_true, Nat.reduceEqDiff, Nat.zero_ne_one, Nat.one_ne_zero]
    · simp only [fs_143_7 b2, fI_sf_n, fJ_sf_n, fR_sf_n, fI_sf_o, fJ_sf_o, fR_sf_o, iA_sf, jA_sf, rA_sf, fI_si, fJ_si, fR_si, iA_si_n, jA_si, rA_si, fI_sj, fJ_sj, fR_sj, iA_sj, jA_sj_n, rA_sj, fI_sr, fJ_sr, fR_sr, iA_sr, jA_sr, rA_sr_n, ne_eq, not_false_eq_true, Nat.reduceEqDiff, Nat.zero_ne_one, Nat.one_ne_zero]
    · simp only [fs_143_8 b3, fI_sf_n, fJ_sf_n, fR_sf_n, fI_sf_o, fJ_sf_o, fR_sf_o, iA_sf, jA_sf, rA_sf, fI_si, fJ_si, fR_si, iA_si_n, jA_si, rA_si, fI_sj, fJ_sj, fR_sj, iA_sj, jA_sj_n, rA_sj, fI_sr, fJ_sr, fR_sr, iA_sr, jA_sr, rA_sr_n, ne_eq, not_false_eq_true, Nat.reduceEqDiff, Nat.zero_ne_one, Nat.one_ne_zero]
    · exact fs_143_9 b4 _
  · unfold PtC at q ⊢
    simp only [fI_sf_n, fJ_sf_n, fR_sf_n, fI_sf_o, fJ_sf_o, fR_sf_o, iA_sf, jA_sf, rA_sf, fI_si, fJ_si, fR_si, iA_si_n, jA_si, rA_si, fI_sj, fJ_sj, fR_sj, iA_sj, jA_sj_n, rA_sj, fI_sr, fJ_sr, fR_sr, iA_sr, jA_sr, rA_sr_n, ne_eq, not_false_eq_true, Nat.reduceEqDiff, Nat.zero_ne_one, Nat.one_ne_zero]
    exact q
theorem auL143 (hn : 159 ≤ n) (lo : Int32) (L : List Pt) : ∀ (rest pre : List Pt) (k : Nat) (h : mm_H) (s : S5), L = pre ++ rest → rest.length < k → PS h → PtC 143 h L → SmC 143 h s → ∃ f, lp_X2_addUp_27 K n 143 lo k (ni pre.length) h = some f ∧ PS f ∧ SE h f ∧ PtC 143 f L ∧ SmC 143 f (s5 (flt lo rest) s) := by
  intro rest
  induction rest with
  | nil =>
    intro pre k h s hL hk p q m
    obtain ⟨k, rfl⟩ : ∃ z, k = z + 1 := ⟨k - 1, by omega⟩
    refine ⟨h, ?_, p, SE.id_, q, m⟩
    unfold lp_X2_addUp_27
    rw [List.append_nil] at hL
    subst hL
    simp only [g_143_4 p hn, q.1, Option.bind_some]
    rw [if_pos (Int32.le_refl _)]
  | cons t rest ih =>
    intro pre k h s hL hk p q m
    obtain ⟨k, rfl⟩ : ∃ z, k = z + 1 := ⟨k - 1, by omega⟩
    have hlen : L.length = pre.length + (rest.length + 1) := by rw [hL, List.length_append, List.length_cons]
    have h50 := q.2.1
    have n1 : ¬ ni L.length ≤ ni pre.length := fun z => by have := (ni_le (by omega) (by omega)).mp z; omega
    have n2 : ¬ (50 : Int32) ≤ ni pre.length := fun z => by have := (ni_le (a := 50) (by omega) (by omega)).mp z; omega
    have i9 : inb (ni pre.length) 50 = true := ni_inb (by omega) (by omega)
    have t9 : (ni pre.length).toNatClampNeg = pre.length := ni_tn (by omega)
    have hget : L[pre.length]? = some t := by rw [hL, List.getElem?_append_right (Nat.le_refl _), Nat.sub_self]; rfl
    obtain ⟨o1, o2, o3⟩ := q.2.2 _ _ hget
    have hL2 : L = (pre ++ [t]) ++ rest := by rw [hL, List.append_assoc]; rfl
    have hpl : ni (pre.length + 1) = ni (pre ++ [t]).length := by rw [List.length_append]; rfl
    rw [List.length_cons] at hk
    by_cases hs : ni t.1 = lo
    · obtain ⟨f, f1, f2, f3, f4, f5⟩ := ih (pre ++ [t]) k h s hL2 (by omega) p q m
      refine ⟨f, ?_, f2, f3, f4, ?_⟩
      · unfold lp_X2_addUp_27
        simp only [g_143_4 p hn, g_143_1 p hn, ge_144 p hn, q.1, Option.bind_some, n1, n2, if_false, i9, t9, if_true]
        rw [o1, hs, if_pos rfl, ni_1, hpl]
        exact f1
      · have : flt lo (t :: rest) = flt lo rest := by unfold flt; rw [List.filter_cons_of_neg (by simp [hs])]
        rw [this]
        exact f5
    · obtain ⟨b1, b2, b3, b4⟩ := auS143 p (s.1 + 1, s.2.1 + fX t, s.2.2.1 + fY t, s.2.2.2.1 + fXX t, s.2.2.2.2 + fXY t)
      obtain ⟨f, f1, f2, f3, f4, f5⟩ := ih (pre ++ [t]) k _ _ hL2 (by omega) b1 (b4 L q) b3
      refine ⟨f, ?_, f2, b2.trans f3, f4, ?_⟩
      · unfold lp_X2_addUp_27
        have m1 := m.1
        have m2 := m.2.1
        have m3 := m.2.2.1
        have m4 := m.2.2.2.1
        have m5 := m.2.2.2.2
        have o1' : iA h 144 pre.length = ni t.1 := o1
        have o2' : iA h 145 pre.length = t.2.1 := o2
        have o3' : iA h 146 pre.length = t.2.2 := o3
        simp (maxDischargeDepth := 40) only [gq_143, g_143_0, g_143_1, g_143_2, g_143_3, g_143_4, p_143_4, ps_143_4, fs_143_4, g_143_5, p_143_5, ps_143_5, fs_143_5, g_143_6, p_143_6, ps_143_6, fs_143_6, g_143_7, p_143_7, ps_143_7, fs_143_7, g_143_8, p_143_8, ps_143_8, fs_143_8, g_143_9, p_143_9, ps_143_9, fs_143_9, gl_144, ge_144, pe_144, ps_144, is_144, gl_145, ge_145, pe_145, ps_145, is_145, gl_146, ge_146, pe_146, ps_146, is_146, p, hn, q.1, Option.bind_some, n1, n2, if_false, i9, t9, if_true, o1', hs, o2', o3', m1, m2, m3, m4, m5, ni_1, hpl, fI_sf_n, fJ_sf_n, fR_sf_n, fI_sf_o, fJ_sf_o, fR_sf_o, iA_sf, jA_sf, rA_sf, fI_si, fJ_si, fR_si, iA_si_n, jA_si, rA_si, fI_sj, fJ_sj, fR_sj, iA_sj, jA_sj_n, rA_sj, fI_sr, fJ_sr, fR_sr, iA_sr, jA_sr, rA_sr_n, ne_eq, not_false_eq_true, Nat.reduceEqDiff, Nat.zero_ne_one, Nat.one_ne_zero]
        exact f1
      · have : flt lo (t :: rest) = t :: flt lo rest := by unfold flt; rw [List.filter_cons_of_pos (by simp [hs])]
        rw [this]
        exact f5
theorem z_addUp143 (hK : 3000 ≤ K) (c : PS h) (hn : 159 ≤ n) {L : List Pt} (q : PtC 143 h L) (lo : Int32) : ∃ f, q_X2_addUp K h n 143 lo = some f ∧ PS f ∧ SE h f ∧ PtC 143 f L ∧ SmC 143 f (s5 (flt lo L) (0, 0, 0, 0, 0)) := by
  obtain ⟨b1, b2, b3, b4⟩ := auS143 c (0, 0, 0, 0, 0)
  have h50 := q.2.1
  obtain ⟨f, f1, f2, f3, f4, f5⟩ := auL143 (K := K) hn lo L L [] K _ _ rfl (by omega) b1 (b4 L q) b3
  refine ⟨f, ?_, f2, b2.trans f3, f4, f5⟩
  unfold q_X2_addUp
  simp (maxDischargeDepth := 40) only [gq_143, g_143_0, g_143_1, g_143_2, g_143_3, g_143_4, p_143_4, ps_143_4, fs_143_4, g_143_5, p_143_5, ps_143_5, fs_143_5, g_143_6, p_143_6, ps_143_6, fs_143_6, g_143_7, p_143_7, ps_143_7, fs_143_7, g_143_8, p_143_8, ps_143_8, fs_143_8, g_143_9, p_143_9, ps_143_9, fs_143_9, c, hn, Option.bind_some]
  exact bnd (show lp_X2_addUp_27 K n 143 lo K (ni 0) (mm_sf (mm_sf (mm_sf (mm_sf (mm_sf h 143 5 (.long 0)) 143 6 (.long 0)) 143 7 (.long 0)) 143 8 (.long 0)) 143 9 (.long 0)) = some f from f1) rfl
theorem z_gather143 (hK : 3000 ≤ K) (hn : 159 ≤ n) {g : mm_H} {F fm hd dr r : Nat} (uF : fI g 49 5 = ni F) (hF : F ≤ 11) (hhd : hd ≤ 3) (hdr : dr ≤ 2) (hfm : fm < F) (hr : r ≤ 2) (jg : JA g) (p : PS h) (s : SE g h) : ∃ f, q_X2_gather K h n 143 (ni fm) (ni hd) (ni r) (ni dr) = some f ∧ PS f ∧ SE g f ∧ PtC 143 f (PtL g F fm (-1) hd r dr) ∧ SmC 143 f (s5 (flt (-1) (PtL g F fm (-1) hd r dr)) (0, 0, 0, 0, 0)) := by
  have b1 : PS (mm_sf h 143 4 (.int 0)) := ps_143_4 p _
  have s1 : SE g (mm_sf h 143 4 (.int 0)) := s.trans ⟨fun z hz => mm_sf_n (by omega), fun k _ _ h65 _ => fI_sf_n (by decide) _ _ _, fJ_sf_n (by decide) _ _ _⟩
  obtain ⟨f, f1, f2, f3, f4⟩ := gaO143 hK hn uF hF hhd hdr hfm hr (ni (500 * r)) F 0 K (mm_sf h 143 4 (.int 0)) [] (by omega) (by omega) b1 s1 jg (SE_JA s1 jg) ⟨fs_143_4 p _, Nat.zero_le _, fun i p q => by cases q⟩ (by simp)
  obtain ⟨w, w1, w2, w3, w4, w5⟩ := z_addUp143 hK f2 hn f4 (-1)
  refine ⟨w, ?_, w2, f3.trans w3, w4, w5⟩
  unfold q_X2_gather
  rw [p_143_4 p hn, Option.bind_some, show ni r * 500 = ni (500 * r) from by rw [show (500 : Int32) = ni 500 from rfl, ni_mul, Nat.mul_comm], show ni r * 5 = ni (5 * r) from by rw [show (5 : Int32) = ni 5 from rfl, ni_mul, Nat.mul_comm]]
  have f1' : lp_X2_gather_20 K n 143 (ni fm) (ni hd) (ni dr) (ni (5 * r)) (ni (500 * r)) K 0 (mm_sf h 143 4 (.int 0)) = some f := f1
  rw [f1', Option.bind_some, gq_143 f2 hn, Option.bind_some, w1]
  rfl
theorem z_line143 (c : PS h) (hn : 159 ≤ n) {L : List Pt} (m : SmC 143 h (s5 L (0, 0, 0, 0, 0))) (x : Int64) : q_X2_lineTells K h n 143 x = some (lineS L x) ∧ q_X2_meanTells K h n 143 x = some (meanS L x) := by
  obtain ⟨m1, m2, m3, m4, m5⟩ := m
  have e2 : q_X2_meanTells K h n 143 x = some (meanS L x) := by
    unfold q_X2_meanTells
    simp only [g_143_7 c hn, g_143_6 c hn, m2, m3, Option.bind_some, z_X8_held]
    rfl
  refine ⟨?_, e2⟩
  unfold q_X2_lineTells
  simp only [g_143_5 c hn, g_143_6 c hn, g_143_7 c hn, g_143_8 c hn, g_143_9 c hn, gq_143 c hn, m1, m2, m3, m4, m5, Option.bind_some, lg_cmp_eq, e2, z_X8_held]
  unfold lineS
  by_cases hd : detS L = 0
  · rw [if_pos hd]
    exact if_pos hd
  · rw [if_neg hd]
    exact if_neg hd
theorem auS147 (c : PS h) (s : S5) : PS (mm_sf (mm_sf (mm_sf (mm_sf (mm_sf h 147 5 (.long s.1)) 147 6 (.long s.2.1)) 147 7 (.long s.2.2.1)) 147 8 (.long s.2.2.2.1)) 147 9 (.long s.2.2.2.2)) ∧ SE h (mm_sf (mm_sf (mm_sf (mm_sf (mm_sf h 147 5 (.long s.1)) 147 6 (.long s.2.1)) 147 7 (.long s.2.2.1)) 147 8 (.long s.2.2.2.1)) 147 9 (.long s.2.2.2.2)) ∧ SmC 147 (mm_sf (mm_sf (mm_sf (mm_sf (mm_sf h 147 5 (.long s.1)) 147 6 (.long s.2.1)) 147 7 (.long s.2.2.1)) 147 8 (.long s.2.2.2.1)) 147 9 (.long s.2.2.2.2)) s ∧ ∀ L, PtC 147 h L → PtC 147 (mm_sf (mm_sf (mm_sf (mm_sf (mm_sf h 147 5 (.long s.1)) 147 6 (.long s.2.1)) 147 7 (.long s.2.2.1)) 147 8 (.long s.2.2.2.1)) 147 9 (.long s.2.2.2.2)) L := by
  have b1 : PS (mm_sf h 147 5 (.long s.1)) := ps_147_5 c _
  have b2 : PS (mm_sf (mm_sf h 147 5 (.long s.1)) 147 6 (.long s.2.1)) := ps_147_6 b1 _
  have b3 : PS (mm_sf (mm_sf (mm_sf h 147 5 (.long s.1)) 147 6 (.long s.2.1)) 147 7 (.long s.2.2.1)) := ps_147_7 b2 _
  have b4 : PS (mm_sf (mm_sf (mm_sf (mm_sf h 147 5 (.long s.1)) 147 6 (.long s.2.1)) 147 7 (.long s.2.2.1)) 147 8 (.long s.2.2.2.1)) := ps_147_8 b3 _
  refine ⟨ps_147_9 b4 _, ⟨fun z hz => ?_, fun k _ _ _ _ => ?_, ?_⟩, ?_, fun L q => ?_⟩
  · rw [mm_sf_n (by omega), mm_sf_n (by omega), mm_sf_n (by omega), mm_sf_n (by omega), mm_sf_n (by omega)]
  · simp only [fI_sf_n, fJ_sf_n, fR_sf_n, fI_sf_o, fJ_sf_o, fR_sf_o, iA_sf, jA_sf, rA_sf, fI_si, fJ_si, fR_si, iA_si_n, jA_si, rA_si, fI_sj, fJ_sj, fR_sj, iA_sj, jA_sj_n, rA_sj, fI_sr, fJ_sr, fR_sr, iA_sr, jA_sr, rA_sr_n, ne_eq, not_false_eq_true, Nat.reduceEqDiff, Nat.zero_ne_one, Nat.one_ne_zero]
  · simp only [fI_sf_n, fJ_sf_n, fR_sf_n, fI_sf_o, fJ_sf_o, fR_sf_o, iA_sf, jA_sf, rA_sf, fI_si, fJ_si, fR_si, iA_si_n, jA_si, rA_si, fI_sj, fJ_sj, fR_sj, iA_sj, jA_sj_n, rA_sj, fI_sr, fJ_sr, fR_sr, iA_sr, jA_sr, rA_sr_n, ne_eq, not_false_eq_true, Nat.reduceEqDiff, Nat.zero_ne_one, Nat.one_ne_zero]
  · unfold SmC
    refine ⟨?_, ?_, ?_, ?_, ?_⟩
    · simp only [fs_147_5 c, fI_sf_n, fJ_sf_n, fR_sf_n, fI_sf_o, fJ_sf_o, fR_sf_o, iA_sf, jA_sf, rA_sf, fI_si, fJ_si, fR_si, iA_si_n, jA_si, rA_si, fI_sj, fJ_sj, fR_sj, iA_sj, jA_sj_n, rA_sj, fI_sr, fJ_sr, fR_sr, iA_sr, jA_sr, rA_sr_n, ne_eq, not_false_eq_true, Nat.reduceEqDiff, Nat.zero_ne_one, Nat.one_ne_zero]
    · simp only [fs_147_6 b1, fI_sf_n, fJ_sf_n, fR_sf_n, fI_sf_o, fJ_sf_o, fR_sf_o, iA_sf, jA_sf, rA_sf, fI_si, fJ_si, fR_si, iA_si_n, jA_si, rA_si, fI_sj, fJ_sj, fR_sj, iA_sj, jA_sj_n, rA_sj, fI_sr, fJ_sr, fR_sr, iA_sr, jA_sr, rA_sr_n, ne_eq, not_false_eq_true, Nat.reduceEqDiff, Nat.zero_ne_one, Nat.one_ne_zero]
    · simp only [fs_147_7 b2, fI_sf_n, fJ_sf_n, fR_sf_n, fI_sf_o, fJ_sf_o, fR_sf_o, iA_sf, jA_sf, rA_sf, fI_si, fJ_si, fR_si, iA_si_n, jA_si, rA_si, fI_sj, fJ_sj, fR_sj, iA_sj, jA_sj_n, rA_sj, fI_sr, fJ_sr, fR_sr, iA_sr, jA_sr, rA_sr_n, ne_eq, not_false_eq_true, Nat.reduceEqDiff, Nat.zero_ne_one, Nat.one_ne_zero]
    · simp only [fs_147_8 b3, fI_sf_n, fJ_sf_n, fR_sf_n, fI_sf_o, fJ_sf_o, fR_sf_o, iA_sf, jA_sf, rA_sf, fI_si, fJ_si, fR_si, iA_si_n, jA_si, rA_si, fI_sj, fJ_sj, fR_sj, iA_sj, jA_sj_n, rA_sj, fI_sr, fJ_sr, fR_sr, iA_sr, jA_sr, rA_sr_n, ne_eq, not_false_eq_true, Nat.reduceEqDiff, Nat.zero_ne_one, Nat.one_ne_zero]
    · exact fs_147_9 b4 _
  · unfold PtC at q ⊢
    simp only [fI_sf_n, fJ_sf_n, fR_sf_n, fI_sf_o, fJ_sf_o, fR_sf_o, iA_sf, jA_sf, rA_sf, fI_si, fJ_si, fR_si, iA_si_n, jA_si, rA_si, fI_sj, fJ_sj, fR_sj, iA_sj, jA_sj_n, rA_sj, fI_sr, fJ_sr, fR_sr, iA_sr, jA_sr, rA_sr_n, ne_eq, not_false_eq_true, Nat.reduceEqDiff, Nat.zero_ne_one, Nat.one_ne_zero]
    exact q
theorem auL147 (hn : 159 ≤ n) (lo : Int32) (L : List Pt) : ∀ (rest pre : List Pt) (k : Nat) (h : mm_H) (s : S5), L = pre ++ rest → rest.length < k → PS h → PtC 147 h L → SmC 147 h s → ∃ f, lp_X2_addUp_27 K n 147 lo k (ni pre.length) h = some f ∧ PS f ∧ SE h f ∧ PtC 147 f L ∧ SmC 147 f (s5 (flt lo rest) s) := by
  intro rest
  induction rest with
  | nil =>
    intro pre k h s hL hk p q m
    obtain ⟨k, rfl⟩ : ∃ z, k = z + 1 := ⟨k - 1, by omega⟩
    refine ⟨h, ?_, p, SE.id_, q, m⟩
    unfold lp_X2_addUp_27
    rw [List.append_nil] at hL
    subst hL
    simp only [g_147_4 p hn, q.1, Option.bind_some]
    rw [if_pos (Int32.le_refl _)]
  | cons t rest ih =>
    intro pre k h s hL hk p q m
    obtain ⟨k, rfl⟩ : ∃ z, k = z + 1 := ⟨k - 1, by omega⟩
    have hlen : L.length = pre.length + (rest.length + 1) := by rw [hL, List.length_append, List.length_cons]
    have h50 := q.2.1
    have n1 : ¬ ni L.length ≤ ni pre.length := fun z => by have := (ni_le (by omega) (by omega)).mp z; omega
    have n2 : ¬ (50 : Int32) ≤ ni pre.length := fun z => by have := (ni_le (a := 50) (by omega) (by omega)).mp z; omega
    have i9 : inb (ni pre.length) 50 = true := ni_inb (by omega) (by omega)
    have t9 : (ni pre.length).toNatClampNeg = pre.length := ni_tn (by omega)
    have hget : L[pre.length]? = some t := by rw [hL, List.getElem?_append_right (Nat.le_refl _), Nat.sub_self]; rfl
    obtain ⟨o1, o2, o3⟩ := q.2.2 _ _ hget
    have hL2 : L = (pre ++ [t]) ++ rest := by rw [hL, List.append_assoc]; rfl
    have hpl : ni (pre.length + 1) = ni (pre ++ [t]).length := by rw [List.length_append]; rfl
    rw [List.length_cons] at hk
    by_cases hs : ni t.1 = lo
    · obtain ⟨f, f1, f2, f3, f4, f5⟩ := ih (pre ++ [t]) k h s hL2 (by omega) p q m
      refine ⟨f, ?_, f2, f3, f4, ?_⟩
      · unfold lp_X2_addUp_27
        simp only [g_147_4 p hn, g_147_1 p hn, ge_148 p hn, q.1, Option.bind_some, n1, n2, if_false, i9, t9, if_true]
        rw [o1, hs, if_pos rfl, ni_1, hpl]
        exact f1
      · have : flt lo (t :: rest) = flt lo rest := by unfold flt; rw [List.filter_cons_of_neg (by simp [hs])]
        rw [this]
        exact f5
    · obtain ⟨b1, b2, b3, b4⟩ := auS147 p (s.1 + 1, s.2.1 + fX t, s.2.2.1 + fY t, s.2.2.2.1 + fXX t, s.2.2.2.2 + fXY t)
      obtain ⟨f, f1, f2, f3, f4, f5⟩ := ih (pre ++ [t]) k _ _ hL2 (by omega) b1 (b4 L q) b3
      refine ⟨f, ?_, f2, b2.trans f3, f4, ?_⟩
      · unfold lp_X2_addUp_27
        have m1 := m.1
        have m2 := m.2.1
        have m3 := m.2.2.1
        have m4 := m.2.2.2.1
        have m5 := m.2.2.2.2
        have o1' : iA h 148 pre.length = ni t.1 := o1
        have o2' : iA h 149 pre.length = t.2.1 := o2
        have o3' : iA h 150 pre.length = t.2.2 := o3
        simp (maxDischargeDepth := 40) only [gq_147, g_147_0, g_147_1, g_147_2, g_147_3, g_147_4, p_147_4, ps_147_4, fs_147_4, g_147_5, p_147_5, ps_147_5, fs_147_5, g_147_6, p_147_6, ps_147_6, fs_147_6, g_147_7, p_147_7, ps_147_7, fs_147_7, g_147_8, p_147_8, ps_147_8, fs_147_8, g_147_9, p_147_9, ps_147_9, fs_147_9, gl_148, ge_148, pe_148, ps_148, is_148, gl_149, ge_149, pe_149, ps_149, is_149, gl_150, ge_150, pe_150, ps_150, is_150, p, hn, q.1, Option.bind_some, n1, n2, if_false, i9, t9, if_true, o1', hs, o2', o3', m1, m2, m3, m4, m5, ni_1, hpl, fI_sf_n, fJ_sf_n, fR_sf_n, fI_sf_o, fJ_sf_o, fR_sf_o, iA_sf, jA_sf, rA_sf, fI_si, fJ_si, fR_si, iA_si_n, jA_si, rA_si, fI_sj, fJ_sj, fR_sj, iA_sj, jA_sj_n, rA_sj, fI_sr, fJ_sr, fR_sr, iA_sr, jA_sr, rA_sr_n, ne_eq, not_false_eq_true, Nat.reduceEqDiff, Nat.zero_ne_one, Nat.one_ne_zero]
        exact f1
      · have : flt lo (t :: rest) = t :: flt lo rest := by unfold flt; rw [List.filter_cons_of_pos (by simp [hs])]
        rw [this]
        exact f5
theorem z_addUp147 (hK : 3000 ≤ K) (c : PS h) (hn : 159 ≤ n) {L : List Pt} (q : PtC 147 h L) (lo : Int32) : ∃ f, q_X2_addUp K h n 147 lo = some f ∧ PS f ∧ SE h f ∧ PtC 147 f L ∧ SmC 147 f (s5 (flt lo L) (0, 0, 0, 0, 0)) := by
  obtain ⟨b1, b2, b3, b4⟩ := auS147 c (0, 0, 0, 0, 0)
  have h50 := q.2.1
  obtain ⟨f, f1, f2, f3, f4, f5⟩ := auL147 (K := K) hn lo L L [] K _ _ rfl (by omega) b1 (b4 L q) b3
  refine ⟨f, ?_, f2, b2.trans f3, f4, f5⟩
  unfold q_X2_addUp
  simp (maxDischargeDepth := 40) only [gq_147, g_147_0, g_147_1, g_147_2, g_147_3, g_147_4, p_147_4, ps_147_4, fs_147_4, g_147_5, p_147_5, ps_147_5, fs_147_5, g_147_6, p_147_6, ps_147_6, fs_147_6, g_147_7, p_147_7, ps_147_7, fs_147_7, g_147_8, p_147_8, ps_147_8, fs_147_8, g_147_9, p_147_9, ps_147_9, fs_147_9, c, hn, Option.bind_some]
  exact bnd (show lp_X2_addUp_27 K n 147 lo K (ni 0) (mm_sf (mm_sf (mm_sf (mm_sf (mm_sf h 147 5 (.long 0)) 147 6 (.long 0)) 147 7 (.long 0)) 147 8 (.long 0)) 147 9 (.long 0)) = some f from f1) rfl
theorem z_gather147 (hK : 3000 ≤ K) (hn : 159 ≤ n) {g : mm_H} {F fm hd dr r : Nat} (uF : fI g 49 5 = ni F) (hF : F ≤ 11) (hhd : hd ≤ 3) (hdr : dr ≤ 2) (hfm : fm < F) (hr : r ≤ 2) (jg : JA g) (p : PS h) (s : SE g h) : ∃ f, q_X2_gather K h n 147 (ni fm) (ni hd) (ni r) (ni dr) = some f ∧ PS f ∧ SE g f ∧ PtC 147 f (PtL g F fm (-1) hd r dr) ∧ SmC 147 f (s5 (flt (-1) (PtL g F fm (-1) hd r dr)) (0, 0, 0, 0, 0)) := by
  have b1 : PS (mm_sf h 147 4 (.int 0)) := ps_147_4 p _
  have s1 : SE g (mm_sf h 147 4 (.int 0)) := s.trans ⟨fun z hz => mm_sf_n (by omega), fun k _ _ h65 _ => fI_sf_n (by decide) _ _ _, fJ_sf_n (by decide) _ _ _⟩
  obtain ⟨f, f1, f2, f3, f4⟩ := gaO147 hK hn uF hF hhd hdr hfm hr (ni (500 * r)) F 0 K (mm_sf h 147 4 (.int 0)) [] (by omega) (by omega) b1 s1 jg (SE_JA s1 jg) ⟨fs_147_4 p _, Nat.zero_le _, fun i p q => by cases q⟩ (by simp)
  obtain ⟨w, w1, w2, w3, w4, w5⟩ := z_addUp147 hK f2 hn f4 (-1)
  refine ⟨w, ?_, w2, f3.trans w3, w4, w5⟩
  unfold q_X2_gather
  rw [p_147_4 p hn, Option.bind_some, show ni r * 500 = ni (500 * r) from by rw [show (500 : Int32) = ni 500 from rfl, ni_mul, Nat.mul_comm], show ni r * 5 = ni (5 * r) from by rw [show (5 : Int32) = ni 5 from rfl, ni_mul, Nat.mul_comm]]
  have f1' : lp_X2_gather_20 K n 147 (ni fm) (ni hd) (ni dr) (ni (5 * r)) (ni (500 * r)) K 0 (mm_sf h 147 4 (.int 0)) = some f := f1
  rw [f1', Option.bind_some, gq_147 f2 hn, Option.bind_some, w1]
  rfl
theorem z_line147 (c : PS h) (hn : 159 ≤ n) {L : List Pt} (m : SmC 147 h (s5 L (0, 0, 0, 0, 0))) (x : Int64) : q_X2_lineTells K h n 147 x = some (lineS L x) ∧ q_X2_meanTells K h n 147 x = some (meanS L x) := by
  obtain ⟨m1, m2, m3, m4, m5⟩ := m
  have e2 : q_X2_meanTells K h n 147 x = some (meanS L x) := by
    unfold q_X2_meanTells
    simp only [g_147_7 c hn, g_147_6 c hn, m2, m3, Option.bind_some, z_X8_held]
    rfl
  refine ⟨?_, e2⟩
  unfold q_X2_lineTells
  simp only [g_147_5 c hn, g_147_6 c hn, g_147_7 c hn, g_147_8 c hn, g_147_9 c hn, gq_147 c hn, m1, m2, m3, m4, m5, Option.bind_some, lg_cmp_eq, e2, z_X8_held]
  unfold lineS
  by_cases hd : detS L = 0
  · rw [if_pos hd]
    exact if_pos hd
  · rw [if_neg hd]
    exact if_neg hd
end SUMS

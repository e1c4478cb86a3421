/-! ===== what a home pays; the calls check and who ===== -/
section HOMES
variable {K n : Nat} {h : mm_H}
/-- the parts of the homes' kinds -/
def PRT (h : mm_H) : Prop := ∃ f, h 1 = .inl (.int, 3, .inl f) ∧ f 0 = 2 ∧ f 1 = 3 ∧ f 2 = 5
def ptI (k : Nat) : Int32 := if k = 0 then 2 else if k = 1 then 3 else 5
def hmP (h : mm_H) (f y : Nat) (d : Int32) (k : Nat) : Int32 := mx0 (kn h f y (11 + k) d)
def apS (h : mm_H) (f y : Nat) (d : Int32) : Nat → Int64
  | 0 => 0
  | k + 1 => apS h f y d k + (ptI k).toInt64 * (hmP h f y d k).toInt64
/-- what a home of a kind pays of some coins -/
def pdS (h : mm_H) (f y : Nat) (d : Int32) (cn : Int64) (k : Nat) : Int64 := if apS h f y d 3 = 0 then 0 else cn * (ptI k).toInt64 / apS h f y d 3
theorem hmP_c {g : mm_H} (e : ∀ a, a < 73 → g a = h a) (f y : Nat) (d : Int32) (k : Nat) : hmP g f y d k = hmP h f y d k := by
  unfold hmP
  rw [kn_c (fun a _ _ => e a (by omega))]
theorem apS_c {g : mm_H} (e : ∀ a, a < 73 → g a = h a) (f y : Nat) (d : Int32) : ∀ k, apS g f y d k = apS h f y d k
  | 0 => rfl
  | k + 1 => by
    unfold apS
    rw [apS_c e f y d k, hmP_c e]
theorem pdS_c {g : mm_H} (e : ∀ a, a < 73 → g a = h a) (f y : Nat) (d : Int32) (cn : Int64) (k : Nat) : pdS g f y d cn k = pdS h f y d cn k := by
  unfold pdS
  rw [apS_c e]
theorem PRT.c {g : mm_H} (p : PRT h) (e : ∀ a, a < 73 → g a = h a) : PRT g := by
  obtain ⟨f, q, r⟩ := p
  exact ⟨f, (e 1 (by omega)).trans q, r⟩
theorem z_partsC (hn : 208 ≤ n) (p : PRT h) {k : Nat} (hk : k ≤ 2) : q_X4_partsOf K h n 49 (ni k) = some (ptI k).toInt64 := by
  obtain ⟨f, e, f0, f1, f2⟩ := p
  have hl : lenA h n 1 0 = some (ni 3) := by
    unfold lenA
    rw [if_neg (by omega), if_pos (by omega), e]
  have hv : f k = ptI k := by
    rcases (by omega : k = 0 ∨ k = 1 ∨ k = 2) with rfl | rfl | rfl
    · exact f0
    · exact f1
    · exact f2
  unfold q_X4_partsOf
  rw [if_neg (ni_pos (by omega)), hl, Option.bind_some, if_neg (fun q => by have := (ni_le (by omega) (by omega)).mp q; omega), ldI_o (by omega) e (by omega) (by omega), hv]
  rfl
theorem z_partsM {k : Nat} (hk : k ≤ 2) : q_X11_partsOf K h n (ni k) = some (ptI k) := by
  rcases (by omega : k = 0 ∨ k = 1 ∨ k = 2) with rfl | rfl | rfl <;> rfl
theorem z_homesC (hK : 3000 ≤ K) (c : PS h) (hn : 208 ≤ n) (u : JA h) {f y k : Nat} (hf : f ≤ 10) (hy : y ≤ 14) (hk : k ≤ 2) (d : Int32) : q_X4_homesOf K h n 49 (ni k) (ni f) (ni y) d = some (hmP h f y d k) := by
  have e11 : (11 : Int32) + ni k = ni (11 + k) := ni_add 11 _
  unfold q_X4_homesOf hmP
  simp only [g_49_1 c hn, gq_51 c hn, Option.bind_some, e11, z_X0_knownBy hK c hn u hf hy (show 11 + k ≤ 16 by omega) d, mx0_max (kn_in u hf hy (show 11 + k ≤ 16 by omega) d)]
theorem z_homesM (hK : 3000 ≤ K) (c : PS h) (hn : 208 ≤ n) (u : JA h) {f y k : Nat} (hf : f ≤ 10) (hy : y ≤ 14) (hk : k ≤ 2) (d : Int32) : q_X11_homes K h n 159 (ni f) (ni y) d (ni k) = some (hmP h f y d k) := by
  have e11 : (11 : Int32) + ni k = ni (11 + k) := ni_add 11 _
  unfold q_X11_homes hmP
  simp only [gq_159 c hn, Option.bind_some, e11, z_X11_factBy hK c hn u hf hy (show 11 + k ≤ 16 by omega) d, mx0_max (kn_in u hf hy (show 11 + k ≤ 16 by omega) d)]
theorem z_ptLp (hK : 3000 ≤ K) (c : PS h) (hn : 208 ≤ n) (u : JA h) (p : PRT h) {f y : Nat} (hf : f ≤ 10) (hy : y ≤ 14) (d kd : Int32) (cn : Int64) : ∀ (m i k : Nat), i + m = 3 → m < k → lp_X4_partOf_6 K h n 49 cn kd (ni f) (ni y) d k (apS h f y d i) (ni i) = some (apS h f y d 3) ∧ lp_X11_paid_6 K h n 159 cn (ni f) (ni y) d kd k (apS h f y d i) (ni i) = some (apS h f y d 3) := by
  intro m
  induction m with
  | zero =>
    intro i k hi hk
    obtain ⟨k, rfl⟩ : ∃ x, k = x + 1 := ⟨k - 1, by omega⟩
    have : i = 3 := by omega
    subst this
    unfold lp_X4_partOf_6 lp_X11_paid_6
    rw [if_pos (by decide), if_pos (by decide)]
    exact ⟨rfl, rfl⟩
  | succ m ih =>
    intro i k hi hk
    obtain ⟨k, rfl⟩ : ∃ x, k = x + 1 := ⟨k - 1, by omega⟩
    have n1 : ¬ (3 : Int32) ≤ ni i := fun q => by have := (ni_le (a := 3) (by omega) (by omega)).mp q; omega
    have nx := ih (i + 1) k (by omega) (by omega)
    have e2 : (hmP h f y d i).toInt64 * (ptI i).toInt64 = (ptI i).toInt64 * (hmP h f y d i).toInt64 := Int64.mul_comm _ _
    unfold lp_X4_partOf_6 lp_X11_paid_6
    simp only [n1, if_false, gq_49 c hn, gq_159 c hn, Option.bind_some, z_partsC (K := K) hn p (show i ≤ 2 by omega), z_homesC hK c hn u hf hy (show i ≤ 2 by omega) d, z_homesM hK c hn u hf hy (show i ≤ 2 by omega) d, z_partsM (K := K) (n := n) (h := h) (show i ≤ 2 by omega), e2, ni_1]
    exact nx
theorem z_partOf (hK : 3000 ≤ K) (c : PS h) (hn : 208 ≤ n) (u : JA h) (p : PRT h) {f y k : Nat} (hf : f ≤ 10) (hy : y ≤ 14) (hk : k ≤ 2) (d : Int32) (cn : Int64) : q_X4_partOf K h n 49 cn (ni k) (ni f) (ni y) d = some (pdS h f y d cn k) ∧ q_X11_paid K h n 159 cn (ni f) (ni y) d (ni k) = some (pdS h f y d cn k) := by
  obtain ⟨a, b⟩ := z_ptLp hK c hn u p hf hy d (ni k) cn 3 0 K rfl (by omega)
  have a' : lp_X4_partOf_6 K h n 49 cn (ni k) (ni f) (ni y) d K 0 0 = some (apS h f y d 3) := a
  have b' : lp_X11_paid_6 K h n 159 cn (ni f) (ni y) d (ni k) K 0 0 = some (apS h f y d 3) := b
  unfold q_X4_partOf q_X11_paid pdS q_X8_cut
  simp only [a', b', Option.bind_some, gq_49 c hn, z_partsC (K := K) hn p hk, z_partsM (K := K) (n := n) (h := h) hk, lg_cmp_eq]
  by_cases q : apS h f y d 3 = 0
  · simp only [q, if_true, Option.bind_some, and_self]
  · simp only [q, if_false, Option.bind_some, and_self]
/-- the first line that is another one -/
def ckF (ln : Nat → Int64) (T : Nat → Int32) : Nat → Nat → Nat × Int32
  | 0, i => (1, ni i)
  | m + 1, i => if ln i = (T i).toInt64 then ckF ln T m (i + 1) else (0, ni i)
theorem z_ckC (c : PS h) (hn : 208 ≤ n) {y : Nat} {T : Nat → Int32} (hy : y ≤ 14) (eT : iA h 158 = T) : ∀ (m i k : Nat), i + m = 15 → m < k → lp_X10_check_38 K h n 48 (ni y) k (ni i) = some (ckF (jA h (125 + y)) T m i) := by
  intro m
  induction m with
  | zero =>
    intro i k hi hk
    obtain ⟨k, rfl⟩ : ∃ x, k = x + 1 := ⟨k - 1, by omega⟩
    have : i = 15 := by omega
    subst this
    unfold lp_X10_check_38
    rw [if_pos (by decide)]
    rfl
  | succ m ih =>
    intro i k hi hk
    obtain ⟨k, rfl⟩ : ∃ x, k = x + 1 := ⟨k - 1, by omega⟩
    have i15 : inb (ni i) 15 = true := ni_inb (by omega) (by omega)
    have ti : (ni i).toNatClampNeg = i := ni_tn (by omega)
    unfold lp_X10_check_38 ckF
    rw [if_neg (fun q => by have := (ni_le (a := 15) (by omega) (by omega)).mp q; omega)]
    simp only [g_48_1 c hn, gq_73 c hn, Option.bind_some, z_lineAtC (K := K) c hn hy (show i ≤ 14 by omega), g_48_11 c hn, ge_158 c hn, i15, ti, if_true, eT, lg_cmp_eq, ni_1]
    by_cases q : jA h (125 + y) i = (T i).toInt64
    · rw [if_pos q, if_pos q]
      exact ih (i + 1) k (by omega) (by omega)
    · rw [if_neg q, if_neg q]
theorem z_ckM (hK : 3000 ≤ K) (hn : 208 ≤ n) {F f y : Nat} {Ls : Nat → List Stm} {d : Int32} {T : Nat → Int32} (hy : y ≤ 14) : ∀ (m i k : Nat) (g : mm_H), i + m = 15 → m < k → MF K n h F f Ls g → iA g 158 = T → ∃ g', lp_X11_check_21 K n 159 (ni f) (ni y) d k (ni i) g = some ((ckF (lnS h F f Ls d y) T m i).1, (ckF (lnS h F f Ls d y) T m i).2, g') ∧ MF K n h F f Ls g' ∧ SX g g' := by
  intro m
  induction m with
  | zero =>
    intro i k g hi hk u eT
    obtain ⟨k, rfl⟩ : ∃ x, k = x + 1 := ⟨k - 1, by omega⟩
    have : i = 15 := by omega
    subst this
    unfold lp_X11_check_21
    rw [if_pos (by decide)]
    exact ⟨g, rfl, u, SX.id_⟩
  | succ m ih =>
    intro i k g hi hk u eT
    obtain ⟨k, rfl⟩ : ∃ x, k = x + 1 := ⟨k - 1, by omega⟩
    obtain ⟨g1, e1, u1, s1⟩ := u.line hK hn hy (k := i) (by omega) d
    have i15 : inb (ni i) 15 = true := ni_inb (by omega) (by omega)
    have ti : (ni i).toNatClampNeg = i := ni_tn (by omega)
    have eT1 : iA g1 158 = T := by rw [iA_c (s1.1 158 (by omega))]; exact eT
    have e207 : iA g1 207 = T := u1.2.1.1.2.2.trans eT1
    unfold lp_X11_check_21
    rw [if_neg (fun q => by have := (ni_le (a := 15) (by omega) (by omega)).mp q; omega)]
    simp only [gq_159 u.1 hn, Option.bind_some, e1, g_159_67 u1.1 hn, ge_207 u1.1 hn, i15, ti, if_true, e207, lg_cmp_eq, ni_1]
    by_cases q : lnS h F f Ls d y i = (T i).toInt64
    · have eC : ckF (lnS h F f Ls d y) T (m + 1) i = ckF (lnS h F f Ls d y) T m (i + 1) := by
        conv => lhs; unfold ckF
        rw [if_pos q]
      obtain ⟨g', r1, r2, r3⟩ := ih (i + 1) k g1 (by omega) (by omega) u1 eT1
      rw [if_pos q, eC]
      exact ⟨g', r1, r2, s1.trans r3⟩
    · have eC : ckF (lnS h F f Ls d y) T (m + 1) i = (0, ni i) := by
        conv => lhs; unfold ckF
        rw [if_neg q]
      rw [if_neg q, eC]
      exact ⟨g1, rfl, u1, s1⟩
theorem ckF_c {a b : Nat → Int64} (T : Nat → Int32) : ∀ (m i : Nat), (∀ k, i ≤ k → k < i + m → a k = b k) → ckF a T m i = ckF b T m i
  | 0, _, _ => rfl
  | m + 1, i, e => by
    unfold ckF
    rw [e i (Nat.le_refl _) (by omega), ckF_c T m (i + 1) (fun k h1 h2 => e k (by omega) (by omega))]
theorem ckF_01 (a : Nat → Int64) (T : Nat → Int32) : ∀ (m i : Nat), (ckF a T m i).1 = 0 ∨ (ckF a T m i).1 = 1
  | 0, _ => Or.inr rfl
  | m + 1, i => by
    unfold ckF
    split
    · exact ckF_01 a T m (i + 1)
    · exact Or.inl rfl
theorem S_29 (hK : 3000 ≤ K) {l3 : Int32} {kc ks : Nat} {x : Nat → Int32} (c : PS h) (hn : 208 ≤ n) (j : JR h) (jn : JN h) (jk : JK h n) (sc : SCR (h 0) n l3 x) : ∃ g, st_law_29 K h n l3 kc ks = some (g, n, kc, ks) ∧ PS g ∧ SW h g := by
  obtain ⟨s1, s2, s3, -⟩ := sc h rfl
  have uF := j.2.1
  have fin : ∀ (v : Int32) (g w : mm_H), q_X10_check K h n 48 (x 1) (x 2) (x 3) = some (v, g) → PS g → SW h g → q_X11_check K g n 159 (x 1) (x 2) (x 3) = some (v, w) → PS w → SW h w → ∃ g, st_law_29 K h n l3 kc ks = some (g, n, kc, ks) ∧ PS g ∧ SW h g := by
    intro v g w k1 p1 e1 k2 p2 e2
    obtain ⟨t1, t2, t3, -⟩ := sc g (e1.1 0 (by omega))
    refine ⟨w, ?_, p2, e2⟩
    unfold st_law_29
    simp only [s1, s2, s3, gq_48 c hn, Option.bind_some, k1, t1, t2, t3, gq_159 p1 hn, k2, if_true]
  by_cases ok : okY h (x 1) (x 2) (x 3)
  · obtain ⟨f, y, F, ea, eb, hy, eF, hF, hf⟩ := ok_nat uF ok
    obtain ⟨g1, Ls, e1, u1, w1, R⟩ := z_openCF hK c hn j jk jn eF hF hf hy (x 3)
    obtain ⟨g2, e2, u2, w2, r2⟩ := u1.fill hK hn (by omega) (Nat.le_refl y) (by omega)
    have sw2 : SW h g2 := w1.trans w2.sw
    obtain ⟨w, e3, m3, sw3⟩ := z_mfOwn hK hn j eF hF hf R u2.1 sw2
    have lc := z_ckC (K := K) u2.1 hn hy (T := iA h 158) (iA_c (sw2.1 158 (by omega))) 15 0 K rfl (by omega)
    obtain ⟨w', e4, m4, s4'⟩ := z_ckM hK hn (F := F) (f := f) (Ls := Ls) (h := h) (d := x 3) (T := iA h 158) hy 15 0 K w rfl (by omega) m3 (iA_c (sw3.1 158 (by omega)))
    rw [ckF_c (b := lnS h F f Ls (x 3) y) _ 15 0 (fun k _ hk => r2 y (Nat.le_refl y) (Nat.le_refl y) k (by omega))] at lc
    have lc' : lp_X10_check_38 K g2 n 48 (ni y) K 0 = some (ckF (lnS h F f Ls (x 3) y) (iA h 158) 15 0) := lc
    have e4' : lp_X11_check_21 K n 159 (ni f) (ni y) (x 3) K 0 w = some ((ckF (lnS h F f Ls (x 3) y) (iA h 158) 15 0).1, (ckF (lnS h F f Ls (x 3) y) (iA h 158) 15 0).2, w') := e4
    have v01 := ckF_01 (lnS h F f Ls (x 3) y) (iA h 158) 15 0
    generalize ckF (lnS h F f Ls (x 3) y) (iA h 158) 15 0 = v at lc' e4' v01
    refine fin (if v.1 = 0 then v.2 else -1) g2 w' ?_ u2.1 sw2 ?_ m4.1 (sw3.trans s4'.sw)
    · unfold q_X10_check
      rw [gq_48 c hn, Option.bind_some, y_pre c hn uF, if_pos ok, ea, eb]
      simp only [Option.bind_some, gq_48 c hn, e1, g_48_1 u1.1 hn, gq_73 u1.1 hn, e2, lc']
      rcases v01 with q | q
      · rw [if_pos q, if_pos q]
      · rw [if_neg (by omega), if_pos q, if_neg (by omega)]
    · unfold q_X11_check
      rw [gq_159 u2.1 hn, Option.bind_some, y_preM u2.1 hn u2.2.1.2.1, if_pos (by rw [okY_c sw2]; exact ok), ea, eb]
      simp only [Option.bind_some, gq_159 u2.1 hn, e3, e4']
      rcases v01 with q | q
      · rw [if_pos q, if_pos q]
      · rw [if_neg (by omega), if_pos q, if_neg (by omega)]
  · refine fin (-2) h h ?_ c SW.id_ ?_ c SW.id_
    · unfold q_X10_check
      rw [gq_48 c hn, Option.bind_some, y_pre c hn uF, if_neg ok]
    · unfold q_X11_check
      rw [gq_159 c hn, Option.bind_some, y_preM c hn uF, if_neg ok]
theorem S_31 (hK : 3000 ≤ K) {l3 : Int32} {kc ks : Nat} {x : Nat → Int32} (c : PS h) (hn : 208 ≤ n) (j : JR h) (jn : JN h) (jk : JK h n) (pr : PRT h) (sc : SCR (h 0) n l3 x) : ∃ g, st_law_31 K h n l3 kc ks = some (g, n, kc, ks) ∧ PS g ∧ SW h g := by
  obtain ⟨s1, s2, s3, s4, s5, -⟩ := sc h rfl
  have uF := j.2.1
  have fin : ∀ (v : Int64) (g w : mm_H), q_X10_who K h n 48 (x 1) (x 2) (x 3) (x 4) (x 5) = some (v, g) → PS g → SW h g → q_X11_who K g n 159 (x 1) (x 2) (x 3) (x 4) (x 5) = some (v, w) → PS w → SW h w → ∃ g, st_law_31 K h n l3 kc ks = some (g, n, kc, ks) ∧ PS g ∧ SW h g := by
    intro v g w k1 p1 e1 k2 p2 e2
    obtain ⟨t1, t2, t3, t4, t5, -⟩ := sc g (e1.1 0 (by omega))
    refine ⟨w, ?_, p2, e2⟩
    unfold st_law_31
    simp only [s1, s2, s3, s4, s5, gq_48 c hn, Option.bind_some, k1, t1, t2, t3, t4, t5, gq_159 p1 hn, k2, lg_cmp_eq, if_true]
  by_cases ok : okY h (x 1) (x 2) (x 3)
  · by_cases k0 : mm_in (x 4) 0 2 = 0
    · refine fin (-2000000000000) h h ?_ c SW.id_ ?_ c SW.id_
      · unfold q_X10_who
        rw [gq_48 c hn, Option.bind_some, y_pre c hn uF, if_pos ok, z_X10_isWithin, Option.bind_some, if_pos k0]
      · unfold q_X11_who
        rw [gq_159 c hn, Option.bind_some, y_preM c hn uF, if_pos ok, z_X11_isIn, Option.bind_some, if_pos k0]
    by_cases k5 : mm_in (x 5) 0 14 = 0
    · refine fin (-2000000000000) h h ?_ c SW.id_ ?_ c SW.id_
      · unfold q_X10_who
        rw [gq_48 c hn, Option.bind_some, y_pre c hn uF, if_pos ok, z_X10_isWithin, Option.bind_some, if_neg k0, z_X10_isWithin, Option.bind_some, if_pos k5]
      · unfold q_X11_who
        rw [gq_159 c hn, Option.bind_some, y_preM c hn uF, if_pos ok, z_X11_isIn, Option.bind_some, if_neg k0, z_X11_isIn, Option.bind_some, if_pos k5]
    obtain ⟨f, y, F, ea, eb, hy, eF, hF, hf⟩ := ok_nat uF ok
    obtain ⟨k, hk, ek⟩ := mm_in_nat (N := 2) (by omega) k0
    obtain ⟨i, hi, ei⟩ := mm_in_nat (N := 14) (by omega) k5
    obtain ⟨g1, Ls, e1, u1, w1, R⟩ := z_openCF hK c hn j jk jn eF hF hf hy (x 3)
    obtain ⟨g2, e2, u2, w2, r2⟩ := u1.fill hK hn (by omega) (Nat.le_refl y) (by omega)
    have sw2 : SW h g2 := w1.trans w2.sw
    obtain ⟨w, e3, m3, sw3⟩ := z_mfOwn hK hn j eF hF hf R u2.1 sw2
    obtain ⟨w', e4, m4, s4'⟩ := m3.line hK hn hy hi (x 3)
    have pc := (z_partOf hK u2.1 hn u2.2.1.2.2.1 (pr.c u2.2.2.1) (f := f) (by omega) hy hk (x 3) (lnS h F f Ls (x 3) y i)).1
    have pm := (z_partOf hK m4.1 hn m4.2.1.2.2.1 (pr.c m4.2.2.1) (f := f) (by omega) hy hk (x 3) (lnS h F f Ls (x 3) y i)).2
    rw [pdS_c u2.2.2.1] at pc
    rw [pdS_c m4.2.2.1] at pm
    refine fin (pdS h f y (x 3) (lnS h F f Ls (x 3) y i) k) g2 w' ?_ u2.1 sw2 ?_ m4.1 (sw3.trans s4'.sw)
    · unfold q_X10_who
      rw [gq_48 c hn, Option.bind_some, y_pre c hn uF, if_pos ok, z_X10_isWithin, Option.bind_some, if_neg k0, z_X10_isWithin, Option.bind_some, if_neg k5, ea, eb, ek, ei]
      simp only [Option.bind_some, gq_48 c hn, e1, g_48_1 u1.1 hn, gq_73 u1.1 hn, e2, g_48_0 u2.1 hn, g_48_1 u2.1 hn, gq_73 u2.1 hn, z_lineAtC u2.1 hn hy hi, r2 y (Nat.le_refl y) (Nat.le_refl y) i (by omega), gq_49 u2.1 hn, pc]
    · unfold q_X11_who
      rw [gq_159 u2.1 hn, Option.bind_some, y_preM u2.1 hn u2.2.1.2.1, if_pos (by rw [okY_c sw2]; exact ok), z_X11_isIn, Option.bind_some, if_neg k0, z_X11_isIn, Option.bind_some, if_neg k5, ea, eb, ek, ei]
      simp only [Option.bind_some, gq_159 u2.1 hn, e3, gq_159 m3.1 hn, e4, gq_159 m4.1 hn, pm]
  · refine fin (-2000000000000) h h ?_ c SW.id_ ?_ c SW.id_
    · unfold q_X10_who
      rw [gq_48 c hn, Option.bind_some, y_pre c hn uF, if_neg ok]
    · unfold q_X11_who
      rw [gq_159 c hn, Option.bind_some, y_preM c hn uF, if_neg ok]
end HOMES

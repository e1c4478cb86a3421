/-! ===== the class fills its lines ===== -/
section FILL
variable {K n : Nat} {h : mm_H}
theorem sh_125 (y : Nat) (hy : y < 15) : mm_sh (125 + y) = some (.inl (.long, 15)) := match y, hy with
  | 0, _ => rfl
  | 1, _ => rfl
  | 2, _ => rfl
  | 3, _ => rfl
  | 4, _ => rfl
  | 5, _ => rfl
  | 6, _ => rfl
  | 7, _ => rfl
  | 8, _ => rfl
  | 9, _ => rfl
  | 10, _ => rfl
  | 11, _ => rfl
  | 12, _ => rfl
  | 13, _ => rfl
  | 14, _ => rfl
theorem row_jst {g : mm_H} (c : PS g) {a N : Nat} (hs : mm_sh a = some (.inl (.long, N))) (ha : 48 ≤ a) (han : a < n) (i : Int32) (x : Int64) : stJ g n a i x = if inb i N = true then some (mm_sj g a i.toNatClampNeg x) else none := by
  have e : g a = .inl (.long, N, .inr (.inl (jA g a))) := c a _ hs
  unfold stJ
  rw [if_pos ⟨ha, han⟩, e]
theorem row_js {g : mm_H} (c : PS g) {a N : Nat} (hs : mm_sh a = some (.inl (.long, N))) (i : Nat) (x : Int64) : jA (mm_sj g a i x) a = vp_updL (jA g a) i x := jA_sj_s (c a _ hs) i x
theorem fillJ_lp {a N : Nat} (hs : mm_sh a = some (.inl (.long, N))) (ha : 48 ≤ a) (han : a < n) (hN : N ≤ 100) (v : Int64) : ∀ (m i k : Nat) (g : mm_H), i + m = N → m < k → PS g → (∀ j, j < i → jA g a j = v) → ∃ g', lp_J7_fill_d0a16_6 K n a v (ni N) k (ni i) g = some g' ∧ PS g' ∧ (∀ b, b ≠ a → g' b = g b) ∧ ∀ j, j < N → jA g' a j = v := by
  intro m
  induction m with
  | zero =>
    intro i k g hi hk p r
    obtain ⟨k, rfl⟩ : ∃ x, k = x + 1 := ⟨k - 1, by omega⟩
    have : i = N := by omega
    subst this
    unfold lp_J7_fill_d0a16_6
    rw [if_pos (Int32.le_refl _)]
    exact ⟨g, rfl, p, fun _ _ => rfl, r⟩
  | succ m ih =>
    intro i k g hi hk p r
    obtain ⟨k, rfl⟩ : ∃ x, k = x + 1 := ⟨k - 1, by omega⟩
    unfold lp_J7_fill_d0a16_6
    rw [if_neg (fun q => by have := (ni_le (by omega) (by omega)).mp q; omega), row_jst p hs ha han, if_pos (ni_inb (by omega) (by omega)), ni_tn (by omega)]
    obtain ⟨g', r1, r2, r3, r4⟩ := ih (i + 1) k (mm_sj g a i v) (by omega) (by omega) (p.sj hs i v) (fun j hj => by
      rw [row_js p hs]
      by_cases q : j = i
      · rw [q, updL_s]
      · rw [updL_n q]; exact r j (by omega))
    refine ⟨g', ?_, r2, fun b hb => (r3 b hb).trans (mm_sj_n hb), r4⟩
    simp only [Option.bind_some, ni_1]
    exact r1
theorem fillJ_row (hK : 3000 ≤ K) {g : mm_H} (c : PS g) {a N : Nat} (hs : mm_sh a = some (.inl (.long, N))) (ha : 48 ≤ a) (han : a < n) (hN : N ≤ 100) (v : Int64) : ∃ g', q_J7_fill_d0a16 K g n (some a) v = some g' ∧ PS g' ∧ (∀ b, b ≠ a → g' b = g b) ∧ ∀ j, j < N → jA g' a j = v := by
  have e : g a = .inl (.long, N, .inr (.inl (jA g a))) := c a _ hs
  have hl : lenA g n a 1 = some (ni N) := by
    unfold lenA
    rw [if_pos ⟨ha, han⟩, e]
    rfl
  obtain ⟨g', r1, r⟩ := fillJ_lp (K := K) (n := n) hs ha han hN v N 0 K g (by omega) (by omega) c (fun j hj => by omega)
  have r1' : lp_J7_fill_d0a16_6 K n a v (ni N) K 0 g = some g' := r1
  refine ⟨g', ?_, r⟩
  unfold q_J7_fill_d0a16
  simp only [Option.bind_some, hl, r1']
theorem CF.allowed (hK : 3000 ≤ K) (hn : 159 ≤ n) {F f Y y hd : Nat} {d : Int32} {Ls : Nat → List Stm} {g : mm_H} (u : CF n h F f d Ls Y g) (hY : Y ≤ 15) (hy : y < Y) (hhd : hd ≤ 3) : ∃ g', q_X7_allowedFor K g n 73 (ni y) (ni hd) = some (alS h F f Ls d y hd, g') ∧ CF n h F f d Ls Y g' ∧ SE g g' := by
  obtain ⟨u1, u2, u3, u4, u5, u6, u7, u8, u9, u10, u11⟩ := id u
  obtain ⟨z, R⟩ := u8 (y / 5) (by omega)
  obtain ⟨g', e, p, s⟩ := z_allowedFor hK u1 hn u2 (y := y) (hd := hd) u9 u10 u11 (by omega) hhd u4 u5 R ((u6 y hy).1 0 hd (Or.inl ⟨by omega, hhd⟩))
  rw [allS_c u3] at e
  exact ⟨g', e, u.cs hY p s.cs, s⟩
theorem CF.num (hn : 159 ≤ n) {F f Y y k : Nat} {d : Int32} {Ls : Nat → List Stm} {g : mm_H} (u : CF n h F f d Ls Y g) (hY : Y ≤ 15) (hy : y < Y) (l1 : 3 ≤ k) (l2 : k ≤ 8) : q_X7_numberAt K g n 73 (ni y) (ni k) = some (numS (wwS h f Ls y) (Ls (y / 5)) k (dfl k)) := by
  rw [z_numberAt u.1 hn (by omega) l1 l2, (u.2.2.2.2.2.1 y hy).2 k l1 l2]
theorem z_fl22 (hK : 3000 ≤ K) (hn : 159 ≤ n) {F f Y y : Nat} {d : Int32} {Ls : Nat → List Stm} (hY : Y ≤ 15) (hy : y < Y) (l1 l2 : Int32) : ∀ (m hd k : Nat) (g : mm_H), hd + m = 4 → m < k → CF n h F f d Ls Y g → (∀ i, i < hd → jA g (109 + y) i = alS h F f Ls d y i) → ∃ g', lp_X7_fillLines_22 K n 73 l1 l2 (ni y) k (ni hd) g = some g' ∧ CF n h F f d Ls Y g' ∧ CR (109 + y) g g' ∧ ∀ i, i < 4 → jA g' (109 + y) i = alS h F f Ls d y i := by
  intro m
  induction m with
  | zero =>
    intro hd k g hi hk u r
    obtain ⟨k, rfl⟩ : ∃ x, k = x + 1 := ⟨k - 1, by omega⟩
    have : hd = 4 := by omega
    subst this
    unfold lp_X7_fillLines_22
    rw [if_pos (by decide)]
    exact ⟨g, rfl, u, CR.id_, r⟩
  | succ m ih =>
    intro hd k g hi hk u r
    obtain ⟨k, rfl⟩ : ∃ x, k = x + 1 := ⟨k - 1, by omega⟩
    have i15 : inb (ni y) 15 = true := ni_inb (by omega) (by omega)
    have ty : (ni y).toNatClampNeg = y := ni_tn (by omega)
    have i4 : inb (ni hd) 4 = true := ni_inb (by omega) (by omega)
    have th : (ni hd).toNatClampNeg = hd := ni_tn (by omega)
    have y15 : y < 15 := by omega
    have e109 : 108 + 1 + y = 109 + y := by omega
    obtain ⟨g1, e1, u1, s1⟩ := u.allowed hK hn hY hy (hd := hd) (by omega)
    have st : stJ g1 n (109 + y) (ni hd) (alS h F f Ls d y hd) = some (mm_sj g1 (109 + y) hd (alS h F f Ls d y hd)) := by
      rw [row_jst u1.1 (sh_109 y y15) (by omega) (by omega), if_pos i4, th]
    have p2 : PS (mm_sj g1 (109 + y) hd (alS h F f Ls d y hd)) := u1.1.sj (sh_109 y y15) _ _
    have c2 : CR (109 + y) g1 (mm_sj g1 (109 + y) hd (alS h F f Ls d y hd)) := CR.sj _ _ _ (by omega)
    obtain ⟨g', r1, r2, r3, r4⟩ := ih (hd + 1) k _ (by omega) (by omega) (u1.cs hY p2 (c2.cs (by omega) (by omega))) (fun i hi => by
      rw [row_js u1.1 (sh_109 y y15)]
      by_cases q : i = hd
      · rw [q, updL_s]
      · rw [updL_n q, jA_c (s1.1 (109 + y) (by omega))]
        exact r i (by omega))
    refine ⟨g', ?_, r2, ((s1.cr _).trans c2).trans r3, r4⟩
    unfold lp_X7_fillLines_22
    rw [if_neg (fun q => by have := (ni_le (a := 4) (by omega) (by omega)).mp q; omega)]
    simp only [g_73_6 u.1 hn, ge_108 u.1 hn, i15, ty, if_true, y15, Option.bind_some, e109, gq_73 u.1 hn, e1, st, ni_1]
    exact r1
theorem z_fl8 (hK : 3000 ≤ K) (hn : 159 ≤ n) {F f Y a b : Nat} {d : Int32} {Ls : Nat → List Stm} (hY : Y ≤ 15) (hb : b < Y) (l1 : Int32) : ∀ (m y k : Nat) (g : mm_H), y + m = b + 1 → m < k → CF n h F f d Ls Y g → (∀ z, a ≤ z → z < y → ∀ i, i < 4 → jA g (109 + z) i = alS h F f Ls d z i) → ∃ g', lp_X7_fillLines_8 K n 73 l1 (ni b) k (ni y) g = some g' ∧ CF n h F f d Ls Y g' ∧ CS g g' ∧ ∀ z, a ≤ z → z ≤ b → ∀ i, i < 4 → jA g' (109 + z) i = alS h F f Ls d z i := by
  intro m
  induction m with
  | zero =>
    intro y k g hi hk u r
    obtain ⟨k, rfl⟩ : ∃ x, k = x + 1 := ⟨k - 1, by omega⟩
    have : y = b + 1 := by omega
    subst this
    unfold lp_X7_fillLines_8
    rw [if_pos ((ni_lt (by omega) (by omega)).mpr (by omega))]
    exact ⟨g, rfl, u, CS.id_, fun z h1 h2 => r z h1 (by omega)⟩
  | succ m ih =>
    intro y k g hi hk u r
    obtain ⟨k, rfl⟩ : ∃ x, k = x + 1 := ⟨k - 1, by omega⟩
    obtain ⟨g1, e1, u1, s1, r1⟩ := z_fl22 hK hn (F := F) (f := f) (d := d) (Ls := Ls) (h := h) hY (y := y) (by omega) l1 (ni b) 4 0 K g rfl (by omega) u (fun i hi => by omega)
    have e1' : lp_X7_fillLines_22 K n 73 l1 (ni b) (ni y) K 0 g = some g1 := e1
    obtain ⟨g', q1, q2, q3, q4⟩ := ih (y + 1) k g1 (by omega) (by omega) u1 (fun z h1 h2 i hi => by
      by_cases q : z = y
      · rw [q]; exact r1 i hi
      · rw [jA_c (s1.1 (109 + z) (by omega) (by omega))]
        exact r z h1 (by omega) i hi)
    refine ⟨g', ?_, q2, (s1.cs (by omega) (by omega)).trans q3, q4⟩
    unfold lp_X7_fillLines_8
    rw [if_neg (fun q => by have := (ni_lt (by omega) (by omega)).mp q; omega), if_neg (fun q => by have := (ni_le (a := 15) (by omega) (by omega)).mp q; omega)]
    simp only [e1', Option.bind_some, ni_1]
    exact q1
/-- the first rows of a year's lines stand, the others are 0 -/
def RW (h : mm_H) (F f : Nat) (Ls : Nat → List Stm) (d : Int32) (y m : Nat) (g : mm_H) : Prop := ∀ j, j < 15 → jA g (125 + y) j = if j < m then lnS h F f Ls d y j else 0
theorem RW.step {F f y m : Nat} {d : Int32} {Ls : Nat → List Stm} {g : mm_H} (r : RW h F f Ls d y m g) (p : PS g) (hy : y < 15) {v : Int64} (ev : v = lnS h F f Ls d y m) : RW h F f Ls d y (m + 1) (mm_sj g (125 + y) m v) := by
  intro j hj
  rw [row_js p (sh_125 y hy)]
  by_cases q : j = m
  · rw [q, updL_s, if_pos (by omega), ev]
  · rw [updL_n q, r j hj]
    by_cases z : j < m
    · rw [if_pos z, if_pos (by omega)]
    · rw [if_neg z, if_neg (by omega)]
theorem row_15 {g : mm_H} (p : PS g) (hn : 159 ≤ n) {y m : Nat} (hy : y < 15) (hm : m < 15) (v : Int64) : stJ g n (125 + y) (ni m) v = some (mm_sj g (125 + y) m v) := by
  rw [row_jst p (sh_125 y hy) (by omega) (by omega), if_pos (ni_inb (by omega) hm), ni_tn (by omega)]
theorem CF.row {F f Y y m : Nat} {d : Int32} {Ls : Nat → List Stm} {g : mm_H} (u : CF n h F f d Ls Y g) (hY : Y ≤ 15) (hy : y < 15) (v : Int64) : CF n h F f d Ls Y (mm_sj g (125 + y) m v) := u.cs hY (u.1.sj (sh_125 y hy) _ _) ((CR.sj (125 + y) m v (by omega)).cs (by omega) (by omega))
theorem z_fl28 (hK : 3000 ≤ K) (hn : 159 ≤ n) {F f Y y : Nat} {d : Int32} {Ls : Nat → List Stm} (hY : Y ≤ 15) (hy : y < Y) : ∀ (m hd k : Nat) (g : mm_H), hd + m = 4 → m < k → CF n h F f d Ls Y g → (∀ i, i < 4 → jA g (109 + y) i = alS h F f Ls d y i) → RW h F f Ls d y hd g → ∃ g', lp_X7_fillLinesOf_28 K n 73 (ni y) (some (125 + y)) k (smS h F f Ls d y hd) (ni hd) g = some (smS h F f Ls d y 4, g') ∧ CF n h F f d Ls Y g' ∧ CR (125 + y) g g' ∧ RW h F f Ls d y 4 g' := by
  intro m
  induction m with
  | zero =>
    intro hd k g hi hk u a r
    obtain ⟨k, rfl⟩ : ∃ x, k = x + 1 := ⟨k - 1, by omega⟩
    have : hd = 4 := by omega
    subst this
    unfold lp_X7_fillLinesOf_28
    rw [if_pos (by decide)]
    exact ⟨g, rfl, u, CR.id_, r⟩
  | succ m ih =>
    intro hd k g hi hk u a r
    obtain ⟨k, rfl⟩ : ∃ x, k = x + 1 := ⟨k - 1, by omega⟩
    have i15 : inb (ni y) 15 = true := ni_inb (by omega) (by omega)
    have ty : (ni y).toNatClampNeg = y := ni_tn (by omega)
    have y15 : y < 15 := by omega
    have e109 : 108 + 1 + y = 109 + y := by omega
    have lj : ldJ g n (109 + y) (ni hd) = some (alS h F f Ls d y hd) := by
      rw [row_lj u.1 (sh_109 y y15) (by omega) (by omega), if_pos (ni_inb (by omega) (by omega)), ni_tn (by omega), a hd (by omega)]
    have st := row_15 (n := n) u.1 hn (y := y) (m := hd) y15 (by omega) (alS h F f Ls d y hd)
    have u1 := u.row hY y15 (m := hd) (alS h F f Ls d y hd)
    have lj2 : ldJ (mm_sj g (125 + y) hd (alS h F f Ls d y hd)) n (125 + y) (ni hd) = some (alS h F f Ls d y hd) := by
      rw [row_lj u1.1 (sh_125 y y15) (by omega) (by omega), if_pos (ni_inb (by omega) (by omega)), ni_tn (by omega), row_js u.1 (sh_125 y y15), updL_s]
    have ev : alS h F f Ls d y hd = lnS h F f Ls d y hd := by
      unfold lnS
      rw [if_pos (by omega)]
    obtain ⟨g', q1, q2, q3, q4⟩ := ih (hd + 1) k _ (by omega) (by omega) u1 (fun i hi => by rw [jA_sj_n (by omega)]; exact a i hi) (r.step u.1 y15 ev)
    refine ⟨g', ?_, q2, (CR.sj _ _ _ (by omega)).trans q3, q4⟩
    unfold lp_X7_fillLinesOf_28
    rw [if_neg (fun q => by have := (ni_le (a := 4) (by omega) (by omega)).mp q; omega)]
    simp only [g_73_6 u.1 hn, ge_108 u.1 hn, i15, ty, if_true, y15, Option.bind_some, e109, lj, st, lj2, ni_1]
    exact q1
theorem lnS_ea {F f y o : Nat} {d : Int32} {Ls : Nat → List Stm} (hy : 0 < y) (ho : o ≤ 2) : lnS h F f Ls d y (7 + o) = eaS h f (y - 1) o d (wwS h f Ls (y - 1)) (Ls ((y - 1) / 5)) := by
  unfold lnS
  rw [if_neg (by omega), if_neg (by omega), if_neg (by omega), if_neg (by omega), if_neg (by omega), if_neg (by omega), if_pos (by omega), show 7 + o - 7 = o by omega]
theorem lnS_sh {F f y o : Nat} {d : Int32} {Ls : Nat → List Stm} (hy : 0 < y) (ho : o ≤ 3) : lnS h F f Ls d y (10 + o) = shS h F f (y - 1) o d (wwS h f Ls (y - 1)) (Ls ((y - 1) / 5)) := by
  unfold lnS
  rw [if_neg (by omega), if_neg (by omega), if_neg (by omega), if_neg (by omega), if_neg (by omega), if_neg (by omega), if_neg (by omega), show 10 + o - 10 = o by omega]
theorem lnS_0 {F f k : Nat} {d : Int32} {Ls : Nat → List Stm} (h7 : 7 ≤ k) (h13 : k ≤ 13) : lnS h F f Ls d 0 k = 0 := by
  unfold lnS
  rw [if_neg (by omega), if_neg (by omega), if_neg (by omega), if_neg (by omega), if_neg (by omega), if_pos rfl]
theorem z_fl114 (hK : 3000 ≤ K) (hn : 159 ≤ n) {F f Y y : Nat} {d : Int32} {Ls : Nat → List Stm} (hY : Y ≤ 15) (hy : y < Y) (y0 : 0 < y) (l3 : Int64) : ∀ (m o k : Nat) (g : mm_H), o + m = 3 → m < k → CF n h F f d Ls Y g → RW h F f Ls d y (7 + o) g → ∃ g', lp_X7_fillLinesOf_114 K n 73 (ni y) (125 + y) l3 k (ni o) g = some g' ∧ CF n h F f d Ls Y g' ∧ CR (125 + y) g g' ∧ RW h F f Ls d y 10 g' := by
  intro m
  induction m with
  | zero =>
    intro o k g hi hk u r
    obtain ⟨k, rfl⟩ : ∃ x, k = x + 1 := ⟨k - 1, by omega⟩
    have : o = 3 := by omega
    subst this
    unfold lp_X7_fillLinesOf_114
    rw [if_pos (by decide)]
    exact ⟨g, rfl, u, CR.id_, r⟩
  | succ m ih =>
    intro o k g hi hk u r
    obtain ⟨k, rfl⟩ : ∃ x, k = x + 1 := ⟨k - 1, by omega⟩
    have y15 : y < 15 := by omega
    obtain ⟨u1, u2, u3, u4, u5, u6, u7, u8, u9, u10, u11⟩ := id u
    obtain ⟨z, R⟩ := u8 ((y - 1) / 5) (by omega)
    have ec := z_earnedC hK u1 hn u2 (f := f) (y := y - 1) (o := o) (d := d) (by omega) (by omega) (by omega) u4 u5 R ((u6 (y - 1) (by omega)).1 2 o (Or.inr (Or.inl ⟨rfl, by omega⟩)))
    rw [eaS_c u3, ← lnS_ea (F := F) y0 (by omega)] at ec
    have ey : ni y - 1 = ni (y - 1) := ni_sub (b := 1) (by omega)
    have e7 : (7 : Int32) + ni o = ni (7 + o) := ni_add 7 _
    have st := row_15 (n := n) u1 hn (y := y) (m := 7 + o) y15 (by omega) (lnS h F f Ls d y (7 + o))
    obtain ⟨g', q1, q2, q3, q4⟩ := ih (o + 1) k _ (by omega) (by omega) (u.row hY y15 (m := 7 + o) (lnS h F f Ls d y (7 + o))) (r.step u1 y15 rfl)
    refine ⟨g', ?_, q2, (CR.sj _ _ _ (by omega)).trans q3, q4⟩
    unfold lp_X7_fillLinesOf_114
    rw [if_neg (fun q => by have := (ni_le (a := 3) (by omega) (by omega)).mp q; omega), if_neg (fun q => by have := (ni_le (b := 0) (by omega) (by omega)).mp q; omega)]
    simp only [gq_73 u1 hn, Option.bind_some, ey, ec, e7, st, ni_1]
    exact q1
theorem z_fl149 (hK : 3000 ≤ K) (hn : 159 ≤ n) {F f Y y : Nat} {d : Int32} {Ls : Nat → List Stm} (hY : Y ≤ 15) (hy : y < Y) (y0 : 0 < y) (l3 : Int64) : ∀ (m o k : Nat) (g : mm_H), o + m = 4 → m < k → CF n h F f d Ls Y g → (∀ i, i < 4 → jA g (109 + (y - 1)) i = alS h F f Ls d (y - 1) i) → RW h F f Ls d y (10 + o) g → ∃ g', lp_X7_fillLinesOf_149 K n 73 (ni y) (125 + y) l3 k (ni o) g = some g' ∧ CF n h F f d Ls Y g' ∧ CR (125 + y) g g' ∧ RW h F f Ls d y 14 g' := by
  intro m
  induction m with
  | zero =>
    intro o k g hi hk u a r
    obtain ⟨k, rfl⟩ : ∃ x, k = x + 1 := ⟨k - 1, by omega⟩
    have : o = 4 := by omega
    subst this
    unfold lp_X7_fillLinesOf_149
    rw [if_pos (by decide)]
    exact ⟨g, rfl, u, CR.id_, r⟩
  | succ m ih =>
    intro o k g hi hk u a r
    obtain ⟨k, rfl⟩ : ∃ x, k = x + 1 := ⟨k - 1, by omega⟩
    have y15 : y < 15 := by omega
    obtain ⟨u1, u2, u3, u4, u5, u6, u7, u8, u9, u10, u11⟩ := id u
    obtain ⟨z, R⟩ := u8 ((y - 1) / 5) (by omega)
    have ec := z_sharedC hK u1 hn u2 (f := f) (y := y - 1) (hd := o) (d := d) (by omega) (by omega) (by omega) u4 u5 R ((u6 (y - 1) (by omega)).1 1 o (Or.inl ⟨by omega, by omega⟩)) (a o (by omega))
    have es : (if kn g f (y - 1) (3 + o) d = -1 then 0 else ((kn g f (y - 1) (3 + o) d).toInt64 - alS h F f Ls d (y - 1) o) - brO (wwS h f Ls (y - 1)) (Ls ((y - 1) / 5)) o ((kn g f (y - 1) (3 + o) d).toInt64 - alS h F f Ls d (y - 1) o)) = lnS h F f Ls d y (10 + o) := by
      rw [lnS_sh y0 (by omega), kn_c (fun a _ _ => u3 a (by omega))]
      rfl
    rw [es] at ec
    have ey : ni y - 1 = ni (y - 1) := ni_sub (b := 1) (by omega)
    have e10 : (10 : Int32) + ni o = ni (10 + o) := ni_add 10 _
    have st := row_15 (n := n) u1 hn (y := y) (m := 10 + o) y15 (by omega) (lnS h F f Ls d y (10 + o))
    obtain ⟨g', q1, q2, q3, q4⟩ := ih (o + 1) k _ (by omega) (by omega) (u.row hY y15 (m := 10 + o) (lnS h F f Ls d y (10 + o))) (fun i hi => by rw [jA_sj_n (by omega)]; exact a i hi) (r.step u1 y15 rfl)
    refine ⟨g', ?_, q2, (CR.sj _ _ _ (by omega)).trans q3, q4⟩
    unfold lp_X7_fillLinesOf_149
    rw [if_neg (fun q => by have := (ni_le (a := 4) (by omega) (by omega)).mp q; omega), if_neg (fun q => by have := (ni_le (b := 0) (by omega) (by omega)).mp q; omega)]
    simp only [gq_73 u1 hn, Option.bind_some, ey, ec, e10, st, ni_1]
    exact q1
end FILL

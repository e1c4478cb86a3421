/-! ===== the law's text is made, fed and taken: the whole law ===== -/
section LAWW
variable {K : Nat} {P : Nat → Nat} {le ti : Bool}
variable {l2 l3 l4 l5 l6 l7 l8 l9 l10 l11 l12 l13 l14 l15 l16 l17 : Int32}
def tlN (i : Nat) : List Nat := if i = 0 then [114, 101, 116, 117, 114, 110, 32] else if i = 1 then [59, 105, 110, 100, 101, 120, 32] else if i = 2 then [59, 119, 101, 97, 114, 32] else if i = 3 then [59, 98, 97, 99, 107, 32] else if i = 4 then [32, 117, 110, 108, 101, 115, 115, 32, 121, 101, 97, 114, 62, 51, 59] else if i = 5 then [116, 105, 108, 116, 32] else if i = 6 then [59] else if i = 7 then [] else if i = 8 then [108, 111, 103, 32] else if i = 9 then [59, 97, 108, 108, 111, 119, 32, 114, 117, 110, 32, 112, 108, 97, 110, 32] else if i = 10 then [59, 115, 104, 97, 114, 101, 32, 114, 117, 110, 32] else if i = 11 then [32] else if i = 12 then [59, 116, 97, 114, 103, 101, 116, 32, 49, 32] else if i = 13 then [108, 101, 115, 115, 32] else if i = 14 then [109, 111, 114, 101, 32] else if i = 15 then [32, 115, 116, 101, 112, 32] else if i = 16 then [32, 99, 111, 105, 110, 32] else if i = 17 then [32, 100, 101, 97, 100, 32] else if i = 18 then [32, 99, 97, 112, 32] else []
theorem tl_ok : ∀ i, i < 19 → mm_lenL.getD i 0 = (tlN i).length ∧ (∀ j, j < (tlN i).length → (mm_bytL.getD i []).getD j 0 = ni ((tlN i).getD j 0)) ∧ (tlN i).length ≤ 18 ∧ ∀ t, t ∈ tlN i → t < 128 := by decide +kernel
/-- the law's own texts and the tables of digits -/
def CN (h : mm_H) : Prop := DT h ∧ ∀ i, i < 19 → BYr h (1000100 + i) (tlN i).length (tlN i)
theorem CN.c {h g : mm_H} (c : CN h) (e : ∀ a, 1000000 ≤ a → g a = h a) : CN g :=
  ⟨c.1.c e, fun i hi => by
    obtain ⟨f, f1, f2⟩ := c.2 i hi
    exact ⟨f, (e _ (by omega)).trans f1, f2⟩⟩
theorem CN.st {h : mm_H} {n i : Nat} (c : CN h) (hi : i < 19) : STr h n (1000000 + i) (1000100 + i) (tlN i) :=
  ⟨(tl_ok i hi).2.2.2, by have := (tl_ok i hi).2.2.1; omega, c.2 i hi, Or.inl ⟨by omega, by omega, by omega⟩⟩
/-- a builder under way -/
def WS (h0 h : mm_H) (n0 n a v : Nat) (T : List Nat) (B C : Nat) : Prop := SBr h n a v T ∧ n0 ≤ a ∧ n0 ≤ v ∧ T.length ≤ B ∧ n ≤ C ∧ n0 ≤ n ∧ ∀ b, (b < n0 ∨ 1000000 ≤ b) → h b = h0 b
theorem WS.ck {h0 h : mm_H} {n0 n a v B C : Nat} {T : List Nat} (w : WS h0 h n0 n a v T B C) : ckq h n a 11 = some () := by
  obtain ⟨⟨N, m, s1, s2, s3, s4, s5, s6, s7, s8, -⟩, -⟩ := w
  exact ckq_o ⟨s1, s2⟩ s8
theorem WS.av {h0 h : mm_H} {n0 n a v B C : Nat} {T : List Nat} (w : WS h0 h n0 n a v T B C) : a < n ∧ v < n ∧ n < 1000000 := by
  obtain ⟨⟨N, m, s1, s2, s3, s4, s5, s6, -⟩, -⟩ := w
  exact ⟨s2, s4, s6⟩
theorem WS.st0 {h0 h : mm_H} {n0 n a v B C s vs k : Nat} {T S : List Nat} (w : WS h0 h n0 n a v T B C) (t : STr h n s vs S) (d1 : s ≠ a) (d2 : s ≠ v) (d3 : vs ≠ a) (d4 : vs ≠ v) (hS : S.length ≤ k) (hk : k ≤ 18) (hB : B + k ≤ 286) (hC : C + 1 < 1000000) : ∃ g m v', q_J4_append_15ec4 K h n a (some s) = some (some a, g, m) ∧ WS h0 g n0 m a v' (T ++ S) (B + k) (C + 1) := by
  obtain ⟨w1, w2, w3, w4, w5, w6, w7⟩ := w
  obtain ⟨g, m, v', e, m1, m2, b, hv, fr⟩ := sb_str (K := K) w1 (by omega) t d1 d2 d3 d4 (by omega) (by omega)
  exact ⟨g, m, v', e, b, w2, by omega, by rw [List.length_append]; omega, by omega, by omega, fun b hb => (fr b (by rintro rfl; have := WS.av ⟨w1, w2, w3, w4, w5, w6, w7⟩; omega) (by rintro rfl; have := WS.av ⟨w1, w2, w3, w4, w5, w6, w7⟩; omega) (by omega)).trans (w7 b hb)⟩
theorem WS.str {h0 h : mm_H} {n0 n a v B C : Nat} {T : List Nat} (w : WS h0 h n0 n a v T B C) (cn : CN h0) (i k : Nat) (hi : i < 19) (hk : (tlN i).length = k) (hB : B + k ≤ 286) (hC : C + 1 < 1000000) : ∃ g m v', q_J4_append_15ec4 K h n a (some (1000000 + i)) = some (some a, g, m) ∧ WS h0 g n0 m a v' (T ++ tlN i) (B + k) (C + 1) := by
  have h7 := w.2.2.2.2.2.2
  obtain ⟨q1, q2, q3⟩ := w.av
  exact w.st0 ((cn.c (fun a ha => h7 a (Or.inr ha))).st hi) (by omega) (by omega) (by omega) (by omega) (Nat.le_of_eq hk) (by have := (tl_ok i hi).2.2.1; omega) hB hC
theorem WS.int {h0 h : mm_H} {n0 n a v B C x : Nat} {T : List Nat} (hK : 3000 ≤ K) (w : WS h0 h n0 n a v T B C) (cn : CN h0) (hx : x < 600) (hB : B + 3 ≤ 286) (hC : C + 1 < 1000000) : ∃ g m v', q_J4_append_bf812 K h n a (ni x) = some (some a, g, m) ∧ WS h0 g n0 m a v' (T ++ dg x) (B + 3) (C + 1) := by
  have w' := w
  obtain ⟨w1, w2, w3, w4, w5, w6, w7⟩ := w
  obtain ⟨q1, q2, q3⟩ := w'.av
  obtain ⟨g, m, v', e, m1, m2, b, hv, fr⟩ := sb_int (K := K) hK w1 (by omega) (cn.1.c (fun a ha => w7 a (Or.inr ha))) hx (by omega)
  have dl := (dg_len (v := x)).2
  exact ⟨g, m, v', e, b, w2, by omega, by rw [List.length_append]; omega, by omega, by omega, fun b hb => (fr b (by rintro rfl; omega) (by rintro rfl; omega) (by omega)).trans (w7 b hb)⟩
theorem WS.new {h : mm_H} {n : Nat} (hn : 48 ≤ n) (hn9 : n + 2 < 1000000) : ∃ h1 g, newO h n 11 [.null, .int 0, .int 0, .int 0] = some h1 ∧ q_J4_init_da8c8 K h1 (n + 1) n = some (g, n + 2) ∧ WS h g n (n + 2) n (n + 1) [] 0 (n + 2) := by
  obtain ⟨h1, g, e1, e2, b, ck, fr⟩ := sb_new (K := K) (h := h) hn hn9
  exact ⟨h1, g, e1, e2, b, Nat.le_refl n, by omega, Nat.le_refl 0, Nat.le_refl _, by omega, fun b hb => fr b (by omega) (by omega)⟩
/-- the words on tilts, if there are any -/
def tiT (P : Nat → Nat) (ti : Bool) : List Nat := if ti = true then ([] ++ tlN 5) ++ dg (P 6) ++ tlN 6 else tlN 7
theorem z_tilt (hK : 3000 ≤ K) {h0 h : mm_H} {n0 n a v B C : Nat} {T : List Nat} (hn0 : 48 ≤ n0) (w : WS h0 h n0 n a v T B C) (cn : CN h0) (hP : P 6 < 600) (h6 : l6 = ni (P 6)) (h17 : l17 = if ti = true then 1 else 0) (hC : C + 10 < 1000000) : ∃ s vs g m, ((if l17 = 0 then
    some ((some 1000007), h, n)
  else
    (newO h n 11 [.null, .int 0, .int 0, .int 0]).bind fun h168 =>
    (q_J4_init_da8c8 K h168 (n + 1) n).bind fun v172 =>
    (ckq v172.1 v172.2 n 11).bind fun u175 =>
    (q_J4_append_15ec4 K v172.1 v172.2 n (some 1000005)).bind fun v179 =>
    v179.1.bind fun a182 =>
    (ckq v179.2.1 v179.2.2 a182 11).bind fun u184 =>
    (q_J4_append_bf812 K v179.2.1 v179.2.2 a182 l6).bind fun v188 =>
    v188.1.bind fun a191 =>
    (ckq v188.2.1 v188.2.2 a191 11).bind fun u193 =>
    (q_J4_append_15ec4 K v188.2.1 v188.2.2 a191 (some 1000006)).bind fun v197 =>
    v197.1.bind fun a200 =>
    (ckq v197.2.1 v197.2.2 a200 11).bind fun u202 =>
    (q_J4_toString_0e30d K v197.2.1 v197.2.2 a200).bind fun v206 =>
    some (v206.1, v206.2.1, v206.2.2)
   : Option ((Option Nat) × mm_H × Nat))) = some (some s, g, m) ∧ WS h0 g n0 m a v T B (C + 8) ∧ STr g m s vs (tiT P ti) ∧ s ≠ a ∧ s ≠ v ∧ vs ≠ a ∧ vs ≠ v := by
  obtain ⟨q1, q2, q3⟩ := w.av
  have w' := w
  obtain ⟨w1, w2, w3, w4, w5, w6, w7⟩ := w
  have ch : CN h := cn.c (fun a ha => w7 a (Or.inr ha))
  subst h6 h17
  cases ti
  · exact ⟨1000007, 1000107, h, n, if_pos rfl, ⟨w1, w2, w3, w4, by omega, w6, w7⟩, ch.st (i := 7) (by decide), by omega, by omega, by omega, by omega⟩
  · rw [if_neg (by decide)]
    obtain ⟨h1, g1, e1, e2, x1⟩ := WS.new (K := K) (h := h) (n := n) (by omega) (by omega)
    obtain ⟨g2, m2, v2, e3, x2⟩ := x1.str (K := K) ch 5 5 (by decide) rfl (by omega) (by omega)
    obtain ⟨g3, m3, v3, e4, x3⟩ := x2.int (K := K) hK ch hP (by omega) (by omega)
    obtain ⟨g4, m4, v4, e5, x4⟩ := x3.str (K := K) ch 6 1 (by decide) rfl (by omega) (by omega)
    have x4' := x4
    obtain ⟨y1, y2, y3, y4, y5, y6, y7⟩ := x4
    obtain ⟨z1, z2, z3⟩ := x4'.av
    obtain ⟨g5, e6, t5, fr⟩ := sb_tos (K := K) y1 (by omega)
    have ee : ∀ b, (b < n ∨ 1000000 ≤ b) → g5 b = h b := fun b hb => (fr b (by omega) (by omega)).trans (y7 b hb)
    refine ⟨m4, m4 + 1, g5, m4 + 2, ?_, ⟨w1.c (ee a (by omega)) (ee v (by omega)) (by omega) (by omega), w2, w3, w4, by omega, by omega, fun b hb => (ee b (by omega)).trans (w7 b hb)⟩, t5, by omega, by omega, by omega, by omega⟩
    refine bindS e1 ?_
    refine bindS e2 ?_
    refine bindS x1.ck ?_
    refine bindS e3 ?_
    refine bindS rfl ?_
    refine bindS x2.ck ?_
    refine bindS e4 ?_
    refine bindS rfl ?_
    refine bindS x3.ck ?_
    refine bindS e5 ?_
    refine bindS rfl ?_
    refine bindS x4'.ck ?_
    refine bindS e6 ?_
    rfl
/-- the whole text, as it is made -/
def bigT (P : Nat → Nat) (le ti : Bool) : List Nat := (((((((((((((((((((((((((((((([] ++ tlN 0) ++ dg (P 2)) ++ tlN 1) ++ dg (P 3)) ++ tlN 2) ++ dg (P 4)) ++ tlN 3) ++ dg (P 5)) ++ tlN 4) ++ tiT P ti) ++ tlN 8) ++ dg (P 7)) ++ tlN 9) ++ dg (P 8)) ++ tlN 10) ++ dg (P 9)) ++ tlN 11) ++ dg (P 10)) ++ tlN 12) ++ tlN (if le = true then 13 else 14)) ++ dg (P 11)) ++ tlN 15) ++ dg (P 12)) ++ tlN 16) ++ dg (P 13)) ++ tlN 17) ++ dg (P 14)) ++ tlN 18) ++ dg (P 15)) ++ tlN 6)
theorem tA_0 (X : List Nat) : tlN 0 ++ X = w_ret ++ 32 :: X := rfl
theorem tA_1 (X : List Nat) : tlN 1 ++ X = 59 :: (w_idx ++ 32 :: X) := rfl
theorem tA_2 (X : List Nat) : tlN 2 ++ X = 59 :: (w_wear ++ 32 :: X) := rfl
theorem tA_3 (X : List Nat) : tlN 3 ++ X = 59 :: (w_back ++ 32 :: X) := rfl
theorem tA_4 (X : List Nat) : tlN 4 ++ X = 32 :: (wUnl ++ 32 :: (w_year ++ 62 :: (dg 3 ++ 59 :: X))) := rfl
theorem tA_5 (X : List Nat) : tlN 5 ++ X = w_tilt ++ 32 :: X := rfl
theorem tA_6 (X : List Nat) : tlN 6 ++ X = 59 :: X := rfl
theorem tA_7 (X : List Nat) : tlN 7 ++ X = X := rfl
theorem tA_8 (X : List Nat) : tlN 8 ++ X = w_log ++ 32 :: X := rfl
theorem tA_9 (X : List Nat) : tlN 9 ++ X = 59 :: (w_allow ++ 32 :: (w_run ++ 32 :: (w_plan ++ 32 :: X))) := rfl
theorem tA_10 (X : List Nat) : tlN 10 ++ X = 59 :: (w_share ++ 32 :: (w_run ++ 32 :: X)) := rfl
theorem tA_11 (X : List Nat) : tlN 11 ++ X = 32 :: X := rfl
theorem tA_12 (X : List Nat) : tlN 12 ++ X = 59 :: (w_tgt ++ 32 :: (dg 1 ++ 32 :: X)) := rfl
theorem tA_15 (X : List Nat) : tlN 15 ++ X = 32 :: (w_step ++ 32 :: X) := rfl
theorem tA_16 (X : List Nat) : tlN 16 ++ X = 32 :: (w_coin ++ 32 :: X) := rfl
theorem tA_17 (X : List Nat) : tlN 17 ++ X = 32 :: (w_dead ++ 32 :: X) := rfl
theorem tA_18 (X : List Nat) : tlN 18 ++ X = 32 :: (w_cap ++ 32 :: X) := rfl
theorem tA_l (X : List Nat) : tlN (if true = true then 13 else 14) ++ X = w_less ++ 32 :: X := rfl
theorem tA_m (X : List Nat) : tlN (if false = true then 13 else 14) ++ X = w_more ++ 32 :: X := rfl
theorem tA_e : tlN 6 = 59 :: [] := rfl
theorem wL_l : wLM true = w_less := rfl
theorem wL_m : wLM false = w_more := rfl
theorem lQ_t {wm : List Nat} : lawQ P wm true = w_tilt ++ 32 :: (dg (P 6) ++ 59 :: lawZ P wm) := rfl
theorem lQ_f {wm : List Nat} : lawQ P wm false = lawZ P wm := rfl
theorem ti_t : tiT P true = tlN 5 ++ (dg (P 6) ++ tlN 6) := by
  show ([] ++ tlN 5) ++ dg (P 6) ++ tlN 6 = _
  rw [List.nil_append, List.append_assoc]
theorem ti_f : tiT P false = tlN 7 := rfl
/-- what is made, step by step -/
theorem z_233 (hK : 3000 ≤ K) {h0 : mm_H} {n0 : Nat} (hn0 : 159 ≤ n0) (hn9 : n0 < 900000) (cn : CN h0) (pb : PB P) (lp : LPP P le ti l2 l3 l4 l5 l6 l7 l8 l9 l10 l11 l12 l13 l14 l15 l16 l17) (nxt : ∀ g m s vs, STr g m s vs (bigT P le ti) → n0 ≤ s → n0 ≤ vs → s < m → vs < m → m ≤ n0 + 60 → (bigT P le ti).length ≤ 220 → (∀ b, (b < n0 ∨ 1000000 ≤ b) → g b = h0 b) → q_law_434 K g m l2 l3 l4 l5 l6 l7 l8 l9 l10 l11 l12 l13 l14 l15 l16 l17 (some s) = some ()) : q_law_233 K h0 n0 l2 l3 l4 l5 l6 l7 l8 l9 l10 l11 l12 l13 l14 l15 l16 l17 = some () := by
  obtain ⟨lp1, lp2, ⟨h2, h3, h4, h5, h6, h7, h8, h9, h10, h11, h12, h13, h14, h15⟩, h16, h17⟩ := lp
  obtain ⟨p2, ⟨p3, p3'⟩, p4, p5, p6, p7, p8, p9, p10, p11, ⟨p12, p12'⟩, p13, p14, p15⟩ := pb
  have tiL : (tiT P ti).length ≤ 9 := by
    have := (dg_len (v := P 6)).2
    cases ti
    · exact Nat.zero_le 9
    · show (([] ++ tlN 5) ++ dg (P 6) ++ tlN 6).length ≤ 9
      rw [List.length_append, List.length_append, List.length_append]
      have a5 : (tlN 5).length = 5 := rfl
      have a6 : (tlN 6).length = 1 := rfl
      have a0 : ([] : List Nat).length = 0 := rfl
      omega
  unfold q_law_233
  obtain ⟨hh, g0, ea, eb, x0⟩ := WS.new (K := K) (h := h0) (n := n0) (by omega) (by omega)
  refine bindS ea ?_
  refine bindS eb ?_
  refine bindS x0.ck ?_
  obtain ⟨g1, m1, v1, e1, x1⟩ := x0.str (K := K) cn 0 7 (by decide) rfl (by omega) (by omega)
  refine bindS e1 ?_
  refine bindS rfl ?_
  refine bindS x1.ck ?_
  obtain ⟨g2, m2, v2, e2, x2⟩ := x1.int (K := K) hK cn (x := P 2) (by omega) (by omega) (by omega)
  refine bindS (by rw [h2]; exact e2) ?_
  refine bindS rfl ?_
  refine bindS x2.ck ?_
  obtain ⟨g3, m3, v3, e3, x3⟩ := x2.str (K := K) cn 1 7 (by decide) rfl (by omega) (by omega)
  refine bindS e3 ?_
  refine bindS rfl ?_
  refine bindS x3.ck ?_
  obtain ⟨g4, m4, v4, e4, x4⟩ := x3.int (K := K) hK cn (x := P 3) (by omega) (by omega) (by omega)
  refine bindS (by rw [h3]; exact e4) ?_
  refine bindS rfl ?_
  refine bindS x4.ck ?_
  obtain ⟨g5, m5, v5, e5, x5⟩ := x4.str (K := K) cn 2 6 (by decide) rfl (by omega) (by omega)
  refine bindS e5 ?_
  unfold q_law_263
  refine bindS rfl ?_
  refine bindS x5.ck ?_
  obtain ⟨g6, m6, v6, e6, x6⟩ := x5.int (K := K) hK cn (x := P 4) (by omega) (by omega) (by omega)
  refine bindS (by rw [h4]; exact e6) ?_
  refine bindS rfl ?_
  refine bindS x6.ck ?_
  obtain ⟨g7, m7, v7, e7, x7⟩ := x6.str (K := K) cn 3 6 (by decide) rfl (by omega) (by omega)
  refine bindS e7 ?_
  refine bindS rfl ?_
  refine bindS x7.ck ?_
  obtain ⟨g8, m8, v8, e8, x8⟩ := x7.int (K := K) hK cn (x := P 5) (by omega) (by omega) (by omega)
  refine bindS (by rw [h5]; exact e8) ?_
  refine bindS rfl ?_
  refine bindS x8.ck ?_
  obtain ⟨g9, m9, v9, e9, x9⟩ := x8.str (K := K) cn 4 15 (by decide) rfl (by omega) (by omega)
  refine bindS e9 ?_
  obtain ⟨ts, tv, gt, mt, et, xt, tt, d1, d2, d3, d4⟩ := z_tilt (K := K) (l6 := l6) (l17 := l17) (P := P) (ti := ti) hK (by omega) x9 cn (by omega) h6 h17 (by omega)
  refine bindS et ?_
  have hmt : ¬ mt < 48 := by have := xt.2.2.2.2.2.1; omega
  refine (if_neg hmt).trans ?_
  unfold q_law_318
  refine bindS rfl ?_
  refine bindS xt.ck ?_
  obtain ⟨g10, m10, v10, e10, x10⟩ := xt.st0 (K := K) (k := 9) tt d1 d2 d3 d4 tiL (by omega) (by omega) (by omega)
  refine bindS e10 ?_
  refine bindS rfl ?_
  refine bindS x10.ck ?_
  obtain ⟨g11, m11, v11, e11, x11⟩ := x10.str (K := K) cn 8 4 (by decide) rfl (by omega) (by omega)
  refine bindS e11 ?_
  refine bindS rfl ?_
  refine bindS x11.ck ?_
  obtain ⟨g12, m12, v12, e12, x12⟩ := x11.int (K := K) hK cn (x := P 7) (by omega) (by omega) (by omega)
  refine bindS (by rw [h7]; exact e12) ?_
  refine bindS rfl ?_
  refine bindS x12.ck ?_
  obtain ⟨g13, m13, v13, e13, x13⟩ := x12.str (K := K) cn 9 16 (by decide) rfl (by omega) (by omega)
  refine bindS e13 ?_
  refine bindS rfl ?_
  refine bindS x13.ck ?_
  obtain ⟨g14, m14, v14, e14, x14⟩ := x13.int (K := K) hK cn (x := P 8) (by omega) (by omega) (by omega)
  refine bindS (by rw [h8]; exact e14) ?_
  refine bindS rfl ?_
  refine bindS x14.ck ?_
  obtain ⟨g15, m15, v15, e15, x15⟩ := x14.str (K := K) cn 10 11 (by decide) rfl (by omega) (by omega)
  refine bindS e15 ?_
  unfold q_law_346
  refine bindS rfl ?_
  refine bindS x15.ck ?_
  obtain ⟨g16, m16, v16, e16, x16⟩ := x15.int (K := K) hK cn (x := P 9) (by omega) (by omega) (by omega)
  refine bindS (by rw [h9]; exact e16) ?_
  refine bindS rfl ?_
  refine bindS x16.ck ?_
  obtain ⟨g17, m17, v17, e17, x17⟩ := x16.str (K := K) cn 11 1 (by decide) rfl (by omega) (by omega)
  refine bindS e17 ?_
  refine bindS rfl ?_
  refine bindS x17.ck ?_
  obtain ⟨g18, m18, v18, e18, x18⟩ := x17.int (K := K) hK cn (x := P 10) (by omega) (by omega) (by omega)
  refine bindS (by rw [h10]; exact e18) ?_
  refine bindS rfl ?_
  refine bindS x18.ck ?_
  obtain ⟨g19, m19, v19, e19, x19⟩ := x18.str (K := K) cn 12 10 (by decide) rfl (by omega) (by omega)
  refine bindS e19 ?_
  have hy : ((if l16 = 0 then some (1000014) else some (1000013) : Option (Nat))) = some (1000000 + (if le = true then 13 else 14)) := by
    rw [h16]
    cases le <;> rfl
  refine bindS hy ?_
  unfold q_law_378
  refine bindS rfl ?_
  refine bindS x19.ck ?_
  obtain ⟨g20, m20, v20, e20, x20⟩ := x19.str (K := K) cn (if le = true then 13 else 14) 5 (by cases le <;> decide) (by cases le <;> rfl) (by omega) (by omega)
  refine bindS e20 ?_
  refine bindS rfl ?_
  refine bindS x20.ck ?_
  obtain ⟨g21, m21, v21, e21, x21⟩ := x20.int (K := K) hK cn (x := P 11) (by omega) (by omega) (by omega)
  refine bindS (by rw [h11]; exact e21) ?_
  refine bindS rfl ?_
  refine bindS x21.ck ?_
  obtain ⟨g22, m22, v22, e22, x22⟩ := x21.str (K := K) cn 15 6 (by decide) rfl (by omega) (by omega)
  refine bindS e22 ?_
  refine bindS rfl ?_
  refine bindS x22.ck ?_
  obtain ⟨g23, m23, v23, e23, x23⟩ := x22.int (K := K) hK cn (x := P 12) (by omega) (by omega) (by omega)
  refine bindS (by rw [h12]; exact e23) ?_
  refine bindS rfl ?_
  refine bindS x23.ck ?_
  obtain ⟨g24, m24, v24, e24, x24⟩ := x23.str (K := K) cn 16 6 (by decide) rfl (by omega) (by omega)
  refine bindS e24 ?_
  unfold q_law_403
  refine bindS rfl ?_
  refine bindS x24.ck ?_
  obtain ⟨g25, m25, v25, e25, x25⟩ := x24.int (K := K) hK cn (x := P 13) (by omega) (by omega) (by omega)
  refine bindS (by rw [h13]; exact e25) ?_
  refine bindS rfl ?_
  refine bindS x25.ck ?_
  obtain ⟨g26, m26, v26, e26, x26⟩ := x25.str (K := K) cn 17 6 (by decide) rfl (by omega) (by omega)
  refine bindS e26 ?_
  refine bindS rfl ?_
  refine bindS x26.ck ?_
  obtain ⟨g27, m27, v27, e27, x27⟩ := x26.int (K := K) hK cn (x := P 14) (by omega) (by omega) (by omega)
  refine bindS (by rw [h14]; exact e27) ?_
  refine bindS rfl ?_
  refine bindS x27.ck ?_
  obtain ⟨g28, m28, v28, e28, x28⟩ := x27.str (K := K) cn 18 5 (by decide) rfl (by omega) (by omega)
  refine bindS e28 ?_
  refine bindS rfl ?_
  refine bindS x28.ck ?_
  obtain ⟨g29, m29, v29, e29, x29⟩ := x28.int (K := K) hK cn (x := P 15) (by omega) (by omega) (by omega)
  refine bindS (by rw [h15]; exact e29) ?_
  refine bindS rfl ?_
  refine bindS x29.ck ?_
  obtain ⟨g30, m30, v30, e30, x30⟩ := x29.str (K := K) cn 6 1 (by decide) rfl (by omega) (by omega)
  refine bindS e30 ?_
  refine bindS rfl ?_
  refine bindS x30.ck ?_
  have xx := x30
  obtain ⟨y1, y2, y3, y4, y5, y6, y7⟩ := x30
  obtain ⟨z1, z2, z3⟩ := xx.av
  obtain ⟨gz, ez, tz, fz⟩ := sb_tos (K := K) y1 (by omega)
  refine bindS ez ?_
  exact nxt gz (m30 + 2) m30 (m30 + 1) tz (by omega) (by omega) (by omega) (by omega) (by omega) (Nat.le_trans y4 (by omega)) (fun b hb => (fz b (by omega) (by omega)).trans (y7 b hb))
end LAWW

/-! ===== a sheet is opened: year by year ===== -/
section OPEN
variable {K n : Nat} {h : mm_H}
/-- a book (or none) and a set (or none) that say the same -/
def RS (h : mm_H) (n : Nat) (b : Option Nat) (z : Int32) (L : List Stm) : Prop := (b = none ∧ z = -1 ∧ L = []) ∨ ∃ p w B a b', b = some p ∧ z = ni w ∧ w < 13 ∧ B ≤ 9 ∧ bothR h n p w B L a b'
def dfl (k : Nat) : Int32 := if k = 4 then 100 else if k = 7 then -1 else 0
theorem fill_row (hK : 3000 ≤ K) {g : mm_H} (c : PS g) (hn : 159 ≤ n) {a N : Nat} (hs : mm_sh a = some (.inl (.int, N))) (ha : 48 ≤ a) (han : a < n) (hN : N ≤ 100) (v : Int32) : ∃ g', q_J7_fill_53178 K g n (some a) v = some g' ∧ PS g' ∧ (∀ b, b ≠ a → g' b = g b) ∧ ∀ j, j < N → iA g' a j = v := by
  have e : g a = .inl (.int, N, .inl (iA g a)) := c a _ hs
  have hl : lenA g n a 0 = some (Int32.ofNat N) := by
    unfold lenA
    rw [if_pos ⟨ha, han⟩, e]
    rfl
  have lp := fill_lp (K := K) (n := n) (v := v) (l3 := Int32.ofNat N) ⟨ha, han⟩ (by omega) rfl K 0 g (iA g a) e (Nat.zero_le _) (by omega)
  have e2 : iA (mm_up g a (.inl (.int, N, .inl (fun j => if 0 ≤ j ∧ j < N then v else iA g a j)))) a = fun j => if 0 ≤ j ∧ j < N then v else iA g a j := by
    unfold iA
    rw [mm_up_s]
  refine ⟨mm_up g a (.inl (.int, N, .inl (fun j => if 0 ≤ j ∧ j < N then v else iA g a j))), ?_, ?_, fun b hb => mm_up_n hb, fun j hj => ?_⟩
  · unfold q_J7_fill_53178
    simp only [Option.bind_some, hl]
    rw [show lp_J7_fill_53178_5 K n a v (Int32.ofNat N) K 0 g = _ from lp]
    rfl
  · refine c.up (fun s' hs' => ?_)
    obtain rfl := Option.some.inj (hs'.symm.trans hs)
    show _ = (Sum.inl (_, N, .inl (iA (mm_up g a _) a)) : mm_E)
    rw [e2]
  · rw [e2]
    show (if 0 ≤ j ∧ j < N then v else iA g a j) = v
    rw [if_pos ⟨Nat.zero_le _, hj⟩]
theorem JR_c {g : mm_H} (e : ∀ a, a < 73 ∨ (151 ≤ a ∧ a ≤ 199) ∨ a = 207 → g a = h a) (j : JR h) : JR g := JR_0 (fun a ha => e a (by omega)) j
theorem wdS_c {g : mm_H} (e : ∀ a, a < 73 → g a = h a) (f y : Nat) (W : Int64) : wdS g f y W = wdS h f y W := by
  unfold wdS
  rw [hmS_c (kn_c (fun a _ _ => e a (by omega))), ltS_c (fun a _ _ => e a (by omega)), fI_c (e 56 (by omega)) 4]
theorem z_settle (hK : 3000 ≤ K) (c : PS h) (hn : 159 ≤ n) (j : JR h) (z2 : ∃ f, h 2 = .inl (.int, 0, .inl f)) {b : Option Nat} {z : Int32} {L : List Stm} {f y : Nat} (hf : f ≤ 10) (hy : y ≤ 14) (h11 : fI h 73 11 = ni f) (hb : rA h 74 (y / 5) = b) (R : RS h n b z L) : ∃ g, q_X7_settle K h n 73 (ni y) = some g ∧ PS g ∧ (∀ a, a ≠ 76 + y → a ≠ 92 + y → a ≠ 142 → g a = h a) ∧ (∀ k o, vKO k o → iA g (76 + y) (slotK k o) = oI (lastS (wdS h f y (jA h 107 y)) k o L 0 none)) ∧ ∀ k, 3 ≤ k → k ≤ 8 → iA g (92 + y) k = numS (wdS h f y (jA h 107 y)) L k (dfl k) := by
  have s1 := sh_76 y (by omega)
  have s2 := sh_92 y (by omega)
  have i15 : inb (ni y) 15 = true := ni_inb (by omega) (by omega)
  have ty : (ni y).toNatClampNeg = y := ni_tn (by omega)
  have y15 : y < 15 := by omega
  have y15' : ni y < 15 := (ni_lt (b := 15) (by omega) (by omega)).mpr y15
  obtain ⟨g1, f1, p1, o1, v1⟩ := fill_row hK c hn s1 (by omega) (show 76 + y < n by omega) (by omega) (-1)
  obtain ⟨g2, f2, p2, o2, v2⟩ := fill_row hK p1 hn s2 (by omega) (show 92 + y < n by omega) (by omega) 0
  have p3 : PS (mm_si g2 (92 + y) 4 100) := p2.si s2 (Or.inl rfl) _ _
  have p4 : PS (mm_si (mm_si g2 (92 + y) 4 100) (92 + y) 7 (-1)) := p3.si s2 (Or.inl rfl) _ _
  have w3 : stI g2 n (92 + y) 4 100 = some (mm_si g2 (92 + y) 4 100) := by
    rw [row_st p2 s2 (by omega) (by omega), if_pos (by decide)]
    rfl
  have w4 : stI (mm_si g2 (92 + y) 4 100) n (92 + y) 7 (-1) = some (mm_si (mm_si g2 (92 + y) 4 100) (92 + y) 7 (-1)) := by
    rw [row_st p3 s2 (by omega) (by omega), if_pos (by decide)]
    rfl
  generalize hg : mm_si (mm_si g2 (92 + y) 4 100) (92 + y) 7 (-1) = g4 at p4 w4
  have o4 : ∀ a, a ≠ 76 + y → a ≠ 92 + y → g4 a = h a := fun a h1 h2 => by rw [← hg, mm_si_n h2, mm_si_n h2, o2 a h2, o1 a h1]
  have e76 : ∀ i, i < 17 → iA g4 (76 + y) i = -1 := fun i hi => by
    rw [← hg, iA_si_n (by omega), iA_si_n (by omega), iA_c (o2 (76 + y) (by omega))]
    exact v1 i hi
  have e92 : ∀ k, 3 ≤ k → k ≤ 8 → iA g4 (92 + y) k = dfl k := fun k l1 l2 => by
    rw [← hg, row_is p3 s2, row_is p2 s2]
    unfold dfl
    by_cases k7 : k = 7
    · rw [if_neg (by omega), if_pos k7, k7, upd_s]
    · rw [upd_n k7]
      by_cases k4 : k = 4
      · rw [if_pos k4, k4, upd_s]
      · rw [upd_n k4, if_neg k4, if_neg k7]
        exact v2 k (by omega)
  have j4 : JR g4 := JR_c (fun a q => o4 a (by omega) (by omega)) j
  have b4 : q_X7_bookOf K g4 n 73 (ni y) = some b := by
    have i3 : inb (ni (y / 5)) 3 = true := ni_inb (by omega) (by omega)
    have t3 : (ni (y / 5)).toNatClampNeg = y / 5 := ni_tn (by omega)
    have ed : ni y / 5 = ni (y / 5) := by
      show ni y / ni 5 = _
      rw [ni_div (by omega) (by omega)]
    unfold q_X7_bookOf
    rw [if_neg (ni_pos (by omega)), if_neg (fun q => by have := (ni_le (a := 15) (by omega) (by omega)).mp q; omega), g_73_2 p4 hn]
    simp only [Option.bind_some, ed, ge_74 p4 hn, i3, t3, if_true]
    rw [rA_c (o4 74 (by omega) (by omega)), hb]
  have pre : ∀ r, (match b with
    | none => some g4
    | some a27 => (q_X7_findWords K g4 n 73 (ni y)).bind fun v30 => (lp_X7_settle_66 K n 73 (some (76 + y)) (92 + y) a27 K 0 v30).bind fun v63 => some v63) = some r → q_X7_settle K h n 73 (ni y) = some r := fun r er => by
    unfold q_X7_settle
    rw [if_neg (ni_pos (by omega)), if_pos y15']
    simp only [g_73_3 c hn, g_73_4 c hn, ge_75 c hn, ge_91 c hn, i15, ty, if_true, y15, Option.bind_some, f1, f2, w3, w4, gq_73 p4 hn, b4]
    exact er
  rcases R with ⟨rfl, -, rfl⟩ | ⟨p, w, B, a, b', rfl, -, hw, hB, bk, hL, ok, -⟩
  · refine ⟨g4, pre g4 rfl, p4, fun a h1 h2 _ => o4 a h1 h2, fun k o v => ?_, fun k l1 l2 => e92 k l1 l2⟩
    have := slotK_lt v
    exact e76 _ (by omega)
  · have h11' : fI g4 73 11 = ni f := (fI_c (o4 73 (by omega) (by omega)) 11).trans h11
    obtain ⟨g5, f5, p5, o5, v5⟩ := z_findWords hK p4 hn j4 hf hy h11'
    have o5' : ∀ a, a ≠ 76 + y → a ≠ 92 + y → a ≠ 142 → g5 a = h a := fun a h1 h2 h3 => (o5 a h3).trans (o4 a h1 h2)
    have z5 : ∃ f, g5 2 = .inl (.int, 0, .inl f) := by rw [o5' 2 (by omega) (by omega) (by omega)]; exact z2
    have B5 := book_c (g := g5) (fun a ha => o5' a (by omega) (by omega) (by omega)) bk
    obtain ⟨g6, f6, p6, o6, q1, q2⟩ := z_seLp hK hn z5 (by omega) ok B5 hy dfl L [] K g5 rfl (by omega) p5 (fun a _ _ => rfl) (fun k o v => by
      have := slotK_lt v
      rw [iA_c (o5 (76 + y) (by omega))]
      exact e76 _ (by omega)) (fun k l1 l2 => by
      rw [iA_c (o5 (92 + y) (by omega))]
      exact e92 k l1 l2)
    have ww : ∀ i, i < 5 → jA g5 142 i = wdS h f y (jA h 107 y) i := fun i hi => by
      rw [v5 i hi, jA_c (o4 107 (by omega) (by omega)), wdS_c (fun a ha => o4 a (by omega) (by omega))]
    refine ⟨g6, pre g6 ?_, p6, fun a h1 h2 h3 => (o6 a h1 h2).trans (o5' a h1 h2 h3), fun k o v => ?_, fun k l1 l2 => ?_⟩
    · have f6' : lp_X7_settle_66 K n 73 (some (76 + y)) (92 + y) p K 0 g5 = some g6 := f6
      simp only [f5, Option.bind_some, f6']
    · rw [q1 k o v, lastS_w ww]
    · rw [q2 k l1 l2]
      unfold numS
      rw [lastS_w ww]
end OPEN

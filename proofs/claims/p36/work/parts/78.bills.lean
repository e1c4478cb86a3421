/-! ===== bills: year by year, tilted ===== -/
section BILLS
variable {K n : Nat} {h : mm_H}
def tlS (h : mm_H) (f : Nat) (Ls : Nat → List Stm) (y : Nat) (a w : Int64) : Int64 := if numS (wwS h f Ls y) (Ls (y / 5)) 7 (-1) = -1 then w else j_max (a * (100 - numS (wwS h f Ls y) (Ls (y / 5)) 7 (-1)).toInt64 / 100) (j_min (a * (100 + numS (wwS h f Ls y) (Ls (y / 5)) 7 (-1)).toInt64 / 100) w)
def blV (h : mm_H) (f : Nat) (Ls : Nat → List Stm) (y i : Nat) (a w : Int64) : Int64 := if i = 0 ∨ 4 ≤ i then w else tlS h f Ls y a w
/-- the bills of a review's first years, and what is carried on -/
def blP (h : mm_H) (F f : Nat) (Ls : Nat → List Stm) (d : Int32) (y0 : Nat) : Nat → Int64 × Int64
  | 0 => (0, 0)
  | i + 1 => (blV h f Ls (y0 + i) i (blP h F f Ls d y0 i).1 (rvS h F f Ls d (y0 + i) 15 + (blP h F f Ls d y0 i).2), rvS h F f Ls d (y0 + i) 15 + (blP h F f Ls d y0 i).2 - blV h f Ls (y0 + i) i (blP h F f Ls d y0 i).1 (rvS h F f Ls d (y0 + i) 15 + (blP h F f Ls d y0 i).2))
theorem z_billsAt (c : PS h) (hn : 159 ≤ n) {y : Nat} (hy : y ≤ 14) : q_X7_billsAt K h n 73 (ni y) = some (jA h 140 y) := by
  have i15 : inb (ni y) 15 = true := ni_inb (by omega) (by omega)
  have ty : (ni y).toNatClampNeg = y := ni_tn (by omega)
  unfold q_X7_billsAt
  rw [if_neg (ni_pos (by omega)), if_neg (fun q => by have := (ni_le (a := 15) (by omega) (by omega)).mp q; omega)]
  simp only [g_73_8 c hn, ge_140 c hn, i15, ty, if_true, Option.bind_some]
theorem z_carriedAt (c : PS h) (hn : 159 ≤ n) {y : Nat} (hy : y ≤ 14) : q_X7_carriedAt K h n 73 (ni y) = some (jA h 141 y) := by
  have i15 : inb (ni y) 15 = true := ni_inb (by omega) (by omega)
  have ty : (ni y).toNatClampNeg = y := ni_tn (by omega)
  unfold q_X7_carriedAt
  rw [if_neg (ni_pos (by omega)), if_neg (fun q => by have := (ni_le (a := 15) (by omega) (by omega)).mp q; omega)]
  simp only [g_73_9 c hn, ge_141 c hn, i15, ty, if_true, Option.bind_some]
/-- bills and what is carried are put down -/
def bwS (g : mm_H) (y : Nat) (b c : Int64) : mm_H := mm_sj (mm_sj g 140 y b) 141 y c
theorem bwS_1 {g : mm_H} (p : PS g) (y : Nat) (b c : Int64) : PS (bwS g y b c) := ps_141 (ps_140 p _ _) _ _
theorem bwS_o {g : mm_H} (y : Nat) (b c : Int64) {a : Nat} (h0 : a ≠ 140) (h1 : a ≠ 141) : bwS g y b c a = g a := by
  unfold bwS
  rw [mm_sj_n h1, mm_sj_n h0]
theorem bwS_cs {g : mm_H} (y : Nat) (b c : Int64) : CS g (bwS g y b c) := ⟨fun a q => bwS_o y b c (by omega) (by omega), fun k _ _ _ _ => fI_c (bwS_o y b c (by omega) (by omega)) k⟩
theorem bwS_b {g : mm_H} (p : PS g) (y : Nat) (b c : Int64) : jA (bwS g y b c) 140 y = b := by
  unfold bwS
  rw [jA_sj_n (by decide), is_140 p, updL_s]
theorem bwS_c {g : mm_H} (p : PS g) (y : Nat) (b c : Int64) : jA (bwS g y b c) 141 y = c := by
  unfold bwS
  rw [is_141 (ps_140 p _ _), updL_s]
theorem z_tilted (hn : 159 ≤ n) {F f Y y : Nat} {d : Int32} {Ls : Nat → List Stm} {g : mm_H} (u : CF n h F f d Ls Y g) (hY : Y ≤ 15) (hy : y + 1 < Y) {a : Int64} (ea : jA g 140 y = a) (w : Int64) : q_X7_tilted K g n 73 (ni (y + 1)) w = some (tlS h f Ls (y + 1) a w) := by
  have n7 := u.num hn hY hy (K := K) (k := 7) (by omega) (by omega)
  have n7' : q_X7_numberAt K g n 73 (ni (y + 1)) 7 = some (numS (wwS h f Ls (y + 1)) (Ls ((y + 1) / 5)) 7 (-1)) := n7
  unfold q_X7_tilted tlS
  simp only [gq_73 u.1 hn, Option.bind_some, n7', ni_sub1, z_billsAt (K := K) u.1 hn (show y ≤ 14 by omega), ea, q_X8_hundredths]
  by_cases q : numS (wwS h f Ls (y + 1)) (Ls ((y + 1) / 5)) 7 (-1) = -1
  · rw [if_pos q, if_pos q]
  · rw [if_neg q, if_neg q]
theorem z_fbLp (hK : 3000 ≤ K) (hn : 159 ≤ n) {F f Y y y0 : Nat} {d : Int32} {Ls : Nat → List Stm} (hY : Y ≤ 15) (hy : y < Y) (h0 : y0 ≤ y) (h4 : y ≤ y0 + 4) : ∀ (m i k : Nat) (g : mm_H), y0 + i + m = y + 1 → m < k → CF n h F f d Ls Y g → (∀ z, y0 ≤ z → z ≤ y → ∀ i, i < 15 → jA g (125 + z) i = lnS h F f Ls d z i) → (0 < i → jA g 140 (y0 + (i - 1)) = (blP h F f Ls d y0 i).1 ∧ jA g 141 (y0 + (i - 1)) = (blP h F f Ls d y0 i).2) → ∃ g', lp_X7_fillBills_18 K n 73 (ni y) (ni y0) k (ni (y0 + i)) g = some g' ∧ CF n h F f d Ls Y g' ∧ CS g g' ∧ jA g' 140 y = (blP h F f Ls d y0 (y - y0 + 1)).1 ∧ jA g' 141 y = (blP h F f Ls d y0 (y - y0 + 1)).2 := by
  intro m
  induction m with
  | zero =>
    intro i k g hi hk u r st
    obtain ⟨k, rfl⟩ : ∃ x, k = x + 1 := ⟨k - 1, by omega⟩
    obtain ⟨s1, s2⟩ := st (by omega)
    rw [show y0 + (i - 1) = y by omega] at s1 s2
    rw [show y - y0 + 1 = i by omega]
    unfold lp_X7_fillBills_18
    rw [if_pos ((ni_lt (by omega) (by omega)).mpr (by omega))]
    exact ⟨g, rfl, u, CS.id_, s1, s2⟩
  | succ m ih =>
    intro i k g hi hk u r st
    obtain ⟨k, rfl⟩ : ∃ x, k = x + 1 := ⟨k - 1, by omega⟩
    have i15 : inb (ni (y0 + i)) 15 = true := ni_inb (by omega) (by omega)
    have ty : (ni (y0 + i)).toNatClampNeg = y0 + i := ni_tn (by omega)
    have al := z_allLines hK u.1 hn (y := y0 + i) (by omega) (r (y0 + i) (by omega) (by omega))
    have eP : blP h F f Ls d y0 (i + 1) = (blV h f Ls (y0 + i) i (blP h F f Ls d y0 i).1 (rvS h F f Ls d (y0 + i) 15 + (blP h F f Ls d y0 i).2), rvS h F f Ls d (y0 + i) 15 + (blP h F f Ls d y0 i).2 - blV h f Ls (y0 + i) i (blP h F f Ls d y0 i).1 (rvS h F f Ls d (y0 + i) 15 + (blP h F f Ls d y0 i).2)) := rfl
    have go : ∀ b c : Int64, (b, c) = blP h F f Ls d y0 (i + 1) → ∃ g', lp_X7_fillBills_18 K n 73 (ni y) (ni y0) k (ni (y0 + i + 1)) (bwS g (y0 + i) b c) = some g' ∧ CF n h F f d Ls Y g' ∧ CS g g' ∧ jA g' 140 y = (blP h F f Ls d y0 (y - y0 + 1)).1 ∧ jA g' 141 y = (blP h F f Ls d y0 (y - y0 + 1)).2 := fun b c e => by
      obtain ⟨g', q1, q2, q3, q4⟩ := ih (i + 1) k (bwS g (y0 + i) b c) (by omega) (by omega) (u.cs hY (bwS_1 u.1 _ _ _) (bwS_cs _ _ _)) (fun z h1 h2 i hi => by rw [jA_c (bwS_o _ b c (show 125 + z ≠ 140 by omega) (by omega))]; exact r z h1 h2 i hi) (fun _ => by
        rw [show y0 + (i + 1 - 1) = y0 + i by omega, bwS_b u.1, bwS_c u.1, ← e]
        exact ⟨rfl, rfl⟩)
      exact ⟨g', q1, q2, (bwS_cs _ _ _).trans q3, q4⟩
    have wr : ∀ b : Int64, stJ g n 140 (ni (y0 + i)) b = some (mm_sj g 140 (y0 + i) b) := fun b => by
      rw [pe_140 u.1 hn, if_pos i15, ty]
    have rd : ∀ b : Int64, ldJ (mm_sj g 140 (y0 + i) b) n 140 (ni (y0 + i)) = some b := fun b => by
      rw [ge_140 (ps_140 u.1 _ _) hn, if_pos i15, ty, is_140 u.1, updL_s]
    have wr2 : ∀ b c : Int64, stJ (mm_sj g 140 (y0 + i) b) n 141 (ni (y0 + i)) c = some (bwS g (y0 + i) b c) := fun b c => by
      rw [pe_141 (ps_140 u.1 _ _) hn, if_pos i15, ty]
      rfl
    have gg8 : ∀ b : Int64, rdR (mm_sj g 140 (y0 + i) b) n 73 7 8 = some (some 140) := fun b => g_73_8 (ps_140 u.1 _ _) hn
    have gg9 : ∀ b : Int64, rdR (mm_sj g 140 (y0 + i) b) n 73 7 9 = some (some 141) := fun b => g_73_9 (ps_140 u.1 _ _) hn
    unfold lp_X7_fillBills_18
    rw [if_neg (fun q => by have := (ni_lt (by omega) (by omega)).mp q; omega), if_neg (fun q => by have := (ni_le (a := 15) (by omega) (by omega)).mp q; omega)]
    simp only [gq_73 u.1 hn, al, Option.bind_some]
    by_cases i0 : i = 0
    · subst i0
      rw [if_pos (show ni (y0 + 0) ≤ ni y0 from Int32.le_refl _), if_pos (show ni (y0 + 0) ≤ ni y0 from Int32.le_refl _)]
      simp only [g_73_8 u.1 hn, Option.bind_some, wr, gg8, gg9, rd, wr2, ni_1]
      refine go _ _ ?_
      rw [eP]
      have e0 : (blP h F f Ls d y0 0).2 = 0 := rfl
      unfold blV
      rw [if_pos (Or.inl rfl), e0, Int64.add_zero]
    · obtain ⟨i', rfl⟩ : ∃ z, i = z + 1 := ⟨i - 1, by omega⟩
      have nl : ¬ ni (y0 + (i' + 1)) ≤ ni y0 := fun q => by have := (ni_le (by omega) (by omega)).mp q; omega
      obtain ⟨s1, s2⟩ := st (by omega)
      rw [show y0 + (i' + 1 - 1) = y0 + i' by omega] at s1 s2
      have em : ni (y0 + (i' + 1)) - 1 = ni (y0 + i') := ni_sub1 (y0 + i')
      have ca := z_carriedAt (K := K) u.1 hn (y := y0 + i') (by omega)
      rw [s2] at ca
      have e5 : ni y0 + 5 - 1 = ni (y0 + 4) := by
        rw [show ni y0 + 5 = ni (y0 + 5) from ni_add y0 5]
        exact ni_sub (b := 1) (by omega)
      rw [if_neg nl]
      simp only [gq_73 u.1 hn, Option.bind_some, em, ca, e5]
      rw [if_neg nl]
      by_cases i4 : 4 ≤ i' + 1
      · rw [if_pos ((ni_le (by omega) (by omega)).mpr (by omega))]
        simp only [g_73_8 u.1 hn, Option.bind_some, wr, gg8, gg9, rd, wr2, ni_1]
        refine go _ _ ?_
        rw [eP]
        unfold blV
        rw [if_pos (Or.inr i4)]
      · rw [if_neg (fun q => by have := (ni_le (by omega) (by omega)).mp q; omega)]
        have tl := z_tilted (K := K) hn u hY (y := y0 + i') (by omega) s1 (rvS h F f Ls d (y0 + (i' + 1)) 15 + (blP h F f Ls d y0 (i' + 1)).2)
        have tl' : q_X7_tilted K g n 73 (ni (y0 + (i' + 1))) (rvS h F f Ls d (y0 + (i' + 1)) 15 + (blP h F f Ls d y0 (i' + 1)).2) = some (tlS h f Ls (y0 + (i' + 1)) (blP h F f Ls d y0 (i' + 1)).1 (rvS h F f Ls d (y0 + (i' + 1)) 15 + (blP h F f Ls d y0 (i' + 1)).2)) := tl
        simp only [g_73_8 u.1 hn, Option.bind_some, gq_73 u.1 hn, tl', wr, gg8, gg9, rd, wr2, ni_1]
        refine go _ _ ?_
        rw [eP]
        unfold blV
        rw [if_neg (by omega)]
theorem y0_eq {y : Nat} (hy : y ≤ 14) : ni y - (ni y - ni y / 5 * 5) = ni (y / 5 * 5) := by
  have e1 : ni y / 5 = ni (y / 5) := by
    show ni y / ni 5 = _
    rw [ni_div (by omega) (by omega)]
  have e2 : ni (y / 5) * 5 = ni (y / 5 * 5) := ni_mul _ 5
  rw [e1, e2, ni_sub (by omega), ni_sub (by omega)]
  congr 1
  omega
theorem CF.bills (hK : 3000 ≤ K) (hn : 159 ≤ n) {F f Y y : Nat} {d : Int32} {Ls : Nat → List Stm} {g : mm_H} (u : CF n h F f d Ls Y g) (hY : Y ≤ 15) (hy : y < Y) : ∃ g', q_X7_fillBills K g n 73 (ni y) = some g' ∧ CF n h F f d Ls Y g' ∧ CS g g' ∧ jA g' 140 y = (blP h F f Ls d (y / 5 * 5) (y - y / 5 * 5 + 1)).1 ∧ jA g' 141 y = (blP h F f Ls d (y / 5 * 5) (y - y / 5 * 5 + 1)).2 := by
  obtain ⟨g1, e1, u1, s1, r1⟩ := u.fill hK hn hY (a := y / 5 * 5) (b := y) (by omega) hy
  obtain ⟨g2, e2, u2, s2, r2⟩ := z_fbLp hK hn (F := F) (f := f) (d := d) (Ls := Ls) (h := h) (y0 := y / 5 * 5) hY hy (by omega) (by omega) (y + 1 - y / 5 * 5) 0 K g1 (by omega) (by omega) u1 r1 (fun q => by omega)
  have e2' : lp_X7_fillBills_18 K n 73 (ni y) (ni (y / 5 * 5)) K (ni (y / 5 * 5)) g1 = some g2 := e2
  refine ⟨g2, ?_, u2, s1.trans s2, r2⟩
  unfold q_X7_fillBills
  rw [gq_73 u.1 hn, y0_eq (by omega), imax_ni (by omega)]
  simp only [Option.bind_some, e1, e2']
end BILLS

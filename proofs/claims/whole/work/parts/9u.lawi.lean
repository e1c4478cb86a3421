/-! ===== the law ===== -/
section LAWI
variable {K n : Nat} {h : mm_H}
theorem lrI {kc ks : Nat} {r : Option (mm_H × Nat × Nat × Nat)} (c : PS h) (j : JR h) (jn : JN h) (jk : JK h n) (e : r = some (h, n, kc, ks)) : LR K h n kc ks r := ⟨h, n, kc, ks, e, Nat.le_refl _, c, j, jn, jk, fun _ _ => rfl, by omega, by omega⟩
theorem lrF {kc ks : Nat} {r : Option (mm_H × Nat × Nat × Nat)} (c : PS h) (e : ∃ g, r = some (g, n, kc, ks) ∧ PS g ∧ JR g ∧ FB h g) (jn : JN h) (jk : JK h n) : LR K h n kc ks r := by
  obtain ⟨g, e, p, j, f⟩ := e
  have e5 : fI g 48 5 = fI h 48 5 := f.2.2.2.2.2.2.2.2.2.2
  have ep : pot g = pot h := by unfold pot; rw [e5]
  exact ⟨g, n, kc, ks, e, Nat.le_refl _, p, j, jn.fb f, jk.fb f, fun a ha => f.1 a (Or.inl ha), by omega, by omega⟩
theorem lrS {kc ks : Nat} {r : Option (mm_H × Nat × Nat × Nat)} (c : PS h) (j : JR h) (jn : JN h) (jk : JK h n) (e : ∃ g, r = some (g, n, kc, ks) ∧ PS g ∧ SW h g) : LR K h n kc ks r := by
  obtain ⟨g, e, p, s⟩ := e
  exact lrF c ⟨g, e, p, SV_JR s.sv j, SW_FB s⟩ jn jk
theorem lr8 {kc ks : Nat} {r : Option (mm_H × Nat × Nat × Nat)} (c : PS h) (j : JR h) (e : ∃ g, r = some (g, n, kc, ks) ∧ PS g ∧ JR g ∧ FB0 h g ∧ ∃ d : Nat, d ≤ 20 ∧ ∀ t : Nat, t ≤ 900 → fI h 48 5 = ni t → fI g 48 5 = ni (t + d)) (jn : JN h) (jk : JK h n) : LR K h n kc ks r := by
  obtain ⟨g, e, p, jg, f, d, hd, e5⟩ := e
  obtain ⟨⟨T0, e0, hT0⟩, -⟩ := id j.2.2.2.2.2.2
  have e1 := e5 T0 hT0 e0
  have ep : pot g ≤ pot h + 12000 := by
    unfold pot
    rw [e1, e0, ni_tn (by omega), ni_tn (by omega)]
    omega
  exact ⟨g, n, kc, ks, e, Nat.le_refl _, p, jg, jn.fb0 f, jk.fb0 f, fun a ha => f.1 a (Or.inl ha), by omega, by omega⟩
theorem lr25 {kc ks : Nat} {r : Option (mm_H × Nat × Nat × Nat)} (e : ∃ g, r = some (g, n, kc, ks) ∧ PS g ∧ JR g ∧ JN g ∧ JK g n ∧ (∀ a, a < 48 → g a = h a) ∧ fI g 48 5 = fI h 48 5) : LR K h n kc ks r := by
  obtain ⟨g, e, p, j, jn, jk, o, e5⟩ := e
  have ep : pot g = pot h := by unfold pot; rw [e5]
  exact ⟨g, n, kc, ks, e, Nat.le_refl _, p, j, jn, jk, o, by omega, by omega⟩
theorem st_all (hK : 7000 ≤ K) {l3 v : Int32} {kc ks : Nat} {x : Nat → Int32} (c : PS h) (hn : 208 ≤ n) (T : TXT h) (pr : PRT h) (j : JR h) (jn : JN h) (jk : JK h n) (sc : SCR (h 0) n l3 x) (hkc : 64 ≤ kc) (hks : 12000 + pot h ≤ ks) : LR K h n kc ks (st_law K h n l3 kc ks v) := by
  have hK3 : 3000 ≤ K := by omega
  unfold st_law
  by_cases q0 : v = 0
  · rw [if_pos q0]
    exact lrF c (S_0 (K := K) c hn j sc) jn jk
  rw [if_neg q0]
  by_cases q1 : v = 1
  · rw [if_pos q1]
    exact lrF c (S_1 (K := K) c hn j sc) jn jk
  rw [if_neg q1]
  by_cases q2 : v = 2
  · rw [if_pos q2]
    exact lrF c (S_2 (K := K) c hn j sc) jn jk
  rw [if_neg q2]
  by_cases q3 : v = 3
  · rw [if_pos q3]
    exact lrF c (S_3 hK3 c hn j sc) jn jk
  rw [if_neg q3]
  by_cases q4 : v = 4
  · rw [if_pos q4]
    exact lrF c (S_4 (K := K) c hn j sc) jn jk
  rw [if_neg q4]
  by_cases q5 : v = 5
  · rw [if_pos q5]
    exact lrF c (S_5 (K := K) c hn j sc) jn jk
  rw [if_neg q5]
  by_cases q6 : v = 6
  · rw [if_pos q6]
    exact lrF c (S_6 (K := K) c hn j sc) jn jk
  rw [if_neg q6]
  by_cases q7 : v = 7
  · rw [if_pos q7]
    exact lrF c (S_7 (K := K) c hn j sc) jn jk
  rw [if_neg q7]
  by_cases q8 : v = 8
  · rw [if_pos q8]
    exact lr8 c j (S_8 hK3 c hn j sc) jn jk
  rw [if_neg q8]
  by_cases q9 : v = 9
  · rw [if_pos q9]
    exact S_9 hK c hn T j jn jk sc hkc hks
  rw [if_neg q9]
  by_cases q10 : v = 10
  · rw [if_pos q10]
    exact S_10 hK c hn T j jn jk sc hkc hks
  rw [if_neg q10]
  by_cases q11 : v = 11
  · rw [if_pos q11]
    exact lrI c j jn jk (S_11 c hn jn)
  rw [if_neg q11]
  by_cases q12 : v = 12
  · rw [if_pos q12]
    exact lrI c j jn jk (S_12 hK3 c hn jn jk sc)
  rw [if_neg q12]
  by_cases q13 : v = 13
  · rw [if_pos q13]
    exact lrS c j jn jk (S_13 hK3 c hn j jn jk sc)
  rw [if_neg q13]
  by_cases q14 : v = 14
  · rw [if_pos q14]
    exact lrS c j jn jk (S_14 hK3 c hn j jn jk sc)
  rw [if_neg q14]
  by_cases q15 : v = 15
  · rw [if_pos q15]
    exact lrF c (S_15 hK3 c hn j sc) jn jk
  rw [if_neg q15]
  by_cases q16 : v = 16
  · rw [if_pos q16]
    exact lrS c j jn jk (S_16 hK3 c hn j jn jk sc)
  rw [if_neg q16]
  by_cases q17 : v = 17
  · rw [if_pos q17]
    exact lrS c j jn jk (S_17 hK3 c hn j jn jk sc)
  rw [if_neg q17]
  by_cases q18 : v = 18
  · rw [if_pos q18]
    exact lrS c j jn jk (S_18 hK3 c hn j jn jk sc)
  rw [if_neg q18]
  by_cases q19 : v = 19
  · rw [if_pos q19]
    exact lrS c j jn jk (S_19 hK3 c hn j jn jk sc)
  rw [if_neg q19]
  by_cases q20 : v = 20
  · rw [if_pos q20]
    exact lrS c j jn jk (S_20 hK3 c hn j jn jk pr sc)
  rw [if_neg q20]
  by_cases q21 : v = 21
  · rw [if_pos q21]
    exact lrF c (S_21 hK3 c hn j jn jk sc) jn jk
  rw [if_neg q21]
  by_cases q22 : v = 22
  · rw [if_pos q22]
    exact lrS c j jn jk (S_22 hK3 c hn j jn jk sc)
  rw [if_neg q22]
  by_cases q23 : v = 23
  · rw [if_pos q23]
    exact lrF c (S_23 hK3 c hn j sc) jn jk
  rw [if_neg q23]
  by_cases q24 : v = 24
  · rw [if_pos q24]
    exact lrF c (S_24 hK3 c hn j sc) jn jk
  rw [if_neg q24]
  by_cases q25 : v = 25
  · rw [if_pos q25]
    exact lr25 (S_25 hK c hn j jn jk)
  rw [if_neg q25]
  by_cases q26 : v = 26
  · rw [if_pos q26]
    exact lrS c j jn jk (S_26 hK3 c hn j jn jk sc)
  rw [if_neg q26]
  by_cases q27 : v = 27
  · rw [if_pos q27]
    exact lrF c (S_27 hK3 c hn j jn jk sc) jn jk
  rw [if_neg q27]
  by_cases q28 : v = 28
  · rw [if_pos q28]
    exact lrF c (S_28 (K := K) c hn j sc) jn jk
  rw [if_neg q28]
  by_cases q29 : v = 29
  · rw [if_pos q29]
    exact lrS c j jn jk (S_29 hK3 c hn j jn jk sc)
  rw [if_neg q29]
  by_cases q30 : v = 30
  · rw [if_pos q30]
    exact lrI c j jn jk (S_30 hK3 c hn j sc)
  rw [if_neg q30]
  by_cases q31 : v = 31
  · rw [if_pos q31]
    exact lrS c j jn jk (S_31 hK3 c hn j jn jk pr sc)
  rw [if_neg q31]
  by_cases q32 : v = 32
  · rw [if_pos q32]
    exact lrI c j jn jk (S_32 hK3 c hn j jn sc)
  rw [if_neg q32]
  exact lrI c j jn jk rfl
theorem byt_tx : ∀ i, i < 15 → mm_len.getD i 0 = (txN i).length ∧ mm_byt.getD i [] = (txN i).map ni := by decide +kernel
theorem out_0 {L : Nat} {xs : Nat → Int32} (o : ∀ a, a < 48 → h a = mm_out0 L xs a) : h 0 = .inl (.int, L, .inl xs) ∧ PRT h ∧ TXT h := by
  refine ⟨o 0 (by omega), ⟨mm_fP, o 1 (by omega), rfl, rfl, rfl⟩, fun i hi => ?_⟩
  obtain ⟨e1, e2⟩ := byt_tx i hi
  rw [o (18 + i) (by omega)]
  unfold mm_out0
  rw [if_neg (by omega), if_neg (by omega), if_neg (by omega), if_pos ⟨by omega, by omega⟩, show 18 + i - 18 = i by omega, e1, e2]
  have e3 : (fun j => ((txN i).map ni).getD j 0) = fun j => ni ((txN i).getD j 0) := by
    funext j
    rw [List.getD_eq_getElem?_getD, List.getD_eq_getElem?_getD, List.getElem?_map]
    cases (txN i)[j]? <;> rfl
  rw [e3]
theorem lp_lawA (hK : 7000 ≤ K) {L : Nat} {xs : Nat → Int32} (hL : L ≤ 3584) : ∀ (m i k : Nat) (h : mm_H) (n kc ks : Nat), i + m = 512 → m < k → PS h → 208 ≤ n → JR h → JN h → JK h n → (∀ a, a < 48 → h a = mm_out0 L xs a) → 64 * m ≤ kc → 12000 * m + pot h ≤ ks → lp_law K k (ni (7 * i)) h n kc ks = some () := by
  intro m
  induction m with
  | zero =>
    intro i k h n kc ks hi hk c hn j jn jk o hkc hks
    obtain ⟨k, rfl⟩ : ∃ y, k = y + 1 := ⟨k - 1, by omega⟩
    obtain ⟨o0, -, -⟩ := out_0 o
    have ln : lenA h n 0 0 = some (ni L) := by
      unfold lenA
      rw [if_neg (by omega), if_pos (by decide), o0]
    unfold lp_law
    rw [ln, Option.bind_some, if_pos]
    by_cases q : 7 ≤ L
    · rw [show ni L - 7 = ni (L - 7) from ni_sub (b := 7) q]
      exact (ni_lt (by omega) (by omega)).mpr (by omega)
    · have h1 : ∀ y, y < 7 → ni y - 7 < (0 : Int32) := by decide
      exact Int32.lt_of_lt_of_le (h1 L (by omega)) ((ni_le (a := 0) (by omega) (by omega)).mpr (Nat.zero_le _))
  | succ m ih =>
    intro i k h n kc ks hi hk c hn j jn jk o hkc hks
    obtain ⟨k, rfl⟩ : ∃ y, k = y + 1 := ⟨k - 1, by omega⟩
    obtain ⟨o0, pr, T⟩ := out_0 o
    have ln : lenA h n 0 0 = some (ni L) := by
      unfold lenA
      rw [if_neg (by omega), if_pos (by decide), o0]
    unfold lp_law
    rw [ln, Option.bind_some]
    by_cases q : 7 * i + 7 ≤ L
    · have rd : ∀ g : mm_H, g 0 = h 0 → ∀ d, d < 7 → ldI g n 0 (ni (7 * i + d)) = some (xs (7 * i + d)) := fun g e d hd => ldI_o (by omega) (e.trans o0) (by omega) (by omega)
      have sc : SCR (h 0) n (ni (7 * i)) (fun d => xs (7 * i + d)) := fun g e => by
        have r := rd g e
        refine ⟨?_, ?_, ?_, ?_, ?_, ?_⟩
        · rw [show ni (7 * i) + 1 = ni (7 * i + 1) from ni_add _ 1]; exact r 1 (by omega)
        · rw [show ni (7 * i) + 2 = ni (7 * i + 2) from ni_add _ 2]; exact r 2 (by omega)
        · rw [show ni (7 * i) + 3 = ni (7 * i + 3) from ni_add _ 3]; exact r 3 (by omega)
        · rw [show ni (7 * i) + 4 = ni (7 * i + 4) from ni_add _ 4]; exact r 4 (by omega)
        · rw [show ni (7 * i) + 5 = ni (7 * i + 5) from ni_add _ 5]; exact r 5 (by omega)
        · rw [show ni (7 * i) + 6 = ni (7 * i + 6) from ni_add _ 6]; exact r 6 (by omega)
      have r0 := rd h rfl 0 (by omega)
      rw [Nat.add_zero] at r0
      rw [show ni L - 7 = ni (L - 7) from ni_sub (b := 7) (by omega), if_neg (fun z => by have := (ni_lt (by omega) (by omega)).mp z; omega), r0, Option.bind_some]
      obtain ⟨g, m', kc', ks', e, hnm, cg, jg, jng, jkg, og, b1, b2⟩ := st_all hK (v := xs (7 * i) &&& 63) c hn T pr j jn jk sc (kc := kc) (ks := ks) (by omega) (by omega)
      rw [e, Option.bind_some, show ni (7 * i) + 7 = ni (7 * (i + 1)) from ni_add _ 7]
      exact ih (i + 1) k g m' kc' ks' (by omega) (by omega) cg (by omega) jg jng jkg (fun a ha => (og a ha).trans (o a ha)) (by omega) (by omega)
    · rw [if_pos]
      by_cases q7 : 7 ≤ L
      · rw [show ni L - 7 = ni (L - 7) from ni_sub (b := 7) q7]
        exact (ni_lt (by omega) (by omega)).mpr (by omega)
      · have h1 : ∀ y, y < 7 → ni y - 7 < (0 : Int32) := by decide
        exact Int32.lt_of_lt_of_le (h1 L (by omega)) ((ni_le (a := 0) (by omega) (by omega)).mpr (Nat.zero_le _))
/-- the law answers yes -/
theorem q_law_all {L : Nat} {xs : Nat → Int32} (hL : L ≤ 3584) : q_law 100000 (mm_out0 L xs) = some () := by
  obtain ⟨h, e, b⟩ := first_heap (K := 100000) (by omega) L xs
  rw [e]
  have p0 : pot h ≤ 17130 := by unfold pot; omega
  exact lp_lawA (K := 100000) (by omega) hL 512 0 100000 h 208 599815 6703324 rfl (by omega) b.PS (Nat.le_refl _) (B0_JR b) (B0_JN b) (B0_JK b 208) b.1 (by omega) (by omega)
end LAWI

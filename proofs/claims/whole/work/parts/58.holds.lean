/-! ===== the calls holds and worth ===== -/
section HOLDS
variable {K n : Nat} {h : mm_H}
/-- all is kept but the cells in which questions are worked out -/
def SW (h g : mm_H) : Prop := (∀ a, a < 73 ∨ (151 ≤ a ∧ a ≤ 158) ∨ (160 ≤ a ∧ a ≤ 199) ∨ a = 207 ∨ 208 ≤ a → g a = h a) ∧ ∀ k, k ≠ 1000 → k ≠ 1001 → k ≠ 65 → k ≠ 66 → fI g 159 k = fI h 159 k
theorem SW.id_ : SW h h := ⟨fun _ _ => rfl, fun _ _ _ _ _ => rfl⟩
theorem SW.trans {g f : mm_H} (a : SW h g) (b : SW g f) : SW h f := ⟨fun x q => (b.1 x q).trans (a.1 x q), fun k p q r s => (b.2 k p q r s).trans (a.2 k p q r s)⟩
theorem SE.sw {g : mm_H} (a : SE h g) : SW h g := ⟨fun x q => a.1 x (by omega), a.2.1⟩
theorem SW_FB {g : mm_H} (s : SW h g) : FB h g :=
  ⟨fun a ha => s.1 a (by omega), fI_c (s.1 48 (by omega)) 7, fR_c (s.1 48 (by omega)) 8, fI_c (s.1 48 (by omega)) 10, s.2 24 (by decide) (by decide) (by decide) (by decide), s.2 25 (by decide) (by decide) (by decide) (by decide), s.2 31 (by decide) (by decide) (by decide) (by decide), s.2 56 (by decide) (by decide) (by decide) (by decide), fI_c (s.1 151 (by omega)) 5, s.2 30 (by decide) (by decide) (by decide) (by decide), fI_c (s.1 48 (by omega)) 5⟩
theorem SW_JR {g : mm_H} (a : SW h g) (j : JR h) : JR g := by
  obtain ⟨uT, uF, uA, uW, uB, uL, uP⟩ := j
  have e : ∀ x, x < 73 ∨ (151 ≤ x ∧ x ≤ 158) ∨ (160 ≤ x ∧ x ≤ 199) ∨ x = 207 → (∀ k, fI g x k = fI h x k) ∧ iA g x = iA h x ∧ jA g x = jA h x := fun x q => ⟨fun k => fI_c (a.1 x (by omega)) k, iA_c (a.1 x (by omega)), jA_c (a.1 x (by omega))⟩
  refine ⟨?_, ?_, ?_, ?_, ?_, ?_, ?_⟩
  · unfold JT
    rw [a.2 0 (by decide) (by decide) (by decide) (by decide), (e 49 (by omega)).1, (e 158 (by omega)).2.1, (e 207 (by omega)).2.1]
    exact uT
  · unfold JF
    rw [a.2 1 (by decide) (by decide) (by decide) (by decide), (e 49 (by omega)).1, (e 50 (by omega)).2.1, (e 162 (by omega)).2.2]
    exact uF
  · unfold JA
    rw [a.2 2 (by decide) (by decide) (by decide) (by decide), (e 51 (by omega)).1, (e 52 (by omega)).2.1, (e 53 (by omega)).2.1, (e 54 (by omega)).2.1, (e 55 (by omega)).2.1, (e 160 (by omega)).2.1, (e 161 (by omega)).2.1, (e 163 (by omega)).2.1, (e 164 (by omega)).2.1]
    exact uA
  · unfold JW
    rw [a.2 8 (by decide) (by decide) (by decide) (by decide), (e 56 (by omega)).1, (e 56 (by omega)).1, (e 57 (by omega)).2.1, (e 58 (by omega)).2.1, (e 59 (by omega)).2.1, (e 60 (by omega)).2.1, (e 165 (by omega)).2.1, (e 166 (by omega)).2.1, (e 167 (by omega)).2.1, (e 168 (by omega)).2.1]
    exact uW
  · unfold JB
    rw [a.2 9 (by decide) (by decide) (by decide) (by decide), (e 61 (by omega)).1, (e 62 (by omega)).2.1, (e 63 (by omega)).2.1, (e 64 (by omega)).2.1, (e 65 (by omega)).2.1, (e 66 (by omega)).2.1, (e 169 (by omega)).2.1, (e 170 (by omega)).2.1, (e 171 (by omega)).2.1, (e 172 (by omega)).2.1, (e 173 (by omega)).2.1]
    exact uB
  · unfold JL
    rw [a.2 10 (by decide) (by decide) (by decide) (by decide), (e 67 (by omega)).1, (e 68 (by omega)).2.1, (e 69 (by omega)).2.1, (e 70 (by omega)).2.1, (e 71 (by omega)).2.1, (e 72 (by omega)).2.1, (e 174 (by omega)).2.1, (e 175 (by omega)).2.1, (e 176 (by omega)).2.1, (e 177 (by omega)).2.1]
    exact uL
  · unfold JP
    rw [a.2 26 (by decide) (by decide) (by decide) (by decide), (e 48 (by omega)).1, (e 155 (by omega)).2.1, (e 198 (by omega)).2.1]
    exact uP
theorem z_standsAt (c : PS h) (hn : 208 ≤ n) {y s : Nat} (hy : y ≤ 14) (hs : s ≤ 16) : q_X7_standsAt K h n 73 (ni y) (ni s) = some (iA h (76 + y) s) := by
  have i15 : inb (ni y) 15 = true := ni_inb (by omega) (by omega)
  have ty : (ni y).toNatClampNeg = y := ni_tn (by omega)
  have y15 : y < 15 := by omega
  have s17 : ni s < 17 := (ni_lt (b := 17) (by omega) (by omega)).mpr (by omega)
  unfold q_X7_standsAt
  rw [if_neg (ni_pos (by omega)), if_neg (fun q => by have := (ni_le (a := 15) (by omega) (by omega)).mp q; omega), if_neg (ni_pos (by omega)), if_pos s17]
  simp only [g_73_3 c hn, ge_75 c hn, i15, ty, if_true, y15, Option.bind_some]
  rw [show 75 + 1 + y = 76 + y by omega, row_ld c (sh_76 y y15) (by omega), if_pos (ni_inb (by omega) (by omega)), ni_tn (by omega)]
  rfl
theorem z_worthAt (c : PS h) (hn : 208 ≤ n) {y : Nat} (hy : y ≤ 14) : q_X7_worthAt K h n 73 (ni y) = some (jA h 107 y) := by
  have i16 : inb (ni y) 16 = true := ni_inb (by omega) (by omega)
  have ty : (ni y).toNatClampNeg = y := ni_tn (by omega)
  unfold q_X7_worthAt
  rw [if_neg (ni_pos (by omega)), if_neg (fun q => by have := (ni_le (a := 15) (by omega) (by omega)).mp q; omega)]
  simp only [g_73_5 c hn, ge_107 c hn, i16, ty, if_true, Option.bind_some]
/-- the class's sheet and the model's arrays for one firm, one behind the other -/
theorem z_both (hK : 3000 ≤ K) (c : PS h) (hn : 208 ≤ n) (j : JR h) (jk : JK h n) (jn : JN h) {f ly : Nat} (hf : f ≤ 10) (hly : ly ≤ 14) (d : Int32) : ∃ (g : mm_H) (Ls : Nat → List Stm), q_X10_openOwn K h n 48 (ni f) (ni ly) d = some g ∧ PS g ∧ SW h g ∧ (∀ a, a < 73 ∨ a = 75 ∨ a = 91 ∨ (108 ≤ a ∧ a ≠ 142) → g a = h a) ∧ CY g h f Ls (ly + 1) ∧ (∀ i, i ≤ ly + 1 → jA g 107 i = wrS h f Ls i) ∧ (∃ w, q_X11_prepares K g n 159 (ni f) = some w ∧ PS w ∧ ME g w ∧ MY w h f Ls 15 ∧ ∀ r, r < 3 → ∃ z, RS w n (rA g 74 r) z (Ls r) ∧ SO K n w r z) := by
  obtain ⟨g, Ls, e1, p1, o1, -, -, cy, w1, R1⟩ := z_openOwn hK c hn j jk jn hf hly d
  have qe : QE h g := ⟨fun a _ _ => o1 a (by omega), fI_c (o1 159 (by omega)) _, fI_c (o1 159 (by omega)) _, fI_c (o1 159 (by omega)) _⟩
  obtain ⟨w, e2, p2, m2, my⟩ := z_prepares hK p1 hn (JR_c (fun a q => o1 a (by omega)) j) hf (Ls := Ls) (fun r hr => by
    obtain ⟨z, r1, s1⟩ := R1 r hr
    exact ⟨_, z, RS_c (fun a q => o1 a (by omega)) r1, s1.qe qe⟩)
  have e73 : ∀ a, a < 73 → g a = h a := fun a ha => o1 a (by omega)
  refine ⟨g, Ls, e1, p1, ⟨fun a q => o1 a (by omega), fun k _ _ _ _ => fI_c (o1 159 (by omega)) k⟩, o1, cy, w1, w, e2, p2, m2, ⟨fun y hy => ?_, fun i hi => by rw [my.2 i hi, wrS_c e73]⟩, fun r hr => ?_⟩
  · have := my.1 y hy
    rw [hmS_c (kn_c (fun a _ _ => e73 a (by omega))), ltS_c (fun a _ _ => e73 a (by omega)), fI_c (e73 56 (by omega)) 4] at this
    exact this
  · obtain ⟨z, r1, s1⟩ := R1 r hr
    exact ⟨z, RS_c (fun a q => by rw [m2 a (by omega)]; exact o1 a (by omega)) r1, (s1.qe qe).me m2⟩
theorem ME.se {g : mm_H} (m : ME h g) : SW h g := ⟨fun a q => m a (by omega), fun k _ _ _ _ => fI_c (m 159 (by omega)) k⟩
theorem S_16 (hK : 3000 ≤ K) {l3 : Int32} {kc ks : Nat} {x : Nat → Int32} (c : PS h) (hn : 208 ≤ n) (j : JR h) (jn : JN h) (jk : JK h n) (sc : SCR (h 0) n l3 x) : ∃ g, st_law_16 K h n l3 kc ks = some (g, n, kc, ks) ∧ PS g ∧ SW h g := by
  obtain ⟨s1, s2, -⟩ := sc h rfl
  have uF := j.2.1
  have n10 : ¬ (1 : Int32) = 0 := by decide
  have fin : ∀ (v : Int64) (g w : mm_H), q_X10_worth K h n 48 (x 1) (x 2) = some (v, g) → PS g → SW h g → q_X11_worth K g n 159 (x 1) (x 2) = some (v, w) → PS w → SW h w → ∃ g, st_law_16 K h n l3 kc ks = some (g, n, kc, ks) ∧ PS g ∧ SW h g := by
    intro v g w k1 p1 e1 k2 p2 e2
    obtain ⟨t1, t2, -⟩ := sc g (e1.1 0 (by omega))
    refine ⟨w, ?_, p2, e2⟩
    unfold st_law_16
    simp only [s1, s2, gq_48 c hn, Option.bind_some, k1, t1, t2, gq_159 p1 hn, k2, lg_cmp_eq, if_true]
  by_cases a1 : mm_in (x 1) 0 (fI h 49 5 - 1) = 0
  · refine fin (-2000000000000) h h ?_ c SW.id_ ?_ c SW.id_
    · unfold q_X10_worth q_X10_isFirmsYear
      simp only [gq_48 c hn, y_X10_isFirm c hn uF, Option.bind_some, a1, if_true]
    · unfold q_X11_worth
      simp only [gq_159 c hn, y_X11_isFirm c hn uF, Option.bind_some, a1, if_true]
  by_cases a2 : mm_in (x 2) 0 14 = 0
  · refine fin (-2000000000000) h h ?_ c SW.id_ ?_ c SW.id_
    · unfold q_X10_worth q_X10_isFirmsYear
      simp only [gq_48 c hn, y_X10_isFirm c hn uF, Option.bind_some, a1, if_false, z_X10_isWithin, a2, if_true]
    · unfold q_X11_worth
      simp only [gq_159 c hn, y_X11_isFirm c hn uF, Option.bind_some, a1, if_false, z_X11_isYear, a2, if_true]
  obtain ⟨fm, hfm, hfm10, -, -⟩ := in_firm uF a1
  obtain ⟨y, hy, ey⟩ := mm_in_nat (N := 14) (by omega) a2
  obtain ⟨g, Ls, e1, p1, se1, o1, cy, w1, w, e2, p2, m2, my, -⟩ := z_both hK c hn j jk jn hfm10 hy (fI h 49 6)
  have i16 : inb (ni y) 16 = true := ni_inb (by omega) (by omega)
  have ty : (ni y).toNatClampNeg = y := ni_tn (by omega)
  have uFg : JF g := (SW_JR se1 j).2.1
  have f49 : fI g 49 5 = fI h 49 5 := fI_c (o1 49 (by omega)) 5
  have a1' : ¬ mm_in (ni fm) 0 (fI h 49 5 - 1) = 0 := by rw [← hfm]; exact a1
  have a2' : ¬ mm_in (ni y) 0 14 = 0 := by rw [← ey]; exact a2
  refine fin (wrS h fm Ls y) g w ?_ p1 se1 ?_ p2 (se1.trans m2.se)
  · unfold q_X10_worth q_X10_isFirmsYear
    rw [hfm, ey]
    simp only [gq_48 c hn, y_X10_isFirm c hn uF, Option.bind_some, a1', a2', if_false, z_X10_isWithin, n10, g_48_0 c hn, g_49_6 c hn, e1, g_48_1 p1 hn, gq_73 p1 hn, z_worthAt p1 hn hy, w1 y (by omega)]
  · unfold q_X11_worth
    rw [hfm, ey]
    simp only [gq_159 p1 hn, y_X11_isFirm p1 hn uFg, f49, Option.bind_some, a1', a2', if_false, z_X11_isYear, e2, g_159_58 p2 hn, ge_200 p2 hn, i16, ty, if_true, my.2 y (by omega)]
/-- the kinds, alike on both sides -/
theorem z_kinds {a b : Int32} (ha : ¬ mm_in a 0 8 = 0) : ∃ k v, k ≤ 8 ∧ a = ni k ∧ q_X10_isOfKind K h n a b = some v ∧ q_X11_isKind K h n a b = some v ∧ (v = 0 ∨ (v ≠ 0 ∧ ∃ o, o ≤ 3 ∧ vKO k o ∧ (k ≤ 2 → b = ni o) ∧ (3 ≤ k → o = 0))) := by
  obtain ⟨k, hk, rfl⟩ := mm_in_nat (N := 8) (by omega) ha
  have e0 : (ni k = 0) = (k = 0) := propext (ni_inj (b := 0) (by omega) (by omega))
  have e1 : (ni k = 1) = (k = 1) := propext (ni_inj (b := 1) (by omega) (by omega))
  have e2 : (ni k = 2) = (k = 2) := propext (ni_inj (b := 2) (by omega) (by omega))
  have l2 : ((2 : Int32) ≤ ni k) = (2 ≤ k) := propext (ni_le (a := 2) (by omega) (by omega))
  have z01 : ∀ x lo hi, ckz (mm_in x lo hi) = some () := fun x lo hi => by
    rcases mm_in_01 x lo hi with e | e
    · rw [e]; rfl
    · rw [e]; rfl
  unfold q_X10_isOfKind q_X11_isKind
  simp only [e0, e1, e2, l2, z_X10_isHead, z_X11_isHead, z_X10_isWithin, z_X11_isIn, Option.bind_some, z01]
  by_cases k0 : k = 0
  · refine ⟨k, mm_in b 0 3, hk, rfl, by rw [if_pos k0], by rw [if_neg (by omega)], ?_⟩
    by_cases hb : mm_in b 0 3 = 0
    · exact Or.inl hb
    · obtain ⟨o, ho, eo⟩ := mm_in_nat (N := 3) (by omega) hb
      exact Or.inr ⟨hb, o, ho, Or.inl ⟨by omega, ho⟩, fun _ => eo, fun q => by omega⟩
  by_cases k1 : k = 1
  · refine ⟨k, mm_in b 0 3, hk, rfl, by rw [if_neg k0, if_pos k1], by rw [if_neg (by omega)], ?_⟩
    by_cases hb : mm_in b 0 3 = 0
    · exact Or.inl hb
    · obtain ⟨o, ho, eo⟩ := mm_in_nat (N := 3) (by omega) hb
      exact Or.inr ⟨hb, o, ho, Or.inl ⟨by omega, ho⟩, fun _ => eo, fun q => by omega⟩
  by_cases k2 : k = 2
  · refine ⟨k, mm_in b 0 2, hk, rfl, ?_, by rw [if_pos (by omega), if_pos k2], ?_⟩
    · rw [if_neg k0, if_neg k1, if_pos k2]
      rcases mm_in_01 b 0 2 with e | e
      · rw [e]; rfl
      · rw [e]; rfl
    by_cases hb : mm_in b 0 2 = 0
    · exact Or.inl hb
    · obtain ⟨o, ho, eo⟩ := mm_in_nat (N := 2) (by omega) hb
      exact Or.inr ⟨hb, o, by omega, Or.inr (Or.inl ⟨k2, ho⟩), fun _ => eo, fun q => by omega⟩
  · exact ⟨k, 1, hk, rfl, by rw [if_neg k0, if_neg k1, if_neg k2], by rw [if_pos (by omega), if_neg k2], Or.inr ⟨by decide, 0, by omega, Or.inr (Or.inr ⟨by omega, hk, rfl⟩), fun q => by omega, fun _ => rfl⟩⟩
theorem S_13 (hK : 3000 ≤ K) {l3 : Int32} {kc ks : Nat} {x : Nat → Int32} (c : PS h) (hn : 208 ≤ n) (j : JR h) (jn : JN h) (jk : JK h n) (sc : SCR (h 0) n l3 x) : ∃ g, st_law_13 K h n l3 kc ks = some (g, n, kc, ks) ∧ PS g ∧ SW h g := by
  obtain ⟨s1, s2, s3, s4, -⟩ := sc h rfl
  have uF := j.2.1
  have n10 : ¬ (1 : Int32) = 0 := by decide
  have fin : ∀ (v : Int32) (g w : mm_H), q_X10_holds K h n 48 (x 1) (x 2) (x 3) (x 4) = some (v, g) → PS g → SW h g → q_X11_holds_ K g n 159 (x 1) (x 2) (x 3) (x 4) = some (v, w) → PS w → SW h w → ∃ g, st_law_13 K h n l3 kc ks = some (g, n, kc, ks) ∧ PS g ∧ SW h g := by
    intro v g w k1 p1 e1 k2 p2 e2
    obtain ⟨t1, t2, t3, t4, -⟩ := sc g (e1.1 0 (by omega))
    refine ⟨w, ?_, p2, e2⟩
    unfold st_law_13
    simp only [s1, s2, s3, s4, gq_48 c hn, Option.bind_some, k1, t1, t2, t3, t4, gq_159 p1 hn, k2, if_true]
  by_cases a1 : mm_in (x 1) 0 (fI h 49 5 - 1) = 0
  · refine fin (-1) h h ?_ c SW.id_ ?_ c SW.id_
    · unfold q_X10_holds q_X10_isFirmsYear
      simp only [gq_48 c hn, y_X10_isFirm c hn uF, Option.bind_some, a1, if_true]
    · unfold q_X11_holds_
      simp only [gq_159 c hn, y_X11_isFirm c hn uF, Option.bind_some, a1, if_true]
  by_cases a2 : mm_in (x 2) 0 14 = 0
  · refine fin (-1) h h ?_ c SW.id_ ?_ c SW.id_
    · unfold q_X10_holds q_X10_isFirmsYear
      simp only [gq_48 c hn, y_X10_isFirm c hn uF, Option.bind_some, a1, if_false, z_X10_isWithin, a2, if_true]
    · unfold q_X11_holds_
      simp only [gq_159 c hn, y_X11_isFirm c hn uF, Option.bind_some, a1, if_false, z_X11_isYear, a2, if_true]
  by_cases a3 : mm_in (x 3) 0 8 = 0
  · refine fin (-1) h h ?_ c SW.id_ ?_ c SW.id_
    · unfold q_X10_holds q_X10_isFirmsYear
      simp only [gq_48 c hn, y_X10_isFirm c hn uF, Option.bind_some, a1, if_false, z_X10_isWithin, a2, n10, a3, if_true]
    · unfold q_X11_holds_
      simp only [gq_159 c hn, y_X11_isFirm c hn uF, Option.bind_some, a1, if_false, z_X11_isYear, a2, z_X11_isIn, a3, if_true]
  obtain ⟨fm, hfm, hfm10, -, -⟩ := in_firm uF a1
  obtain ⟨y, hy, ey⟩ := mm_in_nat (N := 14) (by omega) a2
  obtain ⟨k, v0, hk, ek, q1, -, -⟩ := z_kinds (K := K) (n := n) (h := h) (b := x 4) a3
  have a1' : ¬ mm_in (ni fm) 0 (fI h 49 5 - 1) = 0 := by rw [← hfm]; exact a1
  have a2' : ¬ mm_in (ni y) 0 14 = 0 := by rw [← ey]; exact a2
  have a3' : ¬ mm_in (ni k) 0 8 = 0 := by rw [← ek]; exact a3
  obtain ⟨g, Ls, e1, p1, se1, o1, cy, w1, w, e2, p2, m2, my, Rw⟩ := z_both hK c hn j jk jn hfm10 hy (fI h 49 6)
  have uFg : JF g := (SW_JR se1 j).2.1
  have f49 : fI g 49 5 = fI h 49 5 := fI_c (o1 49 (by omega)) 5
  rw [ek] at q1
  obtain ⟨k2, v, hk2, ek2, r1, r2, r3⟩ := z_kinds (K := K) (n := n) (h := h) (b := x 4) a3'
  obtain rfl : k2 = k := ((ni_inj (by omega) (by omega)).mp ek2).symm
  have r2g : q_X11_isKind K g n (ni k2) (x 4) = some v := r2
  rcases r3 with v0' | ⟨vn, o, ho, vo, o2, o3⟩
  · refine fin (-1) h h ?_ c SW.id_ ?_ c SW.id_
    · unfold q_X10_holds q_X10_isFirmsYear
      rw [hfm, ey, ek]
      simp only [gq_48 c hn, y_X10_isFirm c hn uF, Option.bind_some, a1', if_false, z_X10_isWithin, a2', n10, a3', r1, v0', if_true]
    · unfold q_X11_holds_
      rw [hfm, ey, ek]
      simp only [gq_159 c hn, y_X11_isFirm c hn uF, Option.bind_some, a1', if_false, z_X11_isYear, a2', z_X11_isIn, a3', r2, v0', if_true]
  obtain ⟨z, Rz, sz⟩ := Rw (y / 5) (by omega)
  have ko : 3 ≤ k2 → o = 0 := o3
  obtain ⟨w', e3, p3, o3'⟩ := z_statement hK p2 hn (f := fm) hy hk ho sz Rz (my.w (by omega))
  have m3 : SW g w' := m2.se.trans ⟨fun a q => o3' a (by omega), fun k _ _ _ _ => fI_c (o3' 159 (by decide)) k⟩
  have slot : q_X5_slotOf K g n (ni k2) (x 4) = some (ni (slotK k2 o)) := by
    have e0 : (ni k2 = 0) = (k2 = 0) := propext (ni_inj (b := 0) (by omega) (by omega))
    have e1 : (ni k2 = 1) = (k2 = 1) := propext (ni_inj (b := 1) (by omega) (by omega))
    have e2 : (ni k2 = 2) = (k2 = 2) := propext (ni_inj (b := 2) (by omega) (by omega))
    unfold q_X5_slotOf slotK
    simp only [e0, e1, e2]
    by_cases k0 : k2 = 0
    · rw [if_pos k0, if_pos k0, o2 (by omega)]
    rw [if_neg k0, if_neg k0]
    by_cases k1 : k2 = 1
    · rw [if_pos k1, if_pos k1, o2 (by omega)]
      show some (ni 4 + ni o) = _
      rw [ni_add]
    rw [if_neg k1, if_neg k1]
    by_cases k2' : k2 = 2
    · rw [if_pos k2', if_pos k2', o2 (by omega)]
      show some (ni 8 + ni o) = _
      rw [ni_add]
    rw [if_neg k2', if_neg k2']
    show some (ni 11 + ni k2 - ni 3) = _
    rw [ni_add, ni_sub (by omega)]
  have sl := slotK_lt vo
  refine fin (oI (lastS (wwS h fm Ls y) k2 o (Ls (y / 5)) 0 none)) g w' ?_ p1 se1 ?_ p3 (se1.trans m3)
  · unfold q_X10_holds q_X10_isFirmsYear
    rw [hfm, ey, ek]
    simp only [gq_48 c hn, y_X10_isFirm c hn uF, Option.bind_some, a1', a2', a3', if_false, z_X10_isWithin, n10, r1, vn, g_48_0 c hn, g_49_6 c hn, e1, g_48_1 p1 hn, slot, gq_73 p1 hn, z_standsAt p1 hn hy sl, (cy y (by omega)).1 k2 o vo]
  · have last : (if bI z.toNatClampNeg (lastS (wwS h fm Ls y) k2 o (Ls (y / 5)) 0 none) = -1 then some ((-1 : Int32), w') else some (bI z.toNatClampNeg (lastS (wwS h fm Ls y) k2 o (Ls (y / 5)) 0 none) - bI z.toNatClampNeg (lastS (wwS h fm Ls y) k2 o (Ls (y / 5)) 0 none) / 300 * 300, w')) = some (oI (lastS (wwS h fm Ls y) k2 o (Ls (y / 5)) 0 none), w') := by
      cases q : lastS (wwS h fm Ls y) k2 o (Ls (y / 5)) 0 none with
      | none => rw [if_pos (show bI z.toNatClampNeg none = -1 from rfl)]; rfl
      | some i =>
        have hi := lastS_lt _ k2 o (Ls (y / 5)) 0 none (fun j ej => by cases ej) i q
        rcases Rz with ⟨-, -, e⟩ | ⟨p', w0, B, a, b', -, rfl, hw0, hB, bk, hL, -⟩
        · rw [e, List.length_nil] at hi; omega
        · rw [ni_tn (by omega)]
          show (if ni (300 * w0 + i) = -1 then _ else some (ni (300 * w0 + i) - ni (300 * w0 + i) / ni 300 * ni 300, w')) = some (ni i, w')
          rw [if_neg (ni_n1 (by omega)), ni_div (by omega) (by omega), show (300 * w0 + i) / 300 = w0 by omega, ni_mul, ni_sub (by omega), show 300 * w0 + i - w0 * 300 = i by omega]
    unfold q_X11_holds_
    rw [hfm, ey, ek]
    simp only [gq_159 p1 hn, y_X11_isFirm p1 hn uFg, f49, Option.bind_some, a1', a2', a3', if_false, z_X11_isYear, z_X11_isIn, r2g, vn, e2, gq_159 p2 hn]
    by_cases l2 : (ni k2 : Int32) ≤ 2
    · have := (ni_le (b := 2) (by omega) (by omega)).mp l2
      rw [if_pos l2, o2 this, e3]
      exact last
    · have l3 : ¬ k2 ≤ 2 := fun q => l2 ((ni_le (b := 2) (by omega) (by omega)).mpr q)
      have e3' : q_X11_statement K w n 159 (ni fm) (ni y) (ni k2) 0 = some (bI z.toNatClampNeg (lastS (wwS h fm Ls y) k2 o (Ls (y / 5)) 0 none), w') := by
        rw [ko (by omega)] at e3 ⊢
        exact e3
      rw [if_neg l2, e3']
      exact last
end HOLDS

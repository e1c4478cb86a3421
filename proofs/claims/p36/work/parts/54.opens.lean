/-! ===== all years of a sheet ===== -/
section OPENS
variable {K n : Nat} {h : mm_H}
theorem chainN_c {g : mm_H} (e : iA g 193 = iA h 193) : ∀ (t : List Nat) (x : Int32), chainN g x t = chainN h x t
  | [], _ => rfl
  | y :: t, x => by
    unfold chainN
    rw [chainN_c e t, e]
theorem nodeR_c {g : mm_H} (e : ∀ a, 191 ≤ a → a ≤ 196 → g a = h a) (lo hi : Nat) : ∀ (k q : Nat) (L : List Int32), nodeR g lo hi k q L = nodeR h lo hi k q L
  | 0, _, _ => rfl
  | k + 1, q, L => by
    unfold nodeR
    simp only [iA_c (e 191 (by omega) (by omega)), iA_c (e 192 (by omega) (by omega)), iA_c (e 194 (by omega) (by omega)), iA_c (e 195 (by omega) (by omega)), iA_c (e 196 (by omega) (by omega)), chainN_c (iA_c (e 193 (by omega) (by omega))), nodeR_c e lo hi k]
theorem bookC_c {g : mm_H} {p a b : Nat} {L : List Stm} (e : ∀ x, 159 ≤ x → g x = h x) (B : bookC h n p L a b) : bookC g n p L a b := by
  obtain ⟨b1, b2, q, f, b3, b4, b5, b6, b7⟩ := B
  refine ⟨b1, b2, q, f, (e p (by omega)).trans b3, b4, b5, (e q (by omega)).trans b6, fun i s hs => ?_⟩
  obtain ⟨r, r1, r2, r3, u, r4, r5⟩ := b7 i s hs
  refine ⟨r, r1, r2, r3, u, (e r (by omega)).trans r4, ?_⟩
  rcases r5 with r5 | ⟨k0, k1, k2, k3, k4⟩
  · exact Or.inl r5
  · exact Or.inr ⟨k0, k1, k2, k3, (e u (by omega)).trans k4.1, k4.2⟩
theorem RS_c {g : mm_H} {b : Option Nat} {z : Int32} {L : List Stm} (e : ∀ a, a < 48 ∨ (178 ≤ a ∧ a ≤ 196) ∨ 159 ≤ a → g a = h a) (R : RS h n b z L) : RS g n b z L := by
  rcases R with ⟨r1, r2, r3⟩ | ⟨p, w, B, a, b', r1, r2, r3, r4, r5, r6⟩
  · exact Or.inl ⟨r1, r2, r3⟩
  · exact Or.inr ⟨p, w, B, a, b', r1, r2, r3, r4, bookC_c (fun x hx => e x (by omega)) r5, r6⟩
/-- a firm's worth as a year begins -/
def wrS (h : mm_H) (f : Nat) (Ls : Nat → List Stm) : Nat → Int64
  | 0 => (iA h 50 f).toInt64
  | y + 1 => wrS h f Ls y * (numS (wdS h f y (wrS h f Ls y)) (Ls (y / 5)) 4 100).toInt64 / 100 - wrS h f Ls y * (numS (wdS h f y (wrS h f Ls y)) (Ls (y / 5)) 5 0).toInt64 / 100 + cdS h f y (fI h 56 4).toNatClampNeg
def wwS (h : mm_H) (f : Nat) (Ls : Nat → List Stm) (y : Nat) : Nat → Int64 := wdS h f y (wrS h f Ls y)
/-- what stands in a sheet for its first years -/
def CY (g h : mm_H) (f : Nat) (Ls : Nat → List Stm) (Y : Nat) : Prop := ∀ y, y < Y → (∀ k o, vKO k o → iA g (76 + y) (slotK k o) = oI (lastS (wwS h f Ls y) k o (Ls (y / 5)) 0 none)) ∧ ∀ k, 3 ≤ k → k ≤ 8 → iA g (92 + y) k = numS (wwS h f Ls y) (Ls (y / 5)) k (dfl k)
/-- what opening a sheet keeps -/
def OE (h g : mm_H) : Prop := ∀ a, a < 73 ∨ a = 74 ∨ a = 75 ∨ a = 91 ∨ (108 ≤ a ∧ a ≠ 142) → g a = h a
theorem z_numberAt (c : PS h) (hn : 159 ≤ n) {y k : Nat} (hy : y ≤ 14) (l1 : 3 ≤ k) (l2 : k ≤ 8) : q_X7_numberAt K h n 73 (ni y) (ni k) = some (iA h (92 + y) k) := by
  have i15 : inb (ni y) 15 = true := ni_inb (by omega) (by omega)
  have ty : (ni y).toNatClampNeg = y := ni_tn (by omega)
  have y15 : y < 15 := by omega
  unfold q_X7_numberAt
  rw [if_neg (ni_pos (by omega)), if_neg (fun q => by have := (ni_le (a := 15) (by omega) (by omega)).mp q; omega), if_neg (fun q => by have := (ni_lt (b := 3) (by omega) (by omega)).mp q; omega), if_neg (fun q => by have := (ni_le (a := 9) (by omega) (by omega)).mp q; omega)]
  simp only [g_73_4 c hn, ge_91 c hn, i15, ty, if_true, y15, Option.bind_some]
  rw [show 91 + 1 + y = 92 + y by omega, row_ld c (sh_92 y y15) (by omega), if_pos (ni_inb (by omega) (by omega)), ni_tn (by omega)]
  rfl
theorem z_openLp (hK : 3000 ≤ K) (hn : 159 ≤ n) (j : JR h) (z2 : ∃ f, h 2 = .inl (.int, 0, .inl f)) {f ly : Nat} (hf : f ≤ 10) (hly : ly ≤ 14) {Ls : Nat → List Stm} (R : ∀ r, r < 3 → ∃ z, RS h n (rA h 74 r) z (Ls r)) {d : Int32} : ∀ (m y k : Nat) (g : mm_H), y + m = ly + 1 → m < k → PS g → OE h g → fI g 73 11 = ni f → fI g 73 12 = d → CY g h f Ls y → (∀ i, i ≤ y → jA g 107 i = wrS h f Ls i) → ∃ g', lp_X7_open_31 K n 73 (ni ly) k (ni y) g = some g' ∧ PS g' ∧ OE h g' ∧ fI g' 73 11 = ni f ∧ fI g' 73 12 = d ∧ CY g' h f Ls (ly + 1) ∧ ∀ i, i ≤ ly + 1 → jA g' 107 i = wrS h f Ls i := by
  intro m
  induction m with
  | zero =>
    intro y k g hy hk p o e1 e2 cy w
    obtain ⟨k, rfl⟩ : ∃ x, k = x + 1 := ⟨k - 1, by omega⟩
    have : y = ly + 1 := by omega
    subst this
    unfold lp_X7_open_31
    rw [if_pos ((ni_lt (by omega) (by omega)).mpr (by omega))]
    exact ⟨g, rfl, p, o, e1, e2, cy, w⟩
  | succ m ih =>
    intro y k g hy hk p o e1 e2 cy w
    obtain ⟨k, rfl⟩ : ∃ x, k = x + 1 := ⟨k - 1, by omega⟩
    have y14 : y ≤ 14 := by omega
    have jg : JR g := JR_c (fun a q => o a (by omega)) j
    obtain ⟨z, Rz⟩ := R (y / 5) (by omega)
    have Rg : RS g n (rA h 74 (y / 5)) z (Ls (y / 5)) := RS_c (fun a q => o a (by omega)) Rz
    have zg : ∃ f, g 2 = .inl (.int, 0, .inl f) := by rw [o 2 (by omega)]; exact z2
    obtain ⟨g1, s1, p1, o1, q1, q2⟩ := z_settle hK p hn jg zg hf y14 e1 (by rw [rA_c (o 74 (by omega))]) Rg
    have wy : jA g 107 y = wrS h f Ls y := w y (Nat.le_refl _)
    have ww : wdS g f y (jA g 107 y) = wwS h f Ls y := by
      rw [wy, wdS_c (fun a ha => o a (by omega))]
      rfl
    rw [ww] at q1 q2
    have n4 : q_X7_numberAt K g1 n 73 (ni y) 4 = some (numS (wwS h f Ls y) (Ls (y / 5)) 4 100) := by
      rw [show (4 : Int32) = ni 4 from rfl, z_numberAt p1 hn y14 (by omega) (by omega), q2 4 (by omega) (by omega)]
      rfl
    have n5 : q_X7_numberAt K g1 n 73 (ni y) 5 = some (numS (wwS h f Ls y) (Ls (y / 5)) 5 0) := by
      rw [show (5 : Int32) = ni 5 from rfl, z_numberAt p1 hn y14 (by omega) (by omega), q2 5 (by omega) (by omega)]
      rfl
    have e107 : jA g1 107 y = wrS h f Ls y := by rw [jA_c (o1 107 (by omega) (by omega) (by omega)), wy]
    have e11 : fI g1 73 11 = ni f := (fI_c (o1 73 (by omega) (by omega) (by omega)) 11).trans e1
    have e12 : fI g1 73 12 = d := (fI_c (o1 73 (by omega) (by omega) (by omega)) 12).trans e2
    obtain ⟨u1, u2, u3, u4, mm, um, um40, -⟩ := id j.2.2.2.1
    have o1h : ∀ a, a < 73 → g1 a = h a := fun a ha => (o1 a (by omega) (by omega) (by omega)).trans (o a (by omega))
    have cd : q_X9_coinsDone K g1 n 56 (ni f) (ni y) = some (cdS h f y (fI h 56 4).toNatClampNeg) := by
      rw [z_coinsDone hK p1 hn ((fI_c (o1h 56 (by omega)) 4).trans um) um40, cdS_c (fun a _ _ => o1h a (by omega)), um, ni_tn (by omega)]
    have i16 : inb (ni y) 16 = true := ni_inb (by omega) (by omega)
    have i16' : inb (ni (y + 1)) 16 = true := ni_inb (by omega) (by omega)
    have ty : (ni y).toNatClampNeg = y := ni_tn (by omega)
    have ty' : (ni (y + 1)).toNatClampNeg = y + 1 := ni_tn (by omega)
    have ring : wrS h f Ls y * (numS (wwS h f Ls y) (Ls (y / 5)) 4 100).toInt64 / 100 + cdS h f y (fI h 56 4).toNatClampNeg - wrS h f Ls y * (numS (wwS h f Ls y) (Ls (y / 5)) 5 0).toInt64 / 100 = wrS h f Ls (y + 1) := by
      show _ = wrS h f Ls y * (numS (wwS h f Ls y) (Ls (y / 5)) 4 100).toInt64 / 100 - wrS h f Ls y * (numS (wwS h f Ls y) (Ls (y / 5)) 5 0).toInt64 / 100 + cdS h f y (fI h 56 4).toNatClampNeg
      rw [Int64.sub_eq_add_neg, Int64.sub_eq_add_neg, Int64.add_assoc, Int64.add_assoc, Int64.add_comm (cdS h f y _)]
    unfold lp_X7_open_31
    rw [if_neg (fun q => by have := (ni_lt (by omega) (by omega)).mp q; omega), if_neg (fun q => by have := (ni_le (a := 15) (by omega) (by omega)).mp q; omega)]
    simp only [gq_73 p hn, Option.bind_some, s1, g_73_5 p1 hn, ge_107 p1 hn, i16, i16', ty, ty', if_true, gq_73 p1 hn, n4, n5, q_X8_hundredths, e107, g_73_0 p1 hn, g_49_2 p1 hn, g_73_11 p1 hn, e11, gq_56 p1 hn, cd, ni_1, pe_107 p1 hn, ring]
    have p2 : PS (mm_sj g1 107 (y + 1) (wrS h f Ls (y + 1))) := ps_107 p1 _ _
    refine ih (y + 1) k _ (by omega) (by omega) p2 (fun a ha => ?_) (by simp only [fI_sf_n, fJ_sf_n, fR_sf_n, fI_sf_o, fJ_sf_o, fR_sf_o, iA_sf, jA_sf, rA_sf, fI_si, fJ_si, fR_si, iA_si_n, jA_si, rA_si, fI_sj, fJ_sj, fR_sj, iA_sj, jA_sj_n, rA_sj, fI_sr, fJ_sr, fR_sr, iA_sr, jA_sr, rA_sr_n, ne_eq, not_false_eq_true, Nat.reduceEqDiff, Nat.zero_ne_one, Nat.one_ne_zero]; exact e11) (by simp only [fI_sf_n, fJ_sf_n, fR_sf_n, fI_sf_o, fJ_sf_o, fR_sf_o, iA_sf, jA_sf, rA_sf, fI_si, fJ_si, fR_si, iA_si_n, jA_si, rA_si, fI_sj, fJ_sj, fR_sj, iA_sj, jA_sj_n, rA_sj, fI_sr, fJ_sr, fR_sr, iA_sr, jA_sr, rA_sr_n, ne_eq, not_false_eq_true, Nat.reduceEqDiff, Nat.zero_ne_one, Nat.one_ne_zero]; exact e12) (fun y' hy' => ?_) (fun i hi => ?_)
    · rw [mm_sj_n (by omega), o1 a (by omega) (by omega) (by omega)]
      exact o a ha
    · by_cases hyy : y' = y
      · subst hyy
        exact ⟨fun k o v => by rw [iA_sj]; exact q1 k o v, fun k l1 l2 => by rw [iA_sj]; exact q2 k l1 l2⟩
      · have c' := cy y' (by omega)
        exact ⟨fun k o v => by rw [iA_sj, iA_c (o1 (76 + y') (by omega) (by omega) (by omega))]; exact c'.1 k o v, fun k l1 l2 => by rw [iA_sj, iA_c (o1 (92 + y') (by omega) (by omega) (by omega))]; exact c'.2 k l1 l2⟩
    · rw [is_107 p1]
      by_cases hiy : i = y + 1
      · rw [hiy, updL_s]
      · rw [updL_n hiy, jA_c (o1 107 (by omega) (by omega) (by omega))]
        exact w i (by omega)
/-- a firm's sheet is opened up to a year -/
theorem z_open (hK : 3000 ≤ K) (c : PS h) (hn : 159 ≤ n) (j : JR h) (z2 : ∃ f, h 2 = .inl (.int, 0, .inl f)) {f ly : Nat} (hf : f ≤ 10) (hly : ly ≤ 14) {Ls : Nat → List Stm} (R : ∀ r, r < 3 → ∃ z, RS h n (rA h 74 r) z (Ls r)) (d : Int32) : ∃ g, q_X7_open K h n 73 (ni f) (ni ly) d = some g ∧ PS g ∧ OE h g ∧ fI g 73 11 = ni f ∧ fI g 73 12 = d ∧ CY g h f Ls (ly + 1) ∧ ∀ i, i ≤ ly + 1 → jA g 107 i = wrS h f Ls i := by
  have p1 : PS (mm_sf h 73 11 (.int (ni f))) := ps_73_11 c _
  have p2 : PS (mm_sf (mm_sf h 73 11 (.int (ni f))) 73 12 (.int d)) := ps_73_12 p1 _
  have p3 : PS (mm_sj (mm_sf (mm_sf h 73 11 (.int (ni f))) 73 12 (.int d)) 107 0 (iA h 50 f).toInt64) := ps_107 p2 _ _
  have a11 : fI (mm_sf (mm_sf h 73 11 (.int (ni f))) 73 12 (.int d)) 73 11 = ni f := by
    rw [fI_sf_o (by decide)]
    exact fs_73_11 c _
  have a12 : fI (mm_sf (mm_sf h 73 11 (.int (ni f))) 73 12 (.int d)) 73 12 = d := fs_73_12 p1 _
  obtain ⟨g, e, r⟩ := z_openLp hK hn j z2 hf hly R (d := d) (ly + 1) 0 K _ (by omega) (by omega) p3 (fun a ha => by rw [mm_sj_n (by omega), mm_sf_n (by omega), mm_sf_n (by omega)]) (by rw [fI_sj]; exact a11) (by rw [fI_sj]; exact a12) (fun y hy => by omega) (fun i hi => by
    have : i = 0 := by omega
    subst this
    rw [is_107 p2, updL_s]
    rfl)
  refine ⟨g, ?_, r⟩
  have e' : lp_X7_open_31 K n 73 (ni ly) K 0 (mm_sj (mm_sf (mm_sf h 73 11 (.int (ni f))) 73 12 (.int d)) 107 0 (iA h 50 f).toInt64) = some g := e
  have fw : q_X4_firstWorthOf K (mm_sf (mm_sf h 73 11 (.int (ni f))) 73 12 (.int d)) n 49 (ni f) = some (iA h 50 f) := by
    unfold q_X4_firstWorthOf
    rw [if_neg (ni_pos (by omega)), if_neg (fun q => by have := (ni_le (a := 11) (by omega) (by omega)).mp q; omega), g_49_0 p2 hn]
    simp only [Option.bind_some, ge_50 p2 hn]
    rw [if_pos (ni_inb (by omega) (by omega)), ni_tn (by omega), iA_sf, iA_sf]
    rfl
  unfold q_X7_open
  simp only [p_73_11 c hn, p_73_12 p1 hn, Option.bind_some, g_73_5 p2 hn, g_73_0 p2 hn, g_73_11 p2 hn, a11, gq_49 p2 hn, fw, pe_107 p2 hn, (show inb 0 16 = true by decide), cl5.1, if_true, e']
end OPENS

/-! ===== rules are put by ===== -/
section PUTBY
variable {K n : Nat} {h : mm_H}
theorem JR_6 {g : mm_H} (a : ∀ x, (49 ≤ x ∧ x < 73) ∨ x = 158 ∨ (160 ≤ x ∧ x ≤ 177) ∨ x = 207 → g x = h x) (f : ∀ k, k ≤ 10 → fI g 159 k = fI h 159 k) (j : JR h) (p : JP g) : JR g := by
  obtain ⟨uT, uF, uA, uW, uB, uL, -⟩ := j
  have e : ∀ x, (49 ≤ x ∧ x < 73) ∨ x = 158 ∨ (160 ≤ x ∧ x ≤ 177) ∨ x = 207 → (∀ k, fI g x k = fI h x k) ∧ iA g x = iA h x ∧ jA g x = jA h x := fun x q => ⟨fun k => fI_c (a x q) k, iA_c (a x q), jA_c (a x q)⟩
  refine ⟨?_, ?_, ?_, ?_, ?_, ?_, p⟩
  · unfold JT
    rw [f 0 (by decide), (e 49 (by omega)).1, (e 158 (by omega)).2.1, (e 207 (by omega)).2.1]
    exact uT
  · unfold JF
    rw [f 1 (by decide), (e 49 (by omega)).1, (e 50 (by omega)).2.1, (e 162 (by omega)).2.2]
    exact uF
  · unfold JA
    rw [f 2 (by decide), (e 51 (by omega)).1, (e 52 (by omega)).2.1, (e 53 (by omega)).2.1, (e 54 (by omega)).2.1, (e 55 (by omega)).2.1, (e 160 (by omega)).2.1, (e 161 (by omega)).2.1, (e 163 (by omega)).2.1, (e 164 (by omega)).2.1]
    exact uA
  · unfold JW
    rw [f 8 (by decide), (e 56 (by omega)).1, (e 56 (by omega)).1, (e 57 (by omega)).2.1, (e 58 (by omega)).2.1, (e 59 (by omega)).2.1, (e 60 (by omega)).2.1, (e 165 (by omega)).2.1, (e 166 (by omega)).2.1, (e 167 (by omega)).2.1, (e 168 (by omega)).2.1]
    exact uW
  · unfold JB
    rw [f 9 (by decide), (e 61 (by omega)).1, (e 62 (by omega)).2.1, (e 63 (by omega)).2.1, (e 64 (by omega)).2.1, (e 65 (by omega)).2.1, (e 66 (by omega)).2.1, (e 169 (by omega)).2.1, (e 170 (by omega)).2.1, (e 171 (by omega)).2.1, (e 172 (by omega)).2.1, (e 173 (by omega)).2.1]
    exact uB
  · unfold JL
    rw [f 10 (by decide), (e 67 (by omega)).1, (e 68 (by omega)).2.1, (e 69 (by omega)).2.1, (e 70 (by omega)).2.1, (e 71 (by omega)).2.1, (e 72 (by omega)).2.1, (e 174 (by omega)).2.1, (e 175 (by omega)).2.1, (e 176 (by omega)).2.1, (e 177 (by omega)).2.1]
    exact uL
theorem bothR_ot {g1 g2 g3 : mm_H} {z z' len N p w B a b : Nat} {L : List Stm} (e1 : ∀ a, (178 ≤ a ∧ a ≤ 196) ∨ 208 ≤ a → g1 a = h a) (r : CPR g1 z z' len N g2) (e3 : ∀ a, (178 ≤ a ∧ a ≤ 196) ∨ 208 ≤ a → g3 a = g2 a) (hw : w < 14) (hwz : w ≠ z') (hlen : len ≤ 300) (hN : N ≤ 6500) (hB : B ≤ 9) (R : bothR h n p w B L a b) : bothR g3 n p w B L a b := by
  obtain ⟨bk, hL, ok, N', hN', st⟩ := R
  refine ⟨book_c (fun x hx => (e3 x (Or.inr hx)).trans ((r.1 x (by omega)).trans (e1 x (Or.inr hx)))) bk, hL, ok, N', hN', ?_⟩
  exact setR_c (fun x h1 h2 => e3 x (Or.inl ⟨h1, h2⟩)) (setR_ot hw hwz hlen hN (by omega) (by omega) r (setR_c (fun x h1 h2 => e1 x (Or.inl ⟨h1, h2⟩)) st))
theorem S_25 (hK : 7000 ≤ K) {l3 : Int32} {kc ks : Nat} (c : PS h) (hn : 208 ≤ n) (j : JR h) (jn : JN h) (jk : JK h n) : ∃ g, st_law_25 K h n l3 kc ks = some (g, n, kc, ks) ∧ PS g ∧ JR g ∧ JN g ∧ JK g n ∧ (∀ a, a < 48 → g a = h a) ∧ fI g 48 5 = fI h 48 5 := by
  have fin : ∀ (v : Int32) (g w : mm_H), q_X10_putBy K h n 48 = some (v, g) → PS g → q_X11_putBy K g n 159 = some (v, w) → PS w → JR w → JN w → JK w n → (∀ a, a < 48 → w a = h a) → fI w 48 5 = fI h 48 5 → ∃ g, st_law_25 K h n l3 kc ks = some (g, n, kc, ks) ∧ PS g ∧ JR g ∧ JN g ∧ JK g n ∧ (∀ a, a < 48 → g a = h a) ∧ fI g 48 5 = fI h 48 5 := by
    intro v g w k1 p1 k2 p2 a1 a2 a3 a4 a5
    refine ⟨w, ?_, p2, a1, a2, a3, a4, a5⟩
    unfold st_law_25
    simp only [gq_48 c hn, Option.bind_some, k1, gq_159 p1 hn, k2, if_true]
  obtain ⟨⟨m7, e7, hm7⟩, e24, ⟨m, e10, hm⟩, e25, e31, e30, e56⟩ := id jn
  have n10 : ¬ (1 : Int32) = 0 := by decide
  cases e8 : fR h 48 8 with
  | none =>
    rw [e8] at e31
    have e31' : fI h 159 31 = 0 := e31
    refine fin (-1) h h ?_ c ?_ c j jn jk (fun _ _ => rfl) rfl
    · unfold q_X10_putBy
      simp only [g_48_8 c hn, e8, Option.bind_some]
    · unfold q_X11_putBy
      simp only [g_159_31 c hn, e31', Option.bind_some, if_true]
  | some p =>
    rw [e8] at e31
    have e31' : fI h 159 31 = 1 := e31
    by_cases m4 : m = 4
    · subst m4
      refine fin (-1) h h ?_ c ?_ c j jn jk (fun _ _ => rfl) rfl
      · unfold q_X10_putBy
        simp only [g_48_8 c hn, e8, Option.bind_some, g_48_10 c hn, e10]
        rw [if_neg (by decide)]
      · unfold q_X11_putBy
        simp only [g_159_31 c hn, e31', Option.bind_some, n10, if_false, g_159_25 c hn, e25, e10]
        rw [if_pos (by decide)]
    · have m4' : m < 4 := by omega
      obtain ⟨j1, ⟨M7, j2, j3, j4⟩, j5, ⟨M, j6, j7, j8⟩⟩ := id jk
      have eM : M = m := (ni_inj (by omega) (by omega)).mp (j6.symm.trans e10)
      subst eM
      obtain ⟨L, a, b, bR⟩ := j5 p e8
      obtain ⟨bk, hL, ok, N, hN, st⟩ := id bR
      obtain ⟨hp, hpn, q, ff, e5, -⟩ := id bk
      have ck : ckr h n p 6 = true := by
        unfold ckr
        rw [e5]
        simp
        omega
      have i4 : inb (ni M) 4 = true := ni_inb (by omega) m4'
      have t4 : (ni M).toNatClampNeg = M := ni_tn (by omega)
      have e157 : h 157 = .inl (.object "WaterReview$RuleBook", 4, .inr (.inr (.inr (.inr (rA h 157))))) := cs_157 c
      have sr : stR h n 157 5 6 (ni M) p = some (mm_sr h 157 M (some p)) := by
        unfold stR
        rw [if_pos ⟨by omega, by omega⟩, e157]
        show (if mm_tys[5]? = some (.object "WaterReview$RuleBook") ∧ inb (ni M) 4 = true ∧ ckr h n p 6 = true then some (mm_sr h 157 (ni M).toNatClampNeg (some p)) else none) = _
        rw [if_pos ⟨rfl, i4, ck⟩, t4]
      have p1 : PS (mm_sr h 157 M (some p)) := ps_157 c _ _
      have p2 : PS (mm_sf (mm_sr h 157 M (some p)) 48 10 (.int (ni (M + 1)))) := ps_48_10 p1 _
      have o2 : ∀ a, a ≠ 48 → a ≠ 157 → mm_sf (mm_sr h 157 M (some p)) 48 10 (.int (ni (M + 1))) a = h a := fun a h1 h2 => by rw [mm_sf_n h1, mm_sr_n h2]
      have f2 : ∀ k, k ≠ 10 → fI (mm_sf (mm_sr h 157 M (some p)) 48 10 (.int (ni (M + 1)))) 48 k = fI h 48 k := fun k hk => by rw [fI_sf_o hk, fI_sr]
      have r2 : fR (mm_sf (mm_sr h 157 M (some p)) 48 10 (.int (ni (M + 1)))) 48 8 = fR h 48 8 := by rw [fR_sf_o (by decide), fR_sr]
      have w2 : fI (mm_sf (mm_sr h 157 M (some p)) 48 10 (.int (ni (M + 1)))) 48 10 = ni (M + 1) := fs_48_10 p1 _
      have a2 : rA (mm_sf (mm_sr h 157 M (some p)) 48 10 (.int (ni (M + 1)))) 157 = va_up (rA h 157) M (some p) := by rw [rA_sf, is_157 c]
      have ex1 : fI (mm_sr h 157 M (some p)) 48 10 = ni M := by rw [fI_sr, e10]
      have kc : q_X10_putBy K h n 48 = some (ni M, mm_sf (mm_sr h 157 M (some p)) 48 10 (.int (ni (M + 1)))) := by
        unfold q_X10_putBy
        simp only [g_48_8 c hn, e8, Option.bind_some, g_48_10 c hn, e10]
        rw [if_pos (show ni M < (4 : Int32) from (ni_lt (b := 4) (by omega) (by omega)).mpr m4')]
        simp only [g_48_9 c hn, Option.bind_some, sr, g_48_10 p1 hn, ex1, ni_1, p_48_10 p1 hn, g_48_10 p2 hn, w2, ni_sub1]
      generalize mm_sf (mm_sr h 157 M (some p)) 48 10 (.int (ni (M + 1))) = g1 at p2 o2 f2 r2 w2 a2 kc
      have e159 : ∀ k, fI g1 159 k = fI h 159 k := fun k => fI_c (o2 159 (by decide) (by decide)) k
      have eb : ∀ a, (178 ≤ a ∧ a ≤ 196) ∨ 208 ≤ a → g1 a = h a := fun a q => o2 a (by omega) (by omega)
      have st1 : setR g1 8 L N := setR_c (fun x h1 h2 => eb x (Or.inl ⟨h1, h2⟩)) st
      obtain ⟨g2, k2, p3, cp⟩ := z_copies hK p2 hn (z := 8) (z' := 9 + M) (len := L.length) (N := N) (by omega) (by omega) (by omega) (by omega) (by omega) st1.1 st1.2.1
      have e9 : (9 : Int32) + ni M = ni (9 + M) := ni_add 9 M
      have k2' : q_X11_copies K g1 n 159 8 (ni (9 + M)) = some g2 := k2
      have g25 : fI g2 159 25 = ni M := by rw [fI_c (cp.1 159 (by omega)) 25, e159, e25, e10]
      have p4 : PS (mm_sf g2 159 25 (.int (ni (M + 1)))) := ps_159_25 p3 _
      have w4 : fI (mm_sf g2 159 25 (.int (ni (M + 1)))) 159 25 = ni (M + 1) := fs_159_25 p3 _
      have km : q_X11_putBy K g1 n 159 = some (ni M, mm_sf g2 159 25 (.int (ni (M + 1)))) := by
        unfold q_X11_putBy
        simp only [g_159_31 p2 hn, e159, e31', Option.bind_some, n10, if_false, g_159_25 p2 hn, e25, e10]
        rw [if_neg (show ¬ ni M = (4 : Int32) from fun q => m4 ((ni_inj (b := 4) (by omega) (by omega)).mp q)), gq_159 p2 hn, e9]
        simp only [Option.bind_some, k2', g_159_25 p3 hn, g25, ni_1, p_159_25 p3 hn, g_159_25 p4 hn, w4, ni_sub1]
      have o4 : ∀ a, a ≠ 159 → mm_sf g2 159 25 (.int (ni (M + 1))) a = g2 a := fun a q => mm_sf_n q
      have f4 : ∀ k, k ≠ 25 → fI (mm_sf g2 159 25 (.int (ni (M + 1)))) 159 k = fI h 159 k := fun k q => by rw [fI_sf_o q, fI_c (cp.1 159 (by omega)) k, e159]
      generalize mm_sf g2 159 25 (.int (ni (M + 1))) = g4 at p4 w4 km o4 f4
      have oh : ∀ a, a ≠ 48 → a ≠ 157 → a ≠ 159 → (a < 178 ∨ a = 179 ∨ a = 180 ∨ 196 < a) → g4 a = h a := fun a h1 h2 h3 h4 => (o4 a h3).trans ((cp.1 a h4).trans (o2 a h1 h2))
      have e48 : g4 48 = g1 48 := (o4 48 (by decide)).trans (cp.1 48 (by omega))
      have e157' : rA g4 157 = va_up (rA h 157) M (some p) := by rw [rA_c (o4 157 (by decide)), rA_c (cp.1 157 (by omega)), a2]
      have f48 : ∀ k, k ≠ 10 → fI g4 48 k = fI h 48 k := fun k q => (fI_c e48 k).trans (f2 k q)
      have w48 : fI g4 48 10 = ni (M + 1) := (fI_c e48 10).trans w2
      have r48 : fR g4 48 8 = fR h 48 8 := (fR_c e48 8).trans r2
      have bo : ∀ (p w B : Nat) (L : List Stm) (a b : Nat), w < 14 → w ≠ 9 + M → B ≤ 9 → bothR h n p w B L a b → bothR g4 n p w B L a b := fun p w B L a b h1 h2 h3 R => bothR_ot eb cp (fun x hx => o4 x (by omega)) h1 h2 (by omega) (by omega) h3 R
      refine fin (ni M) g1 g4 kc p2 km p4 ?_ ?_ ?_ ?_ (f48 5 (by decide))
      · refine JR_6 (fun x hx => oh x (by omega) (by omega) (by omega) (by omega)) (fun k hk => f4 k (by omega)) j ?_
        have uP := j.2.2.2.2.2.2
        unfold JP at uP ⊢
        rw [f48 5 (by decide), f4 26 (by decide), iA_c (oh 155 (by decide) (by decide) (by decide) (by omega)), iA_c (oh 198 (by decide) (by decide) (by decide) (by omega))]
        exact uP
      · refine ⟨⟨m7, by rw [f48 7 (by decide)]; exact e7, hm7⟩, by rw [f4 24 (by decide), f48 7 (by decide)]; exact e24, ⟨M + 1, w48, by omega⟩, by rw [w4, w48], ?_, ?_, by rw [f4 56 (by decide)]; exact e56⟩
        · rw [f4 31 (by decide), r48, e8]
          exact e31'
        · rw [f4 30 (by decide), fI_c (oh 151 (by decide) (by decide) (by decide) (by omega)) 5]
          exact e30
      · refine ⟨by rw [oh 2 (by decide) (by decide) (by decide) (by omega)]; exact j1, ⟨M7, by rw [f48 7 (by decide)]; exact j2, j3, fun i hi => ?_⟩, fun p' hp' => ?_, ⟨M + 1, w48, by omega, fun i hi => ?_⟩⟩
        · obtain ⟨p', L', a', b', q1, q2, q3, q4, q5⟩ := j4 i hi
          exact ⟨p', L', a', b', by rw [rA_c (oh 156 (by decide) (by decide) (by decide) (by omega))]; exact q1, bo _ _ _ _ _ _ (by omega) (by omega) (by omega) q2, by rw [iA_c (oh 179 (by decide) (by decide) (by decide) (by omega))]; exact q3, by rw [iA_c (oh 180 (by decide) (by decide) (by decide) (by omega))]; exact q4, q5⟩
        · rw [r48] at hp'
          obtain ⟨L', a', b', q⟩ := j5 p' hp'
          exact ⟨L', a', b', bo _ _ _ _ _ _ (by omega) (by omega) (by omega) q⟩
        · by_cases hiM : i = M
          · subst hiM
            refine ⟨p, L, a, b, by rw [e157', vup_s], book_c (fun x hx => (oh x (by omega) (by omega) (by omega) (by omega))) bk, hL, ok, N, hN, ?_⟩
            exact setR_c (fun x h1 h2 => o4 x (by omega)) (setR_cp (by omega) (by omega) (by omega) (by omega) cp st1)
          · obtain ⟨p', L', a', b', q1, q2⟩ := j8 i (by omega)
            exact ⟨p', L', a', b', by rw [e157', vup_n hiM]; exact q1, bo _ _ _ _ _ _ (by omega) (by omega) (by omega) q2⟩
      · intro a ha
        exact oh a (by omega) (by omega) (by omega) (by omega)
end PUTBY

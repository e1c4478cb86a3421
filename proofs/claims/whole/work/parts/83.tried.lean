/-! ===== the call tried ===== -/
section TRIED
variable {K n : Nat} {h : mm_H}
theorem S_21 (hK : 3000 ≤ K) {l3 : Int32} {kc ks : Nat} {x : Nat → Int32} (c : PS h) (hn : 208 ≤ n) (j : JR h) (jn : JN h) (jk : JK h n) (sc : SCR (h 0) n l3 x) : ∃ g, st_law_21 K h n l3 kc ks = some (g, n, kc, ks) ∧ PS g ∧ JR g ∧ FB h g := by
  obtain ⟨s1, s2, -⟩ := sc h rfl
  have uF := j.2.1
  have n10 : ¬ (1 : Int32) = 0 := by decide
  have h31 := jn.2.2.2.2.1
  have h56 := jn.2.2.2.2.2.2
  have fin : ∀ (v : Int64) (g w : mm_H), q_X10_tried K h n 48 (x 1) (x 2) = some (v, g) → PS g → SW h g → q_X11_tried K g n 159 (x 1) (x 2) = some (v, w) → PS w → SV h w → fI w 159 56 = fI h 159 56 → ∃ g, st_law_21 K h n l3 kc ks = some (g, n, kc, ks) ∧ PS g ∧ JR g ∧ FB h g := by
    intro v g w k1 p1 e1 k2 p2 e2 e3
    obtain ⟨t1, t2, -⟩ := sc g (e1.1 0 (by omega))
    refine ⟨w, ?_, p2, SV_JR e2 j, SV_FB e2 e3⟩
    unfold st_law_21
    simp only [s1, s2, gq_48 c hn, Option.bind_some, k1, t1, t2, gq_159 p1 hn, k2, lg_cmp_eq, if_true]
  have no : (mm_in (x 1) 0 (fI h 49 5 - 1) = 0 ∨ mm_in (x 2) 0 14 = 0 ∨ fR h 48 8 = none) → ∃ g, st_law_21 K h n l3 kc ks = some (g, n, kc, ks) ∧ PS g ∧ JR g ∧ FB h g := fun hh => by
    refine fin (-2000000000000) h h ?_ c SW.id_ ?_ c SW.id_.sv rfl
    · unfold q_X10_tried
      simp only [gq_48 c hn, y_X10_isFirmsYear c hn uF, Option.bind_some, g_48_8 c hn]
      by_cases b1 : mm_in (x 1) 0 (fI h 49 5 - 1) = 0
      · simp only [b1, if_true]
      by_cases b3 : mm_in (x 2) 0 14 = 0
      · simp only [b1, b3, if_true, if_false]
      rcases hh with q | q | q
      · exact absurd q b1
      · exact absurd q b3
      · simp only [b1, b3, n10, if_false, q]
    · unfold q_X11_tried
      simp only [g_159_31 c hn, Option.bind_some, h31, gq_159 c hn, y_X11_isFirm c hn uF, z_X11_isYear]
      cases q : fR h 48 8 with
      | none => simp only [if_true]
      | some p =>
        simp only [n10, if_false]
        by_cases b1 : mm_in (x 1) 0 (fI h 49 5 - 1) = 0
        · simp only [b1, if_true]
        by_cases b3 : mm_in (x 2) 0 14 = 0
        · simp only [b1, b3, if_true, if_false]
        rcases hh with q' | q' | q'
        · exact absurd q' b1
        · exact absurd q' b3
        · rw [q] at q'; cases q'
  by_cases a1 : mm_in (x 1) 0 (fI h 49 5 - 1) = 0
  · exact no (Or.inl a1)
  by_cases a2 : mm_in (x 2) 0 14 = 0
  · exact no (Or.inr (Or.inl a2))
  cases e8 : fR h 48 8 with
  | none => exact no (Or.inr (Or.inr e8))
  | some p =>
    obtain ⟨f, F, ea, eF, hF, hf⟩ := ok_firm uF a1
    obtain ⟨y, hy, ey⟩ := mm_in_nat (N := 14) (by omega) a2
    obtain ⟨L, a, b, bR⟩ := jk.2.2.1 p e8
    obtain ⟨g1, Ls, f1, p1, o1, R1⟩ := z_useOwn hK c hn jk jn
    have R0 : ∀ r, r < 3 → ∃ b z, RS h n b z (Ls r) ∧ SO K n h r z := fun r hr => by
      obtain ⟨z, r1, r2⟩ := R1 r hr
      exact ⟨_, z, r1, r2⟩
    have Rb : RS h n (some p) (ni 8) L := Or.inr ⟨p, 8, 9, a, b, rfl, rfl, by omega, by omega, bR⟩
    have us := z_useRules (K := K) p1 hn (r := y / 5) (by omega) (RS_c (fun a q => o1 a (by omega)) Rb)
    have p2 : PS (mm_sr g1 74 (y / 5) (some p)) := ps_74 p1 _ _
    have o2 : ∀ a, a ≠ 74 → mm_sr g1 74 (y / 5) (some p) a = h a := fun a q => (mm_sr_n q).trans (o1 a q)
    have sw2 : SW h (mm_sr g1 74 (y / 5) (some p)) := ⟨fun a q => o2 a (by omega), fun k _ _ _ _ => fI_c (o2 159 (by omega)) k⟩
    have cb : CB n h (LsI Ls (y / 5) L) (mm_sr g1 74 (y / 5) (some p)) := ⟨p2, sw2, fun r hr => by
      rw [is_74 p1]
      unfold LsI
      by_cases q : r = y / 5
      · rw [q, vup_s, if_pos rfl]
        exact ⟨ni 8, RS_c (fun a q => o2 a (by omega)) Rb⟩
      · rw [vup_n q, if_neg q]
        obtain ⟨z, r1, -⟩ := R1 r hr
        exact ⟨z, RS_c (fun a q => o2 a (by omega)) r1⟩⟩
    obtain ⟨g3, f3, u3, cb3⟩ := z_openBy hK hn j jk cb eF hF hf hy (fI h 49 6)
    obtain ⟨g4, f4, u4, w4, r4⟩ := u3.fill hK hn (by omega) (Nat.le_refl y) (by omega)
    have cb4 := cb3.cs u4.1 w4
    have sw4 : SW h g4 := cb4.2.1
    have e5 : ni y / 5 = ni (y / 5) := by
      show ni y / ni 5 = _
      rw [ni_div (by omega) (by omega)]
    have t2 : fI (mm_sr g1 74 (y / 5) (some p)) 49 6 = fI h 49 6 := fI_c (o2 49 (by omega)) 6
    have g18 : fR g1 48 8 = some p := by rw [fR_c (o1 48 (by omega))]; exact e8
    have a1' : ¬ mm_in (ni f) 0 (fI h 49 5 - 1) = 0 := by rw [← ea]; exact a1
    have a2' : ¬ mm_in (ni y) 0 14 = 0 := by rw [← ey]; exact a2
    obtain ⟨q1, q2, q3, q4⟩ := inS_1 u4.1 (y / 5) 8
    have svI : SV h (inS g4 (y / 5) 8) := sw4.sv.trans q2
    obtain ⟨w, k1, m1, me⟩ := z_mf (K := K) (h := h) hK hn q1 (SV_JR svI j) (fun a ha => svI.1 a (by omega)) ((fI_c (svI.1 49 (by omega)) 5).trans eF) hF hf (z_inS c hn h56 R0 (r0 := y / 5) (by omega) (by omega) (by omega) bR u4.1 sw4.sv)
    obtain ⟨w', k2, m2, sx2⟩ := m1.rev hK hn hy (fI h 49 6)
    have svw : SV h w' := svI.trans (me.sw.trans sx2.sw).sv
    have pw : PS (mm_sf w' 159 56 (.int (-1))) := ps_159_56 m2.1 _
    refine fin (rvS h F f (LsI Ls (y / 5) L) (fI h 49 6) y 15) g4 (mm_sf w' 159 56 (.int (-1))) ?_ u4.1 sw4 ?_ pw (svw.trans (SV.put 56 (Or.inl rfl) _)) ?_
    · unfold q_X10_tried
      rw [ea, ey]
      simp only [gq_48 c hn, y_X10_isFirmsYear c hn uF, Option.bind_some, a1', a2', n10, if_false, g_48_8 c hn, e8, f1, g_48_1 p1 hn, g_48_8 p1 hn, g18, gq_73 p1 hn, e5, us, g_48_1 p2 hn, g_48_0 p2 hn, g_49_6 p2 hn, t2, gq_73 p2 hn, f3, g_48_1 u3.1 hn, gq_73 u3.1 hn, f4, g_48_1 u4.1 hn, gq_73 u4.1 hn, z_allLines hK u4.1 hn hy (r4 y (Nat.le_refl y) (Nat.le_refl y))]
    · have f49 : fI g4 49 5 = fI h 49 5 := fI_c (sw4.1 49 (by omega)) 5
      have g31 : fI g4 159 31 = 1 := by rw [sw4.2 31 (by decide) (by decide) (by decide) (by decide), h31, e8]
      have ein : mm_sf (mm_sf g4 159 56 (.int (ni (y / 5)))) 159 57 (.int 8) = inS g4 (y / 5) 8 := rfl
      unfold q_X11_tried
      rw [ea, ey]
      simp only [g_159_31 u4.1 hn, g31, n10, if_false, gq_159 u4.1 hn, y_X11_isFirm u4.1 hn u4.2.1.2.1, f49, Option.bind_some, a1', z_X11_isYear, a2', e5, p_159_56 u4.1 hn, p_159_57 (ps_159_56 u4.1 _) hn, ein, gq_159 q1 hn, k1, m1.today hn, gq_159 m1.1 hn, k2, p_159_56 m2.1 hn]
    · rw [fs_159_56 m2.1, h56]
end TRIED

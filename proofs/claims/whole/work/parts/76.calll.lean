/-! ===== the calls line and revenue ===== -/
section CALLL
variable {K n : Nat} {h : mm_H}
/-- a firm, a year, a day that are -/
abbrev okY (h : mm_H) (a b d : Int32) : Prop := ¬ mm_in a 0 (fI h 49 5 - 1) = 0 ∧ ¬ mm_in b 0 14 = 0 ∧ ¬ mm_in d 0 1499 = 0
theorem y_pre {α : Type} (c : PS h) (hn : 208 ≤ n) (j : JF h) (a b d : Int32) (N X : Option α) : ((q_X10_isFirmsYear K h n 48 a b).bind fun v3 => if v3 = 0 then N else (q_X10_isDay K h n d).bind fun v5 => if v5 = 0 then N else X) = if okY h a b d then X else N := by
  rw [y_X10_isFirmsYear c hn j, z_X10_isDay]
  simp only [Option.bind_some]
  by_cases h1 : mm_in a 0 (fI h 49 5 - 1) = 0
  · rw [if_neg (fun q : okY h a b d => q.1 h1)]
    simp only [h1, if_true]
  by_cases h2 : mm_in b 0 14 = 0
  · rw [if_neg (fun q : okY h a b d => q.2.1 h2)]
    simp only [h1, h2, if_true, if_false]
  by_cases h3 : mm_in d 0 1499 = 0
  · rw [if_neg (fun q : okY h a b d => q.2.2 h3)]
    simp only [h1, h2, h3, if_true, if_false, ite_self]
  · rw [if_pos (show okY h a b d from ⟨h1, h2, h3⟩)]
    simp only [h1, h2, h3, if_false]
    rw [if_neg (by decide)]
theorem y_preM {α : Type} (c : PS h) (hn : 208 ≤ n) (j : JF h) (a b d : Int32) (N X : Option α) : ((q_X11_isYearOf K h n 159 a b d).bind fun v3 => if v3 = 0 then N else X) = if okY h a b d then X else N := by
  unfold q_X11_isYearOf
  simp only [gq_159 c hn, y_X11_isFirm c hn j, z_X11_isYear, z_X11_isDay, Option.bind_some]
  by_cases h1 : mm_in a 0 (fI h 49 5 - 1) = 0
  · rw [if_neg (fun q : okY h a b d => q.1 h1), if_pos h1]
    rfl
  rw [if_neg h1]
  by_cases h2 : mm_in b 0 14 = 0
  · rw [if_neg (fun q : okY h a b d => q.2.1 h2), if_pos h2]
    rfl
  rw [if_neg h2]
  by_cases h3 : mm_in d 0 1499 = 0
  · rw [if_neg (fun q : okY h a b d => q.2.2 h3), if_pos h3]
    rfl
  · rw [if_pos (show okY h a b d from ⟨h1, h2, h3⟩), if_neg h3]
    rfl
theorem okY_c {g : mm_H} (s : SW h g) {a b d : Int32} : okY g a b d = okY h a b d := by
  unfold okY
  rw [fI_c (s.1 49 (by omega)) 5]
theorem ok_nat {a b d : Int32} (uF : JF h) (ok : okY h a b d) : ∃ f y F : Nat, a = ni f ∧ b = ni y ∧ y ≤ 14 ∧ fI h 49 5 = ni F ∧ F ≤ 11 ∧ f < F := by
  obtain ⟨fm, hfm, hfm10, hF1, hF2⟩ := in_firm uF ok.1
  obtain ⟨y, hy, ey⟩ := mm_in_nat (N := 14) (by omega) ok.2.1
  obtain ⟨F0, hF0, hF11⟩ := id uF.1
  refine ⟨fm, y, F0, hfm, ey, hy, hF0, hF11, ?_⟩
  rw [hF0, ni_tn (by omega)] at hF2
  exact hF2
theorem S_17 (hK : 3000 ≤ K) {l3 : Int32} {kc ks : Nat} {x : Nat → Int32} (c : PS h) (hn : 208 ≤ n) (j : JR h) (jn : JN h) (jk : JK h n) (sc : SCR (h 0) n l3 x) : ∃ g, st_law_17 K h n l3 kc ks = some (g, n, kc, ks) ∧ PS g ∧ SW h g := by
  obtain ⟨s1, s2, s3, s4, -⟩ := sc h rfl
  have uF := j.2.1
  have fin : ∀ (v : Int64) (g w : mm_H), q_X10_line K h n 48 (x 1) (x 2) (x 3) (x 4) = some (v, g) → PS g → SW h g → q_X11_line K g n 159 (x 1) (x 2) (x 3) (x 4) = some (v, w) → PS w → SW h w → ∃ g, st_law_17 K h n l3 kc ks = some (g, n, kc, ks) ∧ PS g ∧ SW h g := by
    intro v g w k1 p1 e1 k2 p2 e2
    obtain ⟨t1, t2, t3, t4, -⟩ := sc g (e1.1 0 (by omega))
    refine ⟨w, ?_, p2, e2⟩
    unfold st_law_17
    simp only [s1, s2, s3, s4, gq_48 c hn, Option.bind_some, k1, t1, t2, t3, t4, gq_159 p1 hn, k2, lg_cmp_eq, if_true]
  by_cases ok : okY h (x 1) (x 2) (x 3)
  · by_cases k0 : mm_in (x 4) 0 14 = 0
    · refine fin (-2000000000000) h h ?_ c SW.id_ ?_ c SW.id_
      · unfold q_X10_line
        rw [gq_48 c hn, Option.bind_some, y_pre c hn uF, if_pos ok, z_X10_isWithin, Option.bind_some, if_pos k0]
      · unfold q_X11_line
        rw [gq_159 c hn, Option.bind_some, y_preM c hn uF, if_pos ok, z_X11_isIn, Option.bind_some, if_pos k0]
    · obtain ⟨f, y, F, ea, eb, hy, eF, hF, hf⟩ := ok_nat uF ok
      obtain ⟨k, hk, ek⟩ := mm_in_nat (N := 14) (by omega) k0
      obtain ⟨g1, Ls, e1, u1, w1, R⟩ := z_openCF hK c hn j jk jn eF hF hf hy (x 3)
      obtain ⟨g2, e2, u2, w2, r2⟩ := u1.fill hK hn (by omega) (Nat.le_refl y) (by omega)
      have sw2 : SW h g2 := w1.trans w2.sw
      obtain ⟨w, e3, m3, sw3⟩ := z_mfOwn hK hn j eF hF hf R u2.1 sw2
      obtain ⟨w', e4, m4, s4'⟩ := m3.line hK hn hy hk (x 3)
      refine fin (lnS h F f Ls (x 3) y k) g2 w' ?_ u2.1 sw2 ?_ m4.1 (sw3.trans s4'.sw)
      · unfold q_X10_line
        rw [gq_48 c hn, Option.bind_some, y_pre c hn uF, if_pos ok, z_X10_isWithin, Option.bind_some, if_neg k0, ea, eb, ek]
        simp only [Option.bind_some, gq_48 c hn, e1, g_48_1 u1.1 hn, gq_73 u1.1 hn, e2, g_48_1 u2.1 hn, gq_73 u2.1 hn, z_lineAtC u2.1 hn hy hk, r2 y (Nat.le_refl y) (Nat.le_refl y) k (by omega)]
      · unfold q_X11_line
        rw [gq_159 u2.1 hn, Option.bind_some, y_preM u2.1 hn u2.2.1.2.1, if_pos (by rw [okY_c sw2]; exact ok), z_X11_isIn, Option.bind_some, if_neg k0, ea, eb, ek]
        simp only [Option.bind_some, gq_159 u2.1 hn, e3, gq_159 m3.1 hn, e4]
  · refine fin (-2000000000000) h h ?_ c SW.id_ ?_ c SW.id_
    · unfold q_X10_line
      rw [gq_48 c hn, Option.bind_some, y_pre c hn uF, if_neg ok]
    · unfold q_X11_line
      rw [gq_159 c hn, Option.bind_some, y_preM c hn uF, if_neg ok]
theorem S_18 (hK : 3000 ≤ K) {l3 : Int32} {kc ks : Nat} {x : Nat → Int32} (c : PS h) (hn : 208 ≤ n) (j : JR h) (jn : JN h) (jk : JK h n) (sc : SCR (h 0) n l3 x) : ∃ g, st_law_18 K h n l3 kc ks = some (g, n, kc, ks) ∧ PS g ∧ SW h g := by
  obtain ⟨s1, s2, s3, -⟩ := sc h rfl
  have uF := j.2.1
  have fin : ∀ (v : Int64) (g w : mm_H), q_X10_revenue K h n 48 (x 1) (x 2) (x 3) = some (v, g) → PS g → SW h g → q_X11_revenue K g n 159 (x 1) (x 2) (x 3) = some (v, w) → PS w → SW h w → ∃ g, st_law_18 K h n l3 kc ks = some (g, n, kc, ks) ∧ PS g ∧ SW h g := by
    intro v g w k1 p1 e1 k2 p2 e2
    obtain ⟨t1, t2, t3, -⟩ := sc g (e1.1 0 (by omega))
    refine ⟨w, ?_, p2, e2⟩
    unfold st_law_18
    simp only [s1, s2, s3, gq_48 c hn, Option.bind_some, k1, t1, t2, t3, gq_159 p1 hn, k2, lg_cmp_eq, if_true]
  by_cases ok : okY h (x 1) (x 2) (x 3)
  · obtain ⟨f, y, F, ea, eb, hy, eF, hF, hf⟩ := ok_nat uF ok
    obtain ⟨g1, Ls, e1, u1, w1, R⟩ := z_openCF hK c hn j jk jn eF hF hf hy (x 3)
    obtain ⟨g2, e2, u2, w2, r2⟩ := u1.fill hK hn (by omega) (Nat.le_refl y) (by omega)
    have sw2 : SW h g2 := w1.trans w2.sw
    obtain ⟨w, e3, m3, sw3⟩ := z_mfOwn hK hn j eF hF hf R u2.1 sw2
    obtain ⟨w', e4, m4, s4'⟩ := m3.rev hK hn hy (x 3)
    refine fin (rvS h F f Ls (x 3) y 15) g2 w' ?_ u2.1 sw2 ?_ m4.1 (sw3.trans s4'.sw)
    · unfold q_X10_revenue
      rw [gq_48 c hn, Option.bind_some, y_pre c hn uF, if_pos ok, ea, eb]
      simp only [Option.bind_some, gq_48 c hn, e1, g_48_1 u1.1 hn, gq_73 u1.1 hn, e2, g_48_1 u2.1 hn, gq_73 u2.1 hn, z_allLines hK u2.1 hn hy (r2 y (Nat.le_refl y) (Nat.le_refl y))]
    · unfold q_X11_revenue
      rw [gq_159 u2.1 hn, Option.bind_some, y_preM u2.1 hn u2.2.1.2.1, if_pos (by rw [okY_c sw2]; exact ok), ea, eb]
      simp only [Option.bind_some, gq_159 u2.1 hn, e3, gq_159 m3.1 hn, e4]
  · refine fin (-2000000000000) h h ?_ c SW.id_ ?_ c SW.id_
    · unfold q_X10_revenue
      rw [gq_48 c hn, Option.bind_some, y_pre c hn uF, if_neg ok]
    · unfold q_X11_revenue
      rw [gq_159 c hn, Option.bind_some, y_preM c hn uF, if_neg ok]
end CALLL

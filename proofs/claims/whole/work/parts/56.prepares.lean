/-! ===== the model prepares all years ===== -/
section PREPARES
variable {K n : Nat} {h : mm_H}
def MY (g h : mm_H) (f : Nat) (Ls : Nat → List Stm) (Y : Nat) : Prop := (∀ y, y < Y → iA g 201 y = hmS h f (dcd y) (y + 1) ∧ iA g 202 y = ni (ltS h f y (fI h 56 4).toNatClampNeg)) ∧ ∀ i, i ≤ Y → jA g 200 i = wrS h f Ls i
theorem MY.w {g : mm_H} {f : Nat} {Ls : Nat → List Stm} {Y : Nat} (m : MY g h f Ls Y) {y : Nat} (hy : y < Y) : ∀ i, i < 5 → wdW (ni y).toInt64 (ni f).toInt64 (iA g 201 y).toInt64 (jA g 200 y) (iA g 202 y).toInt64 i = wwS h f Ls y i := fun i _ => by
  rw [(m.1 y hy).1, (m.1 y hy).2, m.2 y (by omega)]
  rfl
theorem z_prepLp (hK : 3000 ≤ K) (hn : 208 ≤ n) (j : JR h) {f : Nat} (hf : f ≤ 10) {Ls : Nat → List Stm} (R : ∀ r, r < 3 → ∃ b z, RS h n b z (Ls r) ∧ SO K n h r z) : ∀ (m y k : Nat) (g : mm_H), y + m = 15 → m < k → PS g → ME h g → MY g h f Ls y → ∃ g', lp_X11_prepares_14 K n 159 (ni f) k (ni y) g = some g' ∧ PS g' ∧ ME h g' ∧ MY g' h f Ls 15 := by
  intro m
  induction m with
  | zero =>
    intro y k g hy hk p o my
    obtain ⟨k, rfl⟩ : ∃ x, k = x + 1 := ⟨k - 1, by omega⟩
    have : y = 15 := by omega
    subst this
    unfold lp_X11_prepares_14
    rw [if_pos (by decide)]
    exact ⟨g, rfl, p, o, my⟩
  | succ m ih =>
    intro y k g hy hk p o my
    obtain ⟨k, rfl⟩ : ∃ x, k = x + 1 := ⟨k - 1, by omega⟩
    have y14 : y ≤ 14 := by omega
    have jg : JR g := JR_c (fun a q => o a (by omega)) j
    obtain ⟨b, z, Rz, sz⟩ := R (y / 5) (by omega)
    have hm1 : q_X11_homesBy K g n 159 (ni f) (ni y) = some (hmS h f (dcd y) (y + 1)) := by
      rw [z_homesX11 hK p hn jg.2.2.1 hf y14, hmS_c (kn_c (fun a _ _ => o a (by omega)))]
    have i15 : inb (ni y) 15 = true := ni_inb (by omega) (by omega)
    have i16 : inb (ni y) 16 = true := ni_inb (by omega) (by omega)
    have i16' : inb (ni (y + 1)) 16 = true := ni_inb (by omega) (by omega)
    have ty : (ni y).toNatClampNeg = y := ni_tn (by omega)
    have ty' : (ni (y + 1)).toNatClampNeg = y + 1 := ni_tn (by omega)
    have p1 : PS (mm_si g 201 y (hmS h f (dcd y) (y + 1))) := ps_201 p _ _
    have p2 : PS (mm_si (mm_si g 201 y (hmS h f (dcd y) (y + 1))) 202 y 0) := ps_202 p1 _ _
    have o2 : ∀ a, a ≠ 201 → a ≠ 202 → mm_si (mm_si g 201 y (hmS h f (dcd y) (y + 1))) 202 y 0 a = g a := fun a h1 h2 => by rw [mm_si_n h2, mm_si_n h1]
    obtain ⟨g3, e3, p3, o3, l3, k3⟩ := z_mLate (K := K) hK hn j.2.2.2.1 (f := f) y14 K 0 _ (Nat.zero_le _) (by
      obtain ⟨-, -, -, -, mm, um, um40, -⟩ := j.2.2.2.1
      rw [um, ni_tn (by omega)]
      omega) p2 (fun a ha => (o2 a (by omega) (by omega)).trans (o a (by omega))) (by rw [is_202 p1, upd_s]; rfl)
    have e3' : lp_X11_prepares_41 K n 159 (ni f) (ni y) K 0 (mm_si (mm_si g 201 y (hmS h f (dcd y) (y + 1))) 202 y 0) = some g3 := e3
    have m3 : ME h g3 := fun a ha => by rw [o3 a (by omega), o2 a (by omega) (by omega)]; exact o a ha
    have h3 : iA g3 201 = upd (iA g 201) y (hmS h f (dcd y) (y + 1)) := by
      rw [iA_c (o3 201 (by omega)), iA_si_n (by omega), is_201 p]
    have w3 : jA g3 200 = jA g 200 := by
      rw [jA_c (o3 200 (by omega)), jA_si, jA_si]
    have l3' : ∀ i, i ≠ y → iA g3 202 i = iA g 202 i := fun i hi => by
      rw [k3 i hi, is_202 p1, upd_n hi, iA_si_n (by omega)]
    have my3 : MY g3 h f Ls y ∧ iA g3 201 y = hmS h f (dcd y) (y + 1) := by
      refine ⟨⟨fun i hi => ⟨?_, ?_⟩, fun i hi => ?_⟩, ?_⟩
      · rw [h3, upd_n (by omega)]; exact (my.1 i hi).1
      · rw [l3' i (by omega)]; exact (my.1 i hi).2
      · rw [w3]; exact my.2 i hi
      · rw [h3, upd_s]
    have hw3 : ∀ i, i < 5 → wdW (ni y).toInt64 (ni f).toInt64 (iA g3 201 y).toInt64 (jA g3 200 y) (iA g3 202 y).toInt64 i = wwS h f Ls y i := fun i _ => by
      rw [my3.2, l3, my3.1.2 y (Nat.le_refl _)]
      rfl
    have R3 : RS g3 n b z (Ls (y / 5)) := by
      rcases Rz with q | ⟨p', w, B, a, b', q1, q2, q3, q4, q5⟩
      · exact Or.inl q
      · exact Or.inr ⟨p', w, B, a, b', q1, q2, q3, q4, bothR_c (fun a ha => m3 a (by omega)) q5⟩
    obtain ⟨g4, e4, p4, o4⟩ := z_plainOf hK p3 hn (k := 4) y14 (by omega) (sz.me m3) R3 hw3 100
    have m4 : ME h g4 := fun a ha => (o4 a (by omega)).trans (m3 a ha)
    have hw4 : ∀ i, i < 5 → wdW (ni y).toInt64 (ni f).toInt64 (iA g4 201 y).toInt64 (jA g4 200 y) (iA g4 202 y).toInt64 i = wwS h f Ls y i := fun i hi => by
      rw [iA_c (o4 201 (by omega)), jA_c (o4 200 (by omega)), iA_c (o4 202 (by omega))]
      exact hw3 i hi
    have R4 : RS g4 n b z (Ls (y / 5)) := by
      rcases Rz with q | ⟨p', w, B, a, b', q1, q2, q3, q4, q5⟩
      · exact Or.inl q
      · exact Or.inr ⟨p', w, B, a, b', q1, q2, q3, q4, bothR_c (fun a ha => m4 a (by omega)) q5⟩
    obtain ⟨g5, e5, p5, o5⟩ := z_plainOf hK p4 hn (k := 5) y14 (by omega) (sz.me m4) R4 hw4 0
    have m5 : ME h g5 := fun a ha => (o5 a (by omega)).trans (m4 a ha)
    have j5 : JR g5 := JR_c (fun a q => m5 a (by omega)) j
    have w5 : jA g3 200 y = wrS h f Ls y := my3.1.2 y (Nat.le_refl _)
    have md := z_mDone (K := K) p5 hn j5.2.2.2.1 (f := f) (y := y) (wrS h f Ls y * (numS (wwS h f Ls y) (Ls (y / 5)) 4 100).toInt64 / 100 - wrS h f Ls y * (numS (wwS h f Ls y) (Ls (y / 5)) 5 0).toInt64 / 100) K 0 (Nat.zero_le _) (by
      obtain ⟨-, -, -, -, mm, um, um40, -⟩ := j5.2.2.2.1
      rw [um, ni_tn (by omega)]
      omega)
    have e0 : cdS g5 f y 0 = 0 := rfl
    rw [e0, Int64.add_zero, cdS_c (fun a _ _ => m5 a (by omega)), fI_c (m5 56 (by omega)) 4] at md
    have e4' : q_X11_plainOf K g3 n 159 (ni f) (ni y) 4 100 = some (numS (wwS h f Ls y) (Ls (y / 5)) 4 100, g4) := e4
    have e5' : q_X11_plainOf K g4 n 159 (ni f) (ni y) 5 0 = some (numS (wwS h f Ls y) (Ls (y / 5)) 5 0, g5) := e5
    have md' : lp_X11_prepares_145 K g5 n 159 (ni f) (ni y) K (wrS h f Ls y * (numS (wwS h f Ls y) (Ls (y / 5)) 4 100).toInt64 / 100 - wrS h f Ls y * (numS (wwS h f Ls y) (Ls (y / 5)) 5 0).toInt64 / 100) 0 = some (wrS h f Ls (y + 1)) := md
    unfold lp_X11_prepares_14
    rw [if_neg (fun q => by have := (ni_le (a := 15) (by omega) (by omega)).mp q; omega)]
    simp only [g_159_59 p hn, gq_159 p hn, hm1, Option.bind_some, pe_201 p hn, i15, ty, if_true, g_159_60 p1 hn, pe_202 p1 hn, e3', g_159_58 p3 hn, ge_200 p3 hn, i16, w5, gq_159 p3 hn, e4', gq_159 p4 hn, e5', md', g_159_58 p5 hn, ni_1, pe_200 p5 hn, i16', ty']
    refine ih (y + 1) k _ (by omega) (by omega) (ps_200 p5 _ _) (fun a ha => by rw [mm_sj_n (by omega)]; exact m5 a ha) ⟨fun i hi => ?_, fun i hi => ?_⟩
    · rw [iA_sj, iA_sj, iA_c (o5 201 (by omega)), iA_c (o4 201 (by omega)), iA_c (o5 202 (by omega)), iA_c (o4 202 (by omega))]
      by_cases hiy : i = y
      · rw [hiy]
        exact ⟨my3.2, l3⟩
      · exact my3.1.1 i (by omega)
    · rw [is_200 p5]
      by_cases hiy : i = y + 1
      · rw [hiy, updL_s]
      · rw [updL_n hiy, jA_c (o5 200 (by omega)), jA_c (o4 200 (by omega))]
        exact my3.1.2 i (by omega)
theorem z_prepares (hK : 3000 ≤ K) (c : PS h) (hn : 208 ≤ n) (j : JR h) {f : Nat} (hf : f ≤ 10) {Ls : Nat → List Stm} (R : ∀ r, r < 3 → ∃ b z, RS h n b z (Ls r) ∧ SO K n h r z) : ∃ g, q_X11_prepares K h n 159 (ni f) = some g ∧ PS g ∧ ME h g ∧ MY g h f Ls 15 := by
  have w0 : jA h 162 f = (iA h 50 f).toInt64 := j.2.1.2.2 f (by omega)
  have i11 : inb (ni f) 11 = true := ni_inb (by omega) (by omega)
  have tf : (ni f).toNatClampNeg = f := ni_tn (by omega)
  have i0 : inb 0 16 = true := by decide
  obtain ⟨g, e, r⟩ := z_prepLp hK hn j hf R 15 0 K (mm_sj h 200 0 (iA h 50 f).toInt64) rfl (by omega) (ps_200 c _ _) (fun a ha => mm_sj_n (by omega)) ⟨fun y hy => by omega, fun i hi => by
    have : i = 0 := by omega
    subst this
    rw [is_200 c, updL_s]
    rfl⟩
  have e' : lp_X11_prepares_14 K n 159 (ni f) K 0 (mm_sj h 200 0 (iA h 50 f).toInt64) = some g := e
  refine ⟨g, ?_, r⟩
  unfold q_X11_prepares
  simp only [g_159_58 c hn, g_159_5 c hn, ge_162 c hn, i11, tf, if_true, Option.bind_some, w0, pe_200 c hn, i0, cl5.1, e']
end PREPARES

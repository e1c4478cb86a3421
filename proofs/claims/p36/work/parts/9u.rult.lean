/-! ===== the rules are taken; the whole text; the first heap ===== -/
section RULT
variable {K n : Nat} {h g : mm_H}
theorem JR_p (e : ∀ a, (49 ≤ a ∧ a < 73) ∨ a = 158 → g a = h a) (jp : JP g) (j : JR h) : JR g := by
  obtain ⟨uT, uF, uA, uW, uB, uL, uP⟩ := j
  refine ⟨?_, ?_, ?_, ?_, ?_, ?_, jp⟩
  · unfold JT
    rw [fI_c (e 49 (by omega)), iA_c (e 158 (by omega))]
    exact uT
  · unfold JF
    rw [fI_c (e 49 (by omega)), iA_c (e 50 (by omega))]
    exact uF
  · unfold JA
    rw [fI_c (e 51 (by omega)), iA_c (e 52 (by omega)), iA_c (e 53 (by omega)), iA_c (e 54 (by omega)), iA_c (e 55 (by omega))]
    exact uA
  · unfold JW
    rw [fI_c (e 56 (by omega)), fI_c (e 56 (by omega)), iA_c (e 57 (by omega)), iA_c (e 58 (by omega)), iA_c (e 59 (by omega)), iA_c (e 60 (by omega))]
    exact uW
  · unfold JB
    rw [fI_c (e 61 (by omega)), iA_c (e 62 (by omega)), iA_c (e 63 (by omega)), iA_c (e 64 (by omega)), iA_c (e 65 (by omega)), iA_c (e 66 (by omega))]
    exact uB
  · unfold JL
    rw [fI_c (e 67 (by omega)), iA_c (e 68 (by omega)), iA_c (e 69 (by omega)), iA_c (e 70 (by omega)), iA_c (e 71 (by omega)), iA_c (e 72 (by omega))]
    exact uL
theorem mm_in_z {N T : Nat} (h1 : N ≤ T) (h2 : T < 2147483648) : ¬ mm_in (ni N) 0 (ni T) = 0 := a_in h2 h1
/-- a text that is right is taken, the first one -/
theorem z_rulesT (hK : 3000 ≤ K) (c : PS h) (hn : 159 ≤ n) (hn9 : n + 200 < 1000000) (T : TXT h) (j : JR h) {b : Nat → Nat} {N T0 M : Nat} {L' : List Stm} (e5 : fI h 48 5 = ni T0) (hT0 : T0 ≤ 900) (hN : N ≤ T0) (e7 : fI h 48 7 = 0) (e6 : fI h 49 6 = 0) (z2 : ∃ f, h 2 = .inl (.int, 0, .inl f)) (hb : ∀ k, k < N → iA h 155 k = ni (b k) ∧ b k < 256) (hb2 : ∀ k, iA h 155 k = iA h 155 k &&& 255) (et : txS b N [] = .inr L') (hM : 30 < M) : ∃ g m p, q_X10_rules K M h n 48 (ni N) 0 = some (0, g, m) ∧ n ≤ m ∧ m ≤ n + 62 ∧ PS g ∧ JR g ∧ TK g m p L' ∧ ∀ a, a < n → a ≠ 48 → a ≠ 151 → a ≠ 152 → a ≠ 153 → a ≠ 154 → a ≠ 156 → g a = h a := by
  obtain ⟨g1, m, r, f1, R1⟩ := z_read (K := K) (b := b) (N := N) hK c hn hn9 T (by omega) hb (L := []) (Nat.zero_le _) (l := none) (Or.inl ⟨rfl, rfl⟩) (Or.inl hM)
  obtain ⟨c1, hnm, hm62, o1, yl, yr⟩ := R1
  have hm : 159 ≤ m := by omega
  have c2 : PS (mm_sf g1 48 5 (.int 0)) := ps_48_5 c1 _
  have o2 : ∀ a, a ≠ 48 → mm_sf g1 48 5 (.int 0) a = g1 a := fun a q => mm_sf_n q
  obtain ⟨f5, p, rfl, hpn, bk⟩ := yr L' et
  obtain ⟨hL', ok'⟩ := txS_ok (b := b) (N := N) (L := []) (by omega) (fun s q => absurd q List.not_mem_nil) et
  obtain ⟨hp, hpm, q, ff, e6', hq, hqm, eq, er⟩ := id bk
  have e6'' : mm_sf g1 48 5 (.int 0) p = .inr (6, [.ref q, .int (ni L'.length), .int (ni 0), .int (ni 0)]) := (o2 p (by omega)).trans e6'
  have s1' : wrF (mm_sf g1 48 5 (.int 0)) m p 6 2 (.int 0) = some (mm_up (mm_sf g1 48 5 (.int 0)) p (.inr (6, [.ref q, .int (ni L'.length), .int 0, .int (ni 0)]))) := wrF_o (m := m) (k := 2) (.int 0) ⟨by omega, hpm⟩ e6'' (by decide : 2 < 4)
  have c3 : PS (mm_up (mm_sf g1 48 5 (.int 0)) p (.inr (6, [.ref q, .int (ni L'.length), .int 0, .int (ni 0)]))) := c2.top hp _
  have s2' : wrF (mm_up (mm_sf g1 48 5 (.int 0)) p (.inr (6, [.ref q, .int (ni L'.length), .int 0, .int (ni 0)]))) m p 6 3 (.int 0) = some (mm_up (mm_up (mm_sf g1 48 5 (.int 0)) p (.inr (6, [.ref q, .int (ni L'.length), .int 0, .int (ni 0)]))) p (.inr (6, [.ref q, .int (ni L'.length), .int 0, .int 0]))) := wrF_o (m := m) (k := 3) (.int 0) ⟨by omega, hpm⟩ (show mm_up (mm_sf g1 48 5 (.int 0)) p (.inr (6, [.ref q, .int (ni L'.length), .int 0, .int (ni 0)])) p = .inr (6, [.ref q, .int (ni L'.length), .int 0, .int (ni 0)]) from mm_up_s) (by decide : 3 < 4)
  have c4 : PS (mm_up (mm_up (mm_sf g1 48 5 (.int 0)) p (.inr (6, [.ref q, .int (ni L'.length), .int 0, .int (ni 0)]))) p (.inr (6, [.ref q, .int (ni L'.length), .int 0, .int 0]))) := c3.top hp _
  have o4 : ∀ a, a ≠ 48 → a ≠ p → mm_up (mm_up (mm_sf g1 48 5 (.int 0)) p (.inr (6, [.ref q, .int (ni L'.length), .int 0, .int (ni 0)]))) p (.inr (6, [.ref q, .int (ni L'.length), .int 0, .int 0])) a = g1 a := fun a h1 h2 => by rw [mm_up_n h2, mm_up_n h2]; exact o2 a h1
  have o448 : mm_up (mm_up (mm_sf g1 48 5 (.int 0)) p (.inr (6, [.ref q, .int (ni L'.length), .int 0, .int (ni 0)]))) p (.inr (6, [.ref q, .int (ni L'.length), .int 0, .int 0])) 48 = mm_sf g1 48 5 (.int 0) 48 := by rw [mm_up_n (by omega), mm_up_n (by omega)]
  have e4p : mm_up (mm_up (mm_sf g1 48 5 (.int 0)) p (.inr (6, [.ref q, .int (ni L'.length), .int 0, .int (ni 0)]))) p (.inr (6, [.ref q, .int (ni L'.length), .int 0, .int 0])) p = .inr (6, [.ref q, .int (ni L'.length), .int 0, .int 0]) := mm_up_s
  have t49 : rdI (mm_up (mm_sf g1 48 5 (.int 0)) p (.inr (6, [.ref q, .int (ni L'.length), .int 0, .int (ni 0)]))) m 49 4 6 = some 0 := by
    rw [g_49_6 c3 hm, fI_c (mm_up_n (show (49 : Nat) ≠ p by omega)) 6, fI_c (o2 49 (by decide)) 6, fI_c (o1 49 (by omega) (by decide) (by decide) (by decide) (by decide)) 6, e6]
  have d480 := g_48_0 c3 hm
  generalize mm_up (mm_sf g1 48 5 (.int 0)) p (.inr (6, [.ref q, .int (ni L'.length), .int 0, .int (ni 0)])) = G1 at *
  generalize mm_up G1 p (.inr (6, [.ref q, .int (ni L'.length), .int 0, .int 0])) = G2 at *
  have f480 : fI G2 48 7 = 0 := (fI_c o448 7).trans ((fI_sf_o (by decide) _).trans ((fI_c (o1 48 (by omega) (by decide) (by decide) (by decide) (by decide)) 7).trans e7))
  have ck : ckr G2 m p 6 = true := ckr_o ⟨by omega, hpm⟩ e4p
  have e156 : G2 156 = .inl (.object "WaterReview$RuleBook", 8, .inr (.inr (.inr (.inr (rA G2 156))))) := cs_156 c4
  have sr : stR G2 m 156 5 6 0 p = some (mm_sr G2 156 0 (some p)) := by
    unfold stR
    rw [if_pos ⟨by omega, by omega⟩, e156]
    show (if mm_tys[5]? = some (.object "WaterReview$RuleBook") ∧ inb 0 8 = true ∧ ckr G2 m p 6 = true then some (mm_sr G2 156 (0 : Int32).toNatClampNeg (some p)) else none) = _
    rw [if_pos ⟨rfl, rfl, ck⟩]
    rfl
  have c5 : PS (mm_sr G2 156 0 (some p)) := ps_156 c4 _ _
  have e57 : fI (mm_sr G2 156 0 (some p)) 48 7 = 0 := (fI_sr _ _ _ _ _).trans f480
  have c6 : PS (mm_sf (mm_sr G2 156 0 (some p)) 48 7 (.int (0 + 1))) := ps_48_7 c5 _
  have e67 : fI (mm_sf (mm_sr G2 156 0 (some p)) 48 7 (.int (0 + 1))) 48 7 = 1 := fs_48_7 c5 _
  have o6 : ∀ a, a ≠ 48 → a ≠ p → a ≠ 156 → mm_sf (mm_sr G2 156 0 (some p)) 48 7 (.int (0 + 1)) a = g1 a := fun a h1 h2 h3 => by rw [mm_sf_n h1, mm_sr_n h3]; exact o4 a h1 h2
  have e6p : mm_sf (mm_sr G2 156 0 (some p)) 48 7 (.int (0 + 1)) p = .inr (6, [.ref q, .int (ni L'.length), .int 0, .int 0]) := by rw [mm_sf_n (by omega), mm_sr_n (by omega)]; exact e4p
  have e6156 : rA (mm_sf (mm_sr G2 156 0 (some p)) 48 7 (.int (0 + 1))) 156 = va_up (rA G2 156) 0 (some p) := by rw [rA_sf, is_156 c4]
  have e655 : fI (mm_sf (mm_sr G2 156 0 (some p)) 48 7 (.int (0 + 1))) 48 5 = 0 := (fI_sf_o (by decide) _).trans ((fI_sr _ _ _ _ _).trans ((fI_c o448 5).trans (fs_48_5 c1 _)))
  have runC : q_X10_rules K M h n 48 (ni N) 0 = some (0, mm_sf (mm_sr G2 156 0 (some p)) 48 7 (.int (0 + 1)), m) := by
    obtain ⟨k, hk⟩ : ∃ k, K = k + 1 := ⟨K - 1, by omega⟩
    have k1 : q_X10_takenOf K h n 48 0 0 = some (-1) := by
      unfold q_X10_takenOf
      have e2 : lp_X10_takenOf_8 K h n 48 0 0 K (-1) (-1) 0 = some (-1) := by
        rw [hk]
        conv => lhs; unfold lp_X10_takenOf_8
        rw [g_48_7 c hn, e7, Option.bind_some, if_pos (by decide)]
      rw [e2]
      rfl
    unfold q_X10_rules
    rw [if_neg (ni_pos (by omega)), g_48_5 c hn, e5, Option.bind_some, if_neg (fun z => by have := (ni_lt (by omega) (by omega)).mp z; omega), z_X10_isReview, Option.bind_some, if_neg (show ¬ mm_in 0 0 2 = 0 by decide), g_48_7 c hn, e7, Option.bind_some, if_pos (by decide), g_48_3 c hn, Option.bind_some, g_48_4 c hn, Option.bind_some, g_48_0 c hn, Option.bind_some, Option.bind_some, g_49_6 c hn, Option.bind_some, gq_48 c hn, Option.bind_some, e6, k1, Option.bind_some, Option.bind_some, z_takenNo, Option.bind_some, Option.bind_some, gq_151 c hn, Option.bind_some, f1, Option.bind_some]
    dsimp only
    rw [p_48_5 c1 hm, Option.bind_some]
    rw [s1', Option.bind_some, d480, Option.bind_some, Option.bind_some, t49, Option.bind_some, s2', Option.bind_some, g_48_6 c4 hm, Option.bind_some, g_48_7 c4 hm, f480, Option.bind_some, Option.bind_some, sr, Option.bind_some, g_48_7 c5 hm, e57, Option.bind_some, p_48_7 c5 hm, Option.bind_some, g_48_7 c6 hm, e67, Option.bind_some]
    rfl
  generalize mm_sf (mm_sr G2 156 0 (some p)) 48 7 (.int (0 + 1)) = G at *
  have oH : ∀ a, a < n → a ≠ 48 → a ≠ 151 → a ≠ 152 → a ≠ 153 → a ≠ 154 → a ≠ 156 → G a = h a := fun a h1 h2 h3 h4 h5 h6 h7 => (o6 a h2 (by omega) h7).trans (o1 a h1 h3 h4 h5 h6)
  refine ⟨G, m, p, runC, hnm, hm62, c6, JR_p (fun a ha => oH a (by omega) (by omega) (by omega) (by omega) (by omega) (by omega) (by omega)) ?_ j, ⟨?_, e67, ?_, ⟨hp, hpm, q, ff, e6p, hq, hqm, ?_, fun i s es => ?_⟩, by simpa using hL', ok'⟩, oH⟩
  · unfold JP
    rw [e655, iA_c (oH 155 (by omega) (by decide) (by decide) (by decide) (by decide) (by decide) (by decide))]
    exact ⟨⟨0, rfl, by omega⟩, rfl, hb2⟩
  · obtain ⟨f, z⟩ := z2
    exact ⟨f, (oH 2 (by omega) (by decide) (by decide) (by decide) (by decide) (by decide) (by decide)).trans z⟩
  · rw [e6156]
    unfold va_up
    rw [if_pos rfl]
  · rw [o6 q (by omega) (fun z => by rw [z, e6'] at eq; cases eq) (by omega)]
    exact eq
  · obtain ⟨r', x1, x2⟩ := er i s es
    refine ⟨r', x1, ?_⟩
    obtain ⟨y1, y2, u', y3, y4⟩ := x2
    have ner : r' ≠ p := fun z => by rw [z, e6'] at y3; cases y3
    refine ⟨y1, y2, u', (o6 r' (by omega) ner (by omega)).trans y3, y4.imp id (fun ⟨z1, z2, z3, f, z4, z5⟩ => ⟨z1, z2, z3, f, (o6 u' (by omega) (fun z => by rw [z, e6'] at z4; cases z4) (by omega)).trans z4, z5⟩)⟩
end RULT

/-! ===== the calls that read: beside ===== -/
section CALLS2
variable {K n : Nat} {h : mm_H}
def rdV : Option Nat → Int32
  | none => -1
  | some _ => 0
/-- a reading: the class first, the model on what it leaves -/
theorem z_beside10 (hK : 7000 ≤ K) (c : PS h) (hn : 208 ≤ n) (T : TXT h) (j : JR h) (jn : JN h) (jk : JK h n) {N T0 m7 M : Nat} (e5 : fI h 48 5 = ni T0) (hT0 : T0 ≤ 900) (hN : N ≤ T0) (e7 : fI h 48 7 = ni m7) (hm7 : m7 ≤ 8) (hM : 30 < M ∨ N < M) : ∃ v g m w, q_X10_beside K M h n 48 (ni N) = some (v, g, m) ∧ q_X11_beside K g m 159 (ni N) = some (v, w) ∧ n ≤ m ∧ PS g ∧ PS w ∧ JR w ∧ JN w ∧ JK w m ∧ (∀ a, a < 48 → g a = h a ∧ w a = h a) ∧ fI w 48 5 = 0 := by
  have hK3 : 3000 ≤ K := by omega
  obtain ⟨⟨D, eD, hD⟩, eD', -⟩ := id j.1
  obtain ⟨-, e26, eb⟩ := id j.2.2.2.2.2.2
  obtain ⟨-, e24, ⟨m10, e10, hm10⟩, e25, e31, e30, e56⟩ := id jn
  obtain ⟨j1, ⟨M7, j2, j3, j4⟩, j5, ⟨M10, j6, j7, j8⟩⟩ := id jk
  obtain ⟨u, l, L, N0, B, k1, k2, k3, bc, hB, hL, hN0, ok, sb⟩ := z_base hK3 c hn jk e24 (ni (D / 500)) (fI h 49 6) e7 hm7
  obtain ⟨g1, m, r, f1, R1⟩ := z_read (K := K) (b := fun k => bT (iA h 198 k)) (N := N) hK3 c hn T (by omega) (fun k hk => ⟨(eb k).trans (bT_and _), bT_lt _⟩) (L := L) (by omega) bc hM
  obtain ⟨c1, hnm, hm62, o1, yl, yr⟩ := R1
  have hm : 208 ≤ m := by omega
  have c0 : PS (mm_sf g1 48 8 (va_rf r)) := ps_48_8 c1 _
  have c2 : PS (mm_sf (mm_sf g1 48 8 (va_rf r)) 48 5 (.int 0)) := ps_48_5 c0 _
  have o2 : ∀ a, a ≠ 48 → mm_sf (mm_sf g1 48 8 (va_rf r)) 48 5 (.int 0) a = g1 a := fun a q => by rw [mm_sf_n q, mm_sf_n q]
  have r8 : fR (mm_sf (mm_sf g1 48 8 (va_rf r)) 48 5 (.int 0)) 48 8 = r := (fR_sf_o (by decide) _).trans (fs_48_8 c1 _)
  have r5 : fI (mm_sf (mm_sf g1 48 8 (va_rf r)) 48 5 (.int 0)) 48 5 = 0 := fs_48_5 c0 _
  have f0 : ∀ k, k ≠ 5 → k ≠ 8 → fI (mm_sf (mm_sf g1 48 8 (va_rf r)) 48 5 (.int 0)) 48 k = fI h 48 k ∧ fR (mm_sf (mm_sf g1 48 8 (va_rf r)) 48 5 (.int 0)) 48 k = fR h 48 k := fun k h1 h2 => ⟨(fI_sf_o h1 _).trans ((fI_sf_o h2 _).trans (fI_c (o1 48 (by omega) (by decide) (by decide) (by decide) (by decide)) k)), (fR_sf_o h1 _).trans ((fR_sf_o h2 _).trans (fR_c (o1 48 (by omega) (by decide) (by decide) (by decide) (by decide)) k))⟩
  have d500 : fI h 49 6 / 500 = ni (D / 500) := by rw [eD]; exact ni_div (a := D) (b := 500) (by omega) (by omega)
  have d100 : fI h 49 6 / 100 / 5 = ni (D / 500) := by
    rw [eD, show (ni D / 100 : Int32) = ni (D / 100) from ni_div (a := D) (b := 100) (by omega) (by omega), show (ni (D / 100) / 5 : Int32) = ni (D / 100 / 5) from ni_div (a := D / 100) (b := 5) (by omega) (by omega), Nat.div_div_eq_div_mul]
  -- the model's reading, on any heap that agrees where it looks
  have mod : ∀ H : mm_H, PS H → (∀ a, 158 ≤ a → a ≤ 207 → H a = h a) → (H 49 = h 49) → ∃ v w, q_X11_reads K H m 159 (ni N) u = some (v, w) ∧ FXX H w ∧ fI w 159 26 = 0 ∧ (∀ p, txS (fun k => bT (iA h 198 k)) N L = .inl p → v = 0 ∧ fI w 159 30 = ni p) ∧ (∀ L', txS (fun k => bT (iA h 198 k)) N L = .inr L' → v = 1 ∧ fI w 159 30 = -1 ∧ ∃ m', m' ≤ N0 + 720 ∧ setR w 13 L' m') ∧ ∀ X : Option (Int32 × mm_H), X = q_X11_beside K H m 159 (ni N) → X = (ckz v).bind fun _ => (wrF w m 159 10 31 (.int v)).bind fun h19 => (rdI h19 m 159 10 31).bind fun v21 => if v21 = 0 then some ((-1), h19) else (ckq h19 m 159 10).bind fun _ => (q_X11_copies K h19 m 159 13 8).bind fun v25 => some (0, v25) := by
    intro H cH oH o49
    have sbH : (u = -1 ∧ L = []) ∨ ∃ z, u = ni z ∧ z < 13 ∧ setR H z L N0 := by
      rcases sb with q | ⟨z, q1, q2, q3⟩
      · exact Or.inl q
      · exact Or.inr ⟨z, q1, q2, setR_c (fun a h1 h2 => oH a (by omega) (by omega)) q3⟩
    obtain ⟨v, w, f, x1, x2, x3, x4⟩ := z_reads (K := K) (n := m) (N := N) (h := H) hK cH hm (by omega) (L := L) (by omega) (N0 := N0) (by omega) sbH
    have e198 : (fun k => bT (iA H 198 k)) = fun k => bT (iA h 198 k) := by rw [iA_c (oH 198 (by omega) (by omega))]
    rw [e198] at x3 x4
    refine ⟨v, w, f, x1, x2, x3, x4, fun X eX => ?_⟩
    have f159 : ∀ k, fI H 159 k = fI h 159 k := fun k => fI_c (oH 159 (by omega) (by omega)) k
    have inf : lp_X11_inForce_5 K H m 159 (ni (D / 500)) (fI h 49 6) K (-1) 0 = some u := (inF_c (K := K) c cH hn hm (f159 24) (iA_c (oH 179 (by omega) (by omega))) (iA_c (oH 180 (by omega) (by omega))) _ _ K _ _).trans k2
    rw [eX]
    unfold q_X11_beside
    rw [g_159_26 cH hm, f159, e26, e5, Option.bind_some, z_X11_isIn, mm_in_ok hN (by omega), Option.bind_some, if_neg (by decide), g_159_0 cH hm, f159, eD', Option.bind_some, Option.bind_some, gq_159 cH hm, Option.bind_some, d100]
    unfold q_X11_inForce
    rw [inf, Option.bind_some, Option.bind_some, Option.bind_some, f, Option.bind_some]
  -- what the class does before
  have pre : q_X10_beside K M h n 48 (ni N) = some (rdV r, mm_sf (mm_sf g1 48 8 (va_rf r)) 48 5 (.int 0), m) := by
    unfold q_X10_beside
    rw [if_neg (ni_pos (by omega)), g_48_5 c hn, e5, Option.bind_some, if_pos ((ni_le (by omega) (by omega)).mpr hN), g_48_0 c hn, Option.bind_some, Option.bind_some, g_49_6 c hn, Option.bind_some, Option.bind_some, Option.bind_some, g_49_6 c hn, Option.bind_some, gq_48 c hn, Option.bind_some, d500, k1, Option.bind_some, g_48_3 c hn, Option.bind_some, g_48_4 c hn, Option.bind_some, Option.bind_some, k3, Option.bind_some, Option.bind_some, gq_151 c hn, Option.bind_some, f1, Option.bind_some]
    dsimp only
    rw [p_48_8 c1 hm, Option.bind_some, p_48_5 c0 hm, Option.bind_some, g_48_8 c2 hm, r8, Option.bind_some]
    cases r <;> rfl
  cases et : txS (fun k => bT (iA h 198 k)) N L with
  | inl p =>
    obtain ⟨hp, rfl, f5⟩ := yl p et
    have oH : ∀ a, 158 ≤ a → a ≤ 207 → mm_sf (mm_sf g1 48 8 (va_rf none)) 48 5 (.int 0) a = h a := fun a h1 h2 => (o2 a (by omega)).trans (o1 a (by omega) (by omega) (by omega) (by omega) (by omega))
    obtain ⟨v, w, f, fx, w26, xl, -, run⟩ := mod _ c2 oH ((o2 49 (by decide)).trans (o1 49 (by omega) (by decide) (by decide) (by decide) (by decide)))
    obtain ⟨rfl, w30⟩ := xl p et
    have cw := fx.1
    have c9 : PS (mm_sf w 159 31 (.int 0)) := ps_159_31 cw _
    have e31' : fI (mm_sf w 159 31 (.int 0)) 159 31 = 0 := fs_159_31 cw _
    have runM := (run _ rfl).trans (show _ = some ((-1 : Int32), mm_sf w 159 31 (.int 0)) by
      rw [show ckz 0 = some () from rfl, Option.bind_some, p_159_31 cw hm, Option.bind_some, g_159_31 c9 hm, e31', Option.bind_some, if_pos rfl])
    have oZ : ∀ a, a ≠ 159 → mm_sf w 159 31 (.int 0) a = w a := fun a q => mm_sf_n q
    have fZ : ∀ k, k ≠ 31 → fI (mm_sf w 159 31 (.int 0)) 159 k = fI w 159 k := fun k q => fI_sf_o q _
    generalize mm_sf w 159 31 (.int 0) = Z at *
    generalize mm_sf (mm_sf g1 48 8 (va_rf none)) 48 5 (.int 0) = G at *
    have ow : ∀ a, a < n → a ≠ 48 → a ≠ 151 → a ≠ 152 → a ≠ 153 → a ≠ 154 → a ≠ 159 → a ≠ 178 → a ≠ 181 → a < 182 ∨ (197 < a ∧ a ≠ 199) → Z a = h a := fun a h1 h2 h3 h4 h5 h6 h7 h8 h9 ha => (oZ a h7).trans ((fx.2.1 a h7 h8 h9 ha).trans ((o2 a h2).trans (o1 a h1 h3 h4 h5 h6)))
    have e48 : Z 48 = G 48 := (oZ 48 (by decide)).trans (fx.2.1 48 (by decide) (by decide) (by decide) (by omega))
    have f48 : ∀ k, k ≠ 5 → k ≠ 8 → fI Z 48 k = fI h 48 k ∧ fR Z 48 k = fR h 48 k := fun k h1 h2 => ⟨(fI_c e48 k).trans (f0 k h1 h2).1, (fR_c e48 k).trans (f0 k h1 h2).2⟩
    have w5 : fI Z 48 5 = 0 := (fI_c e48 5).trans r5
    have z8 : fR Z 48 8 = none := (fR_c e48 8).trans r8
    have fw : ∀ k, k < 26 ∨ (31 < k ∧ k ≠ 54 ∧ k ≠ 55) → fI Z 159 k = fI h 159 k := fun k hk => (fZ k (by omega)).trans ((fx.2.2.1 k (by omega)).1.trans (fI_c (oH 159 (by omega) (by omega)) k))
    have bo : ∀ (p z B : Nat) (L : List Stm) (a b : Nat), z < 13 → B ≤ 9 → bothR h n p z B L a b → bothR Z m p z B L a b := fun p z B L a b h1 h2 R => by
      obtain ⟨q1, q2, q3, N', q4, q5⟩ := R
      exact ⟨bookC_up q1 hnm (fun a h1 h2 => ow a h2 (by omega) (by omega) (by omega) (by omega) (by omega) (by omega) (by omega) (by omega) (by omega)), q2, q3, N', q4, setR_c (fun a h1 h2 => oZ a (by omega)) (setR_fx fx h1 (by omega) (by omega) (setR_c (fun a h1 h2 => oH a (by omega) (by omega)) q5))⟩
    refine ⟨-1, G, m, Z, pre, runM, hnm, c2, c9, JR_rd (fun a ha => ow a (by omega) (by omega) (by omega) (by omega) (by omega) (by omega) (by omega) (by omega) (by omega) (by omega)) (fun k hk => fw k (by omega)) w5 ((fZ 26 (by decide)).trans w26) j, ?_, ?_, fun a ha => ⟨(o2 a (by omega)).trans (o1 a (by omega) (by omega) (by omega) (by omega) (by omega)), ow a (by omega) (by omega) (by omega) (by omega) (by omega) (by omega) (by omega) (by omega) (by omega) (by omega)⟩, w5⟩
    · refine ⟨⟨m7, (f48 7 (by decide) (by decide)).1.trans e7, by omega⟩, by rw [fw 24 (by omega), (f48 7 (by decide) (by decide)).1]; exact e24, ⟨m10, (f48 10 (by decide) (by decide)).1.trans e10, hm10⟩, by rw [fw 25 (by omega), (f48 10 (by decide) (by decide)).1]; exact e25, by rw [e31', z8], ?_, by rw [fw 56 (by omega)]; exact e56⟩
      rw [fZ 30 (by decide), w30, fI_c ((oZ 151 (by decide)).trans (fx.2.1 151 (by decide) (by decide) (by decide) (by omega))) 5, fI_c (o2 151 (by decide)) 5, f5]
    · refine ⟨by rw [ow 2 (by omega) (by decide) (by decide) (by decide) (by decide) (by decide) (by decide) (by decide) (by decide) (by omega)]; exact j1, ⟨M7, (f48 7 (by decide) (by decide)).1.trans j2, j3, fun i hi => ?_⟩, fun p' hp' => ?_, ⟨M10, (f48 10 (by decide) (by decide)).1.trans j6, j7, fun i hi => ?_⟩⟩
      · obtain ⟨p', L', a', b', q1, q2, q3, q4, q5⟩ := j4 i hi
        exact ⟨p', L', a', b', by rw [rA_c (ow 156 (by omega) (by decide) (by decide) (by decide) (by decide) (by decide) (by decide) (by decide) (by decide) (by omega))]; exact q1, bo _ _ _ _ _ _ (by omega) (by omega) q2, by rw [iA_c (ow 179 (by omega) (by decide) (by decide) (by decide) (by decide) (by decide) (by decide) (by decide) (by decide) (by omega))]; exact q3, by rw [iA_c (ow 180 (by omega) (by decide) (by decide) (by decide) (by decide) (by decide) (by decide) (by decide) (by decide) (by omega))]; exact q4, q5⟩
      · rw [z8] at hp'
        cases hp'
      · obtain ⟨p', L', a', b', q1, q2⟩ := j8 i hi
        exact ⟨p', L', a', b', by rw [rA_c (ow 157 (by omega) (by decide) (by decide) (by decide) (by decide) (by decide) (by decide) (by decide) (by decide) (by omega))]; exact q1, bo _ _ _ _ _ _ (by omega) (by omega) q2⟩
  | inr L' =>
    obtain ⟨f5, p, rfl, hpn, bk⟩ := yr L' et
    obtain ⟨hL', ok'⟩ := txS_ok (b := fun k => bT (iA h 198 k)) (N := N) (by omega) ok et
    have oH : ∀ a, 158 ≤ a → a ≤ 207 → mm_sf (mm_sf g1 48 8 (va_rf (some p))) 48 5 (.int 0) a = h a := fun a h1 h2 => (o2 a (by omega)).trans (o1 a (by omega) (by omega) (by omega) (by omega) (by omega))
    obtain ⟨v, w, f, fx, w26, -, xr, run⟩ := mod _ c2 oH ((o2 49 (by decide)).trans (o1 49 (by omega) (by decide) (by decide) (by decide) (by decide)))
    obtain ⟨rfl, w30, m', hm', st⟩ := xr L' et
    have cw := fx.1
    have c9 : PS (mm_sf w 159 31 (.int 1)) := ps_159_31 cw _
    have e31' : fI (mm_sf w 159 31 (.int 1)) 159 31 = 1 := fs_159_31 cw _
    have oY : ∀ a, a ≠ 159 → mm_sf w 159 31 (.int 1) a = w a := fun a q => mm_sf_n q
    have fY : ∀ k, k ≠ 31 → fI (mm_sf w 159 31 (.int 1)) 159 k = fI w 159 k := fun k q => fI_sf_o q _
    have stY : setR (mm_sf w 159 31 (.int 1)) 13 L' m' := setR_c (fun a h1 h2 => oY a (by omega)) st
    obtain ⟨Z, k5, cZ, cp⟩ := z_copies (K := K) hK c9 hm (z := 13) (z' := 8) (len := L'.length) (N := m') (by omega) (by omega) (by omega) (by omega) (by omega) stY.1 stY.2.1
    have k5' : q_X11_copies K (mm_sf w 159 31 (.int 1)) m 159 13 8 = some Z := k5
    have runM := (run _ rfl).trans (show _ = some ((0 : Int32), Z) by
      rw [show ckz 1 = some () from rfl, Option.bind_some, p_159_31 cw hm, Option.bind_some, g_159_31 c9 hm, e31', Option.bind_some, if_neg (by decide), gq_159 c9 hm, Option.bind_some, k5', Option.bind_some])
    have st8 : setR Z 8 L' m' := setR_cp (by omega) (by omega) (by omega) (by omega) cp stY
    generalize mm_sf w 159 31 (.int 1) = Y at *
    generalize mm_sf (mm_sf g1 48 8 (va_rf (some p))) 48 5 (.int 0) = G at *
    have zG : ∀ a, a < 158 ∨ (160 ≤ a ∧ a ≤ 177) ∨ a = 158 ∨ a = 179 ∨ a = 180 ∨ (197 < a ∧ a ≠ 199) → Z a = G a := fun a ha => (cp.1 a (by omega)).trans ((oY a (by omega)).trans (fx.2.1 a (by omega) (by omega) (by omega) (by omega)))
    have ow : ∀ a, a < n → a ≠ 48 → a ≠ 151 → a ≠ 152 → a ≠ 153 → a ≠ 154 → a < 158 ∨ (160 ≤ a ∧ a ≤ 177) ∨ a = 158 ∨ a = 179 ∨ a = 180 ∨ (197 < a ∧ a ≠ 199) → Z a = h a := fun a h1 h2 h3 h4 h5 h6 ha => (zG a ha).trans ((o2 a h2).trans (o1 a h1 h3 h4 h5 h6))
    have e48 : Z 48 = G 48 := zG 48 (by omega)
    have f48 : ∀ k, k ≠ 5 → k ≠ 8 → fI Z 48 k = fI h 48 k ∧ fR Z 48 k = fR h 48 k := fun k h1 h2 => ⟨(fI_c e48 k).trans (f0 k h1 h2).1, (fR_c e48 k).trans (f0 k h1 h2).2⟩
    have w5 : fI Z 48 5 = 0 := (fI_c e48 5).trans r5
    have z8 : fR Z 48 8 = some p := (fR_c e48 8).trans r8
    have eZ : Z 159 = Y 159 := cp.1 159 (by omega)
    have z31 : fI Z 159 31 = 1 := (fI_c eZ 31).trans e31'
    have fw : ∀ k, k < 26 ∨ (31 < k ∧ k ≠ 54 ∧ k ≠ 55) → fI Z 159 k = fI h 159 k := fun k hk => (fI_c eZ k).trans ((fY k (by omega)).trans ((fx.2.2.1 k (by omega)).1.trans (fI_c (oH 159 (by omega) (by omega)) k)))
    have bo : ∀ (p z B : Nat) (L : List Stm) (a b : Nat), z < 13 → z ≠ 8 → B ≤ 9 → bothR h n p z B L a b → bothR Z m p z B L a b := fun p z B L a b h1 h0 h2 R => by
      obtain ⟨q1, q2, q3, N', q4, q5⟩ := R
      exact ⟨bookC_up q1 hnm (fun a h1 h2 => ow a h2 (by omega) (by omega) (by omega) (by omega) (by omega) (by omega)), q2, q3, N', q4, setR_ot (w := z) (z' := 8) (by omega) h0 (by omega) (by omega) (by omega) (by omega) cp (setR_c (fun a h1 h2 => oY a (by omega)) (setR_fx fx h1 (by omega) (by omega) (setR_c (fun a h1 h2 => oH a (by omega) (by omega)) q5)))⟩
    refine ⟨0, G, m, Z, pre, runM, hnm, c2, cZ, JR_rd (fun a ha => ow a (by omega) (by omega) (by omega) (by omega) (by omega) (by omega) (by omega)) (fun k hk => fw k (by omega)) w5 ((fI_c eZ 26).trans ((fY 26 (by decide)).trans w26)) j, ?_, ?_, fun a ha => ⟨(o2 a (by omega)).trans (o1 a (by omega) (by omega) (by omega) (by omega) (by omega)), ow a (by omega) (by omega) (by omega) (by omega) (by omega) (by omega) (by omega)⟩, w5⟩
    · refine ⟨⟨m7, (f48 7 (by decide) (by decide)).1.trans e7, by omega⟩, by rw [fw 24 (by omega), (f48 7 (by decide) (by decide)).1]; exact e24, ⟨m10, (f48 10 (by decide) (by decide)).1.trans e10, hm10⟩, by rw [fw 25 (by omega), (f48 10 (by decide) (by decide)).1]; exact e25, by rw [z31, z8], ?_, by rw [fw 56 (by omega)]; exact e56⟩
      rw [fI_c eZ 30, fY 30 (by decide), w30, fI_c (zG 151 (by omega)) 5, fI_c (o2 151 (by decide)) 5, f5]
    · refine ⟨by rw [ow 2 (by omega) (by decide) (by decide) (by decide) (by decide) (by decide) (by omega)]; exact j1, ⟨M7, (f48 7 (by decide) (by decide)).1.trans j2, j3, fun i hi => ?_⟩, fun p' hp' => ?_, ⟨M10, (f48 10 (by decide) (by decide)).1.trans j6, j7, fun i hi => ?_⟩⟩
      · obtain ⟨p', L'', a', b', q1, q2, q3, q4, q5⟩ := j4 i hi
        exact ⟨p', L'', a', b', by rw [rA_c (ow 156 (by omega) (by decide) (by decide) (by decide) (by decide) (by decide) (by omega))]; exact q1, bo _ _ _ _ _ _ (by omega) (by omega) (by omega) q2, by rw [iA_c (ow 179 (by omega) (by decide) (by decide) (by decide) (by decide) (by decide) (by omega))]; exact q3, by rw [iA_c (ow 180 (by omega) (by decide) (by decide) (by decide) (by decide) (by decide) (by omega))]; exact q4, q5⟩
      · rw [z8] at hp'
        cases hp'
        exact ⟨L', 0, 0, bookC_up bk (Nat.le_refl _) (fun a h1 h2 => (zG a (by omega)).trans (o2 a (by omega))), by omega, ok', m', by omega, st8⟩
      · obtain ⟨p', L'', a', b', q1, q2⟩ := j8 i hi
        exact ⟨p', L'', a', b', by rw [rA_c (ow 157 (by omega) (by decide) (by decide) (by decide) (by decide) (by decide) (by omega))]; exact q1, bo _ _ _ _ _ _ (by omega) (by omega) (by omega) q2⟩
end CALLS2

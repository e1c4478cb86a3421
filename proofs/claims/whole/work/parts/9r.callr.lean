/-! ===== the calls that read ===== -/
section CALLR
variable {K n : Nat} {h : mm_H}
theorem inF_c {g : mm_H} {m : Nat} (c : PS h) (cg : PS g) (hn : 208 ≤ n) (hm : 208 ≤ m) (e24 : fI g 159 24 = fI h 159 24) (e179 : iA g 179 = iA h 179) (e180 : iA g 180 = iA h 180) (r d : Int32) : ∀ (k : Nat) (v i : Int32), lp_X11_inForce_5 K g m 159 r d k v i = lp_X11_inForce_5 K h n 159 r d k v i
  | 0, _, _ => rfl
  | k + 1, v, i => by
    unfold lp_X11_inForce_5
    simp only [g_159_24 c hn, g_159_24 cg hm, g_159_34 c hn, g_159_34 cg hm, g_159_33 c hn, g_159_33 cg hm, Option.bind_some, ge_180 c hn, ge_180 cg hm, ge_179 c hn, ge_179 cg hm, e24, e179, e180, inF_c c cg hn hm e24 e179 e180 r d k]
theorem SCR_n {e0 : mm_E} {m : Nat} {l3 : Int32} {x : Nat → Int32} (hn : 208 ≤ n) (hm : 208 ≤ m) (s : SCR e0 n l3 x) : SCR e0 m l3 x := fun g q => by
  have e : ∀ i, ldI g m 0 i = ldI g n 0 i := fun i => by
    unfold ldI
    rw [if_pos (show 0 < m by omega), if_pos (show 0 < n by omega)]
  simp only [e]
  exact s g q
/-- the set in force, with what it holds -/
theorem z_base (hK : 3000 ≤ K) (c : PS h) (hn : 208 ≤ n) (j : JK h n) (jn : fI h 159 24 = fI h 48 7) (r d : Int32) {m7 : Nat} (e7 : fI h 48 7 = ni m7) (hm7 : m7 ≤ 8) : ∃ u l L N0 B, q_X10_takenOf K h n 48 r d = some u ∧ lp_X11_inForce_5 K h n 159 r d K (-1) 0 = some u ∧ q_X10_takenAt K h n 48 u = some l ∧ baC h n l L ∧ B ≤ m7 ∧ L.length ≤ 30 * B ∧ N0 ≤ 720 * B ∧ (∀ s, s ∈ L → sOk s) ∧ ((u = -1 ∧ L = []) ∨ ∃ z, u = ni z ∧ z < 13 ∧ setR h z L N0) := by
  obtain ⟨-, ⟨m, hm, hm8, H⟩, -⟩ := id j
  have em : m = m7 := (ni_inj (by omega) (by omega)).mp (hm.symm.trans e7)
  subst em
  obtain ⟨u, e1, e2, e3⟩ := z_force (K := K) c hn j jn r d hm hm8 K 0 (-1) (-1) (Nat.zero_le _) (by omega) (Or.inl ⟨rfl, rfl⟩)
  have e1' : q_X10_takenOf K h n 48 r d = some u := by
    unfold q_X10_takenOf
    rw [show lp_X10_takenOf_8 K h n 48 r d K (-1) (-1) 0 = some u from e1]
    rfl
  rcases e3 with rfl | ⟨w, hw, rfl⟩
  · exact ⟨-1, none, [], 0, 0, e1', e2, z_takenNo, Or.inl ⟨rfl, rfl⟩, Nat.zero_le _, Nat.le_refl _, Nat.le_refl _, (fun s q => nomatch q), Or.inl ⟨rfl, rfl⟩⟩
  · obtain ⟨p, L, a, b, q1, q2, -⟩ := H w hw
    obtain ⟨bk, hL, ok, N0, hN0, st⟩ := q2
    exact ⟨ni w, some p, L, N0, w + 1, e1', e2, by rw [z_takenAt c hn j hm hm8 hw, q1], Or.inr ⟨p, a, b, rfl, bk⟩, by omega, hL, hN0, ok, Or.inr ⟨w, rfl, by omega, st⟩⟩
theorem mm_in_ok {N T : Nat} (hN : N ≤ T) (hT : T < 2147483648) : mm_in (ni N) 0 (ni T) = 1 := by
  unfold mm_in
  rw [if_neg (ni_pos (by omega)), if_neg (fun z => by have := (ni_lt (by omega) (by omega)).mp z; omega)]
theorem JR_rd {w : mm_H} (ow : ∀ a, (49 ≤ a ∧ a < 73) ∨ a = 158 ∨ (160 ≤ a ∧ a ≤ 177) ∨ a = 207 ∨ a = 155 ∨ a = 198 → w a = h a) (fw : ∀ k, k ≤ 10 → fI w 159 k = fI h 159 k) (w5 : fI w 48 5 = 0) (w26 : fI w 159 26 = 0) (j : JR h) : JR w := by
  obtain ⟨-, -, eb⟩ := id j.2.2.2.2.2.2
  refine JR_6 (fun a ha => ow a (by omega)) fw j ⟨⟨0, w5, by omega⟩, by rw [w5, w26], fun i => ?_⟩
  rw [iA_c (ow 155 (by omega)), iA_c (ow 198 (by omega))]
  exact eb i
/-- a reading: the class first, the model on what it leaves -/
theorem z_rules9 (hK : 7000 ≤ K) (c : PS h) (hn : 208 ≤ n) (T : TXT h) (j : JR h) (jn : JN h) (jk : JK h n) {N R T0 m7 M : Nat} (e5 : fI h 48 5 = ni T0) (hT0 : T0 ≤ 900) (hN : N ≤ T0) (hR : R ≤ 2) (e7 : fI h 48 7 = ni m7) (hm7 : m7 < 8) (hM : 30 < M ∨ N < M) : ∃ v g m w, q_X10_rules K M h n 48 (ni N) (ni R) = some (v, g, m) ∧ q_X11_rules K g m 159 (ni N) (ni R) = some (v, w) ∧ n ≤ m ∧ PS g ∧ PS w ∧ JR w ∧ JN w ∧ JK w m ∧ (∀ a, a < 48 → g a = h a ∧ w a = h a) ∧ fI w 48 5 = 0 := by
  have hK3 : 3000 ≤ K := by omega
  obtain ⟨⟨D, eD, hD⟩, eD', -⟩ := id j.1
  obtain ⟨-, e26, eb⟩ := id j.2.2.2.2.2.2
  obtain ⟨-, e24, ⟨m10, e10, hm10⟩, e25, e31, e30, e56⟩ := id jn
  obtain ⟨j1, ⟨M7, j2, j3, j4⟩, j5, ⟨M10, j6, j7, j8⟩⟩ := id jk
  obtain ⟨u, l, L, N0, B, k1, k2, k3, bc, hB, hL, hN0, ok, sb⟩ := z_base hK3 c hn jk e24 (ni R) (fI h 49 6) e7 (by omega)
  obtain ⟨g1, m, r, f1, R1⟩ := z_read (K := K) (b := fun k => bT (iA h 198 k)) (N := N) hK3 c hn T (by omega) (fun k hk => ⟨(eb k).trans (bT_and _), bT_lt _⟩) (L := L) (by omega) bc hM
  obtain ⟨c1, hnm, hm62, o1, yl, yr⟩ := R1
  have hm : 208 ≤ m := by omega
  have c2 : PS (mm_sf g1 48 5 (.int 0)) := ps_48_5 c1 _
  have o2 : ∀ a, a ≠ 48 → mm_sf g1 48 5 (.int 0) a = g1 a := fun a q => mm_sf_n q
  -- the model's reading, on any heap that agrees where it looks
  have mod : ∀ H : mm_H, PS H → (∀ a, 158 ≤ a → a ≤ 207 → H a = h a) → (H 49 = h 49) → ∃ v w, q_X11_reads K H m 159 (ni N) u = some (v, w) ∧ FXX H w ∧ fI w 159 26 = 0 ∧ (∀ p, txS (fun k => bT (iA h 198 k)) N L = .inl p → v = 0 ∧ fI w 159 30 = ni p) ∧ (∀ L', txS (fun k => bT (iA h 198 k)) N L = .inr L' → v = 1 ∧ fI w 159 30 = -1 ∧ ∃ m', m' ≤ N0 + 720 ∧ setR w 13 L' m') ∧ ∀ X : Option (Int32 × mm_H), X = q_X11_rules K H m 159 (ni N) (ni R) → X = if v = 0 then some ((-1), w) else (rdI w m 159 10 24).bind fun v19 => (ckq w m 159 10).bind fun _ => (q_X11_copies K w m 159 13 v19).bind fun v23 => (rdR v23 m 159 10 33).bind fun v25 => (rdI v23 m 159 10 24).bind fun v27 => v25.bind fun a29 => (stI v23 m a29 v27 (ni R)).bind fun h31 => (rdR h31 m 159 10 34).bind fun v33 => (rdI h31 m 159 10 24).bind fun v35 => (rdI h31 m 159 10 0).bind fun v37 => v33.bind fun a39 => (stI h31 m a39 v35 v37).bind fun h41 => (rdI h41 m 159 10 24).bind fun v43 => (wrF h41 m 159 10 24 (.int (v43 + 1))).bind fun h45 => (rdI h45 m 159 10 24).bind fun v47 => some (v47 - 1, h45) := by
    intro H cH oH o49
    have sbH : (u = -1 ∧ L = []) ∨ ∃ z, u = ni z ∧ z < 13 ∧ setR H z L N0 := by
      rcases sb with q | ⟨z, q1, q2, q3⟩
      · exact Or.inl q
      · exact Or.inr ⟨z, q1, q2, setR_c (fun a h1 h2 => oH a (by omega) (by omega)) q3⟩
    obtain ⟨v, w, f, x1, x2, x3, x4⟩ := z_reads (K := K) (n := m) (N := N) (h := H) hK cH hm (by omega) (L := L) (by omega) (N0 := N0) (by omega) sbH
    have e198 : (fun k => bT (iA H 198 k)) = fun k => bT (iA h 198 k) := by rw [iA_c (oH 198 (by omega) (by omega))]
    rw [e198] at x3 x4
    refine ⟨v, w, f, x1, x2, x3, x4, fun X eX => ?_⟩
    have f159 : ∀ k, fI H 159 k = fI h 159 k := fun k => fI_c (oH 159 (by omega) (by omega)) k
    have inf : lp_X11_inForce_5 K H m 159 (ni R) (fI h 49 6) K (-1) 0 = some u := (inF_c (K := K) c cH hn hm (f159 24) (iA_c (oH 179 (by omega) (by omega))) (iA_c (oH 180 (by omega) (by omega))) _ _ K _ _).trans k2
    rw [eX]
    unfold q_X11_rules
    rw [g_159_26 cH hm, f159, e26, e5, Option.bind_some, z_X11_isIn, mm_in_ok hN (by omega), Option.bind_some, if_neg (by decide), z_X11_isReview, show mm_in (ni R) 0 2 = 1 from mm_in_ok (T := 2) hR (by omega), Option.bind_some, if_neg (by decide), g_159_24 cH hm, f159, e24, e7, Option.bind_some, if_neg (show ¬ ni m7 = (8 : Int32) from fun z => by have := (ni_inj (b := 8) (by omega) (by omega)).mp z; omega), g_159_0 cH hm, f159, eD', Option.bind_some, gq_159 cH hm, Option.bind_some]
    unfold q_X11_inForce
    rw [inf, Option.bind_some, Option.bind_some, Option.bind_some, f, Option.bind_some]
  -- what the class does before
  have pre : ∀ X, (X = match r with | none => some ((-1 : Int32), mm_sf g1 48 5 (.int 0), m) | some a36 => (wrF (mm_sf g1 48 5 (.int 0)) m a36 6 2 (.int (ni R))).bind fun h37 => (rdR h37 m 48 9 0).bind fun v39 => v39.bind fun a41 => (rdI h37 m a41 4 6).bind fun v43 => (wrF h37 m a36 6 3 (.int v43)).bind fun h45 => (rdR h45 m 48 9 6).bind fun v47 => (rdI h45 m 48 9 7).bind fun v49 => v47.bind fun a51 => (stR h45 m a51 5 6 v49 a36).bind fun h53 => (rdI h53 m 48 9 7).bind fun v55 => (wrF h53 m 48 9 7 (.int (v55 + 1))).bind fun h57 => (rdI h57 m 48 9 7).bind fun v59 => some (v59 - 1, h57, m)) → q_X10_rules K M h n 48 (ni N) (ni R) = X := fun X eX => by
    unfold q_X10_rules
    rw [if_neg (ni_pos (by omega)), g_48_5 c hn, e5, Option.bind_some, if_neg (fun z => by have := (ni_lt (by omega) (by omega)).mp z; omega), z_X10_isReview, show mm_in (ni R) 0 2 = 1 from mm_in_ok (T := 2) hR (by omega), Option.bind_some, if_neg (by decide), g_48_7 c hn, e7, Option.bind_some, if_pos (show ni m7 < (8 : Int32) from (ni_lt (b := 8) (by omega) (by omega)).mpr hm7), g_48_3 c hn, Option.bind_some, g_48_4 c hn, Option.bind_some, g_48_0 c hn, Option.bind_some, Option.bind_some, g_49_6 c hn, Option.bind_some, gq_48 c hn, Option.bind_some, k1, Option.bind_some, Option.bind_some, k3, Option.bind_some, Option.bind_some, gq_151 c hn, Option.bind_some, f1, Option.bind_some]
    dsimp only
    rw [p_48_5 c1 hm, Option.bind_some, eX]
    cases r <;> rfl
  cases et : txS (fun k => bT (iA h 198 k)) N L with
  | inl p =>
    obtain ⟨hp, rfl, f5⟩ := yl p et
    have oH : ∀ a, 158 ≤ a → a ≤ 207 → mm_sf g1 48 5 (.int 0) a = h a := fun a h1 h2 => (o2 a (by omega)).trans (o1 a (by omega) (by omega) (by omega) (by omega) (by omega))
    obtain ⟨v, w, f, fx, w26, xl, -, run⟩ := mod _ c2 oH ((o2 49 (by decide)).trans (o1 49 (by omega) (by decide) (by decide) (by decide) (by decide)))
    obtain ⟨rfl, w30⟩ := xl p et
    have ow : ∀ a, a < n → a ≠ 48 → a ≠ 151 → a ≠ 152 → a ≠ 153 → a ≠ 154 → a ≠ 159 → a ≠ 178 → a ≠ 181 → a < 182 ∨ (197 < a ∧ a ≠ 199) → w a = h a := fun a h1 h2 h3 h4 h5 h6 h7 h8 h9 ha => (fx.2.1 a h7 h8 h9 ha).trans ((o2 a h2).trans (o1 a h1 h3 h4 h5 h6))
    have e48 : w 48 = mm_sf g1 48 5 (.int 0) 48 := fx.2.1 48 (by decide) (by decide) (by decide) (by omega)
    have f48 : ∀ k, k ≠ 5 → fI w 48 k = fI h 48 k ∧ fR w 48 k = fR h 48 k := fun k hk => ⟨(fI_c e48 k).trans ((fI_sf_o hk _).trans (fI_c (o1 48 (by omega) (by decide) (by decide) (by decide) (by decide)) k)), (fR_c e48 k).trans ((fR_sf_o hk _).trans (fR_c (o1 48 (by omega) (by decide) (by decide) (by decide) (by decide)) k))⟩
    have w5 : fI w 48 5 = 0 := (fI_c e48 5).trans (fs_48_5 c1 _)
    have fw : ∀ k, k < 26 ∨ (30 < k ∧ k ≠ 54 ∧ k ≠ 55) → fI w 159 k = fI h 159 k := fun k hk => (fx.2.2.1 k hk).1.trans (fI_c (oH 159 (by omega) (by omega)) k)
    have bo : ∀ (p z B : Nat) (L : List Stm) (a b : Nat), z < 13 → B ≤ 9 → bothR h n p z B L a b → bothR w m p z B L a b := fun p z B L a b h1 h2 R => by
      obtain ⟨q1, q2, q3, N', q4, q5⟩ := R
      exact ⟨bookC_up q1 hnm (fun a h1 h2 => ow a h2 (by omega) (by omega) (by omega) (by omega) (by omega) (by omega) (by omega) (by omega) (by omega)), q2, q3, N', q4, setR_fx fx h1 (by omega) (by omega) (setR_c (fun a h1 h2 => oH a (by omega) (by omega)) q5)⟩
    refine ⟨-1, _, m, w, pre _ rfl, (run _ rfl).trans (if_pos rfl), hnm, c2, fx.1, JR_rd (fun a ha => ow a (by omega) (by omega) (by omega) (by omega) (by omega) (by omega) (by omega) (by omega) (by omega) (by omega)) (fun k hk => fw k (by omega)) w5 w26 j, ?_, ?_, fun a ha => ⟨(o2 a (by omega)).trans (o1 a (by omega) (by omega) (by omega) (by omega) (by omega)), ow a (by omega) (by omega) (by omega) (by omega) (by omega) (by omega) (by omega) (by omega) (by omega) (by omega)⟩, w5⟩
    · refine ⟨⟨m7, (f48 7 (by decide)).1.trans e7, by omega⟩, by rw [fw 24 (by omega), (f48 7 (by decide)).1]; exact e24, ⟨m10, (f48 10 (by decide)).1.trans e10, hm10⟩, by rw [fw 25 (by omega), (f48 10 (by decide)).1]; exact e25, by rw [fw 31 (by omega), (f48 8 (by decide)).2]; exact e31, ?_, by rw [fw 56 (by omega)]; exact e56⟩
      rw [w30, fI_c (fx.2.1 151 (by decide) (by decide) (by decide) (by omega)) 5, fI_c (o2 151 (by decide)) 5, f5]
    · refine ⟨by rw [ow 2 (by omega) (by decide) (by decide) (by decide) (by decide) (by decide) (by decide) (by decide) (by decide) (by omega)]; exact j1, ⟨M7, (f48 7 (by decide)).1.trans j2, j3, fun i hi => ?_⟩, fun p' hp' => ?_, ⟨M10, (f48 10 (by decide)).1.trans j6, j7, fun i hi => ?_⟩⟩
      · obtain ⟨p', L', a', b', q1, q2, q3, q4, q5⟩ := j4 i hi
        exact ⟨p', L', a', b', by rw [rA_c (ow 156 (by omega) (by decide) (by decide) (by decide) (by decide) (by decide) (by decide) (by decide) (by decide) (by omega))]; exact q1, bo _ _ _ _ _ _ (by omega) (by omega) q2, by rw [iA_c (ow 179 (by omega) (by decide) (by decide) (by decide) (by decide) (by decide) (by decide) (by decide) (by decide) (by omega))]; exact q3, by rw [iA_c (ow 180 (by omega) (by decide) (by decide) (by decide) (by decide) (by decide) (by decide) (by decide) (by decide) (by omega))]; exact q4, q5⟩
      · rw [(f48 8 (by decide)).2] at hp'
        obtain ⟨L', a', b', q⟩ := j5 p' hp'
        exact ⟨L', a', b', bo _ _ _ _ _ _ (by omega) (by omega) q⟩
      · obtain ⟨p', L', a', b', q1, q2⟩ := j8 i hi
        exact ⟨p', L', a', b', by rw [rA_c (ow 157 (by omega) (by decide) (by decide) (by decide) (by decide) (by decide) (by decide) (by decide) (by decide) (by omega))]; exact q1, bo _ _ _ _ _ _ (by omega) (by omega) q2⟩
  | inr L' =>
    obtain ⟨f5, p, rfl, hpn, bk⟩ := yr L' et
    obtain ⟨hL', ok'⟩ := txS_ok (b := fun k => bT (iA h 198 k)) (N := N) (by omega) ok et
    obtain ⟨hp, hpm, q, ff, e6, hq, hqm, eq, er⟩ := id bk
    -- the class
    have e6' : mm_sf g1 48 5 (.int 0) p = .inr (6, [.ref q, .int (ni L'.length), .int (ni 0), .int (ni 0)]) := (o2 p (by omega)).trans e6
    have s1' : wrF (mm_sf g1 48 5 (.int 0)) m p 6 2 (.int (ni R)) = some (mm_up (mm_sf g1 48 5 (.int 0)) p (.inr (6, [.ref q, .int (ni L'.length), .int (ni R), .int (ni 0)]))) := wrF_o (m := m) (k := 2) (.int (ni R)) ⟨by omega, hpm⟩ e6' (by decide : 2 < 4)
    have c3 : PS (mm_up (mm_sf g1 48 5 (.int 0)) p (.inr (6, [.ref q, .int (ni L'.length), .int (ni R), .int (ni 0)]))) := c2.top hp _
    have s2' : wrF (mm_up (mm_sf g1 48 5 (.int 0)) p (.inr (6, [.ref q, .int (ni L'.length), .int (ni R), .int (ni 0)]))) m p 6 3 (.int (fI h 49 6)) = some (mm_up (mm_up (mm_sf g1 48 5 (.int 0)) p (.inr (6, [.ref q, .int (ni L'.length), .int (ni R), .int (ni 0)]))) p (.inr (6, [.ref q, .int (ni L'.length), .int (ni R), .int (fI h 49 6)]))) := wrF_o (m := m) (k := 3) (.int (fI h 49 6)) ⟨by omega, hpm⟩ (show mm_up (mm_sf g1 48 5 (.int 0)) p (.inr (6, [.ref q, .int (ni L'.length), .int (ni R), .int (ni 0)])) p = _ from mm_up_s) (by decide : 3 < 4)
    have c4 : PS (mm_up (mm_up (mm_sf g1 48 5 (.int 0)) p (.inr (6, [.ref q, .int (ni L'.length), .int (ni R), .int (ni 0)]))) p (.inr (6, [.ref q, .int (ni L'.length), .int (ni R), .int (fI h 49 6)]))) := c3.top hp _
    have o4 : ∀ a, a ≠ 48 → a ≠ p → mm_up (mm_up (mm_sf g1 48 5 (.int 0)) p (.inr (6, [.ref q, .int (ni L'.length), .int (ni R), .int (ni 0)]))) p (.inr (6, [.ref q, .int (ni L'.length), .int (ni R), .int (fI h 49 6)])) a = g1 a := fun a h1 h2 => by rw [mm_up_n h2, mm_up_n h2]; exact o2 a h1
    have o448 : mm_up (mm_up (mm_sf g1 48 5 (.int 0)) p (.inr (6, [.ref q, .int (ni L'.length), .int (ni R), .int (ni 0)]))) p (.inr (6, [.ref q, .int (ni L'.length), .int (ni R), .int (fI h 49 6)])) 48 = mm_sf g1 48 5 (.int 0) 48 := by rw [mm_up_n (by omega), mm_up_n (by omega)]
    have e4p : mm_up (mm_up (mm_sf g1 48 5 (.int 0)) p (.inr (6, [.ref q, .int (ni L'.length), .int (ni R), .int (ni 0)]))) p (.inr (6, [.ref q, .int (ni L'.length), .int (ni R), .int (fI h 49 6)])) p = .inr (6, [.ref q, .int (ni L'.length), .int (ni R), .int (fI h 49 6)]) := mm_up_s
    have t49 : rdI (mm_up (mm_sf g1 48 5 (.int 0)) p (.inr (6, [.ref q, .int (ni L'.length), .int (ni R), .int (ni 0)]))) m 49 4 6 = some (fI h 49 6) := by
      rw [g_49_6 c3 hm, fI_c (mm_up_n (show (49 : Nat) ≠ p by omega)) 6, fI_c (o2 49 (by decide)) 6, fI_c (o1 49 (by omega) (by decide) (by decide) (by decide) (by decide)) 6]
    have d480 := g_48_0 c3 hm
    generalize mm_up (mm_sf g1 48 5 (.int 0)) p (.inr (6, [.ref q, .int (ni L'.length), .int (ni R), .int (ni 0)])) = G1 at *
    generalize mm_up G1 p (.inr (6, [.ref q, .int (ni L'.length), .int (ni R), .int (fI h 49 6)])) = G2 at *
    have f480 : ∀ k, k ≠ 5 → fI G2 48 k = fI h 48 k ∧ fR G2 48 k = fR h 48 k := fun k hk => ⟨(fI_c o448 k).trans ((fI_sf_o hk _).trans (fI_c (o1 48 (by omega) (by decide) (by decide) (by decide) (by decide)) k)), (fR_c o448 k).trans ((fR_sf_o hk _).trans (fR_c (o1 48 (by omega) (by decide) (by decide) (by decide) (by decide)) k))⟩
    have ck : ckr G2 m p 6 = true := ckr_o ⟨by omega, hpm⟩ e4p
    have e156 : G2 156 = .inl (.object "WaterReview$RuleBook", 8, .inr (.inr (.inr (.inr (rA G2 156))))) := cs_156 c4
    have i8 : inb (ni m7) 8 = true := ni_inb (by omega) hm7
    have t8 : (ni m7).toNatClampNeg = m7 := ni_tn (by omega)
    have sr : stR G2 m 156 5 6 (ni m7) p = some (mm_sr G2 156 m7 (some p)) := by
      unfold stR
      rw [if_pos ⟨by omega, by omega⟩, e156]
      show (if mm_tys[5]? = some (.object "WaterReview$RuleBook") ∧ inb (ni m7) 8 = true ∧ ckr G2 m p 6 = true then some (mm_sr G2 156 (ni m7).toNatClampNeg (some p)) else none) = _
      rw [if_pos ⟨rfl, i8, ck⟩, t8]
    have c5 : PS (mm_sr G2 156 m7 (some p)) := ps_156 c4 _ _
    have e57 : fI (mm_sr G2 156 m7 (some p)) 48 7 = ni m7 := (fI_sr _ _ _ _ _).trans ((f480 7 (by decide)).1.trans e7)
    have c6 : PS (mm_sf (mm_sr G2 156 m7 (some p)) 48 7 (.int (ni (m7 + 1)))) := ps_48_7 c5 _
    have e67 : fI (mm_sf (mm_sr G2 156 m7 (some p)) 48 7 (.int (ni (m7 + 1)))) 48 7 = ni (m7 + 1) := fs_48_7 c5 _
    have o6 : ∀ a, a ≠ 48 → a ≠ p → a ≠ 156 → mm_sf (mm_sr G2 156 m7 (some p)) 48 7 (.int (ni (m7 + 1))) a = g1 a := fun a h1 h2 h3 => by rw [mm_sf_n h1, mm_sr_n h3]; exact o4 a h1 h2
    have e6p : mm_sf (mm_sr G2 156 m7 (some p)) 48 7 (.int (ni (m7 + 1))) p = .inr (6, [.ref q, .int (ni L'.length), .int (ni R), .int (fI h 49 6)]) := by rw [mm_sf_n (by omega), mm_sr_n (by omega)]; exact e4p
    have e6156 : rA (mm_sf (mm_sr G2 156 m7 (some p)) 48 7 (.int (ni (m7 + 1)))) 156 = va_up (rA h 156) m7 (some p) := by rw [rA_sf, is_156 c4, rA_c (o4 156 (by decide) (by omega)), rA_c (o1 156 (by omega) (by decide) (by decide) (by decide) (by decide))]
    have f486 : ∀ k, k ≠ 5 → k ≠ 7 → fI (mm_sf (mm_sr G2 156 m7 (some p)) 48 7 (.int (ni (m7 + 1)))) 48 k = fI h 48 k ∧ fR (mm_sf (mm_sr G2 156 m7 (some p)) 48 7 (.int (ni (m7 + 1)))) 48 k = fR h 48 k := fun k h1 h2 => ⟨(fI_sf_o h2 _).trans ((fI_sr _ _ _ _ _).trans (f480 k h1).1), (fR_sf_o h2 _).trans ((fR_sr _ _ _ _ _).trans (f480 k h1).2)⟩
    have e655 : fI (mm_sf (mm_sr G2 156 m7 (some p)) 48 7 (.int (ni (m7 + 1)))) 48 5 = 0 := (fI_sf_o (by decide) _).trans ((fI_sr _ _ _ _ _).trans ((fI_c o448 5).trans (fs_48_5 c1 _)))
    have runC : q_X10_rules K M h n 48 (ni N) (ni R) = some (ni m7, mm_sf (mm_sr G2 156 m7 (some p)) 48 7 (.int (ni (m7 + 1))), m) := pre _ (by
      dsimp only
      rw [s1', Option.bind_some, d480, Option.bind_some, Option.bind_some, t49, Option.bind_some, s2', Option.bind_some, g_48_6 c4 hm, Option.bind_some, g_48_7 c4 hm, (f480 7 (by decide)).1, e7, Option.bind_some, Option.bind_some, sr, Option.bind_some, g_48_7 c5 hm, e57, Option.bind_some, ni_1, p_48_7 c5 hm, Option.bind_some, g_48_7 c6 hm, e67, Option.bind_some, ni_sub1])
    generalize mm_sf (mm_sr G2 156 m7 (some p)) 48 7 (.int (ni (m7 + 1))) = G at *
    have oH : ∀ a, 158 ≤ a → a ≤ 207 → G a = h a := fun a h1 h2 => (o6 a (by omega) (by omega) (by omega)).trans (o1 a (by omega) (by omega) (by omega) (by omega) (by omega))
    have bkG : bookC G m p L' R D := by
      refine ⟨hp, hpm, q, ff, by rw [e6p, eD], hq, hqm, ?_, fun i s es => ?_⟩
      · rw [o6 q (by omega) (fun z => by rw [z, e6] at eq; cases eq) (by omega)]
        exact eq
      · obtain ⟨r', x1, x2⟩ := er i s es
        refine ⟨r', x1, ?_⟩
        obtain ⟨y1, y2, u', y3, y4⟩ := x2
        refine ⟨y1, y2, u', by rw [o6 r' (by omega) (fun z => by rw [z, e6] at y3; cases y3) (by omega)]; exact y3, ?_⟩
        rcases y4 with y4 | ⟨y5, y6, y7, fz, y8, y9⟩
        · exact Or.inl y4
        · exact Or.inr ⟨y5, y6, y7, fz, by rw [o6 u' (by omega) (fun z => by rw [z, e6] at y8; cases y8) (by omega)]; exact y8, y9⟩
    obtain ⟨v, w, f, fx, w26, -, xr, run⟩ := mod G c6 oH ((o6 49 (by decide) (by omega) (by decide)).trans (o1 49 (by omega) (by decide) (by decide) (by decide) (by decide)))
    obtain ⟨rfl, w30, m', hm', st⟩ := xr L' et
    have fw : ∀ k, k < 26 ∨ (30 < k ∧ k ≠ 54 ∧ k ≠ 55) → fI w 159 k = fI h 159 k := fun k hk => (fx.2.2.1 k hk).1.trans (fI_c (oH 159 (by omega) (by omega)) k)
    have w24 : fI w 159 24 = ni m7 := by rw [fw 24 (by omega), e24, e7]
    have cw := fx.1
    -- the model puts it by
    obtain ⟨W, k5, cW, cp⟩ := z_copies (K := K) hK cw hm (z := 13) (z' := m7) (len := L'.length) (N := m') (by omega) (by omega) (by omega) (by omega) (by omega) st.1 st.2.1
    have k5' : q_X11_copies K w m 159 13 (ni m7) = some W := k5
    have i14 : inb (ni m7) 14 = true := ni_inb (by omega) (by omega)
    have eW : W 159 = w 159 := cp.1 159 (by omega)
    have c7 : PS (mm_si W 179 m7 (ni R)) := ps_179 cW _ _
    have c8 : PS (mm_si (mm_si W 179 m7 (ni R)) 180 m7 (fI h 49 6)) := ps_180 c7 _ _
    have e724 : fI (mm_si W 179 m7 (ni R)) 159 24 = ni m7 := (fI_si _ _ _ _ _).trans ((fI_c eW 24).trans w24)
    have e70 : fI (mm_si W 179 m7 (ni R)) 159 0 = fI h 49 6 := (fI_si _ _ _ _ _).trans ((fI_c eW 0).trans ((fw 0 (by omega)).trans eD'))
    have e824 : fI (mm_si (mm_si W 179 m7 (ni R)) 180 m7 (fI h 49 6)) 159 24 = ni m7 := (fI_si _ _ _ _ _).trans e724
    have c9 : PS (mm_sf (mm_si (mm_si W 179 m7 (ni R)) 180 m7 (fI h 49 6)) 159 24 (.int (ni (m7 + 1)))) := ps_159_24 c8 _
    have e924 : fI (mm_sf (mm_si (mm_si W 179 m7 (ni R)) 180 m7 (fI h 49 6)) 159 24 (.int (ni (m7 + 1)))) 159 24 = ni (m7 + 1) := fs_159_24 c8 _
    have runM : q_X11_rules K G m 159 (ni N) (ni R) = some (ni m7, mm_sf (mm_si (mm_si W 179 m7 (ni R)) 180 m7 (fI h 49 6)) 159 24 (.int (ni (m7 + 1)))) := (run _ rfl).trans (by
      rw [if_neg (show ¬ (1 : Int32) = 0 by decide), g_159_24 cw hm, w24, Option.bind_some, gq_159 cw hm, Option.bind_some, k5', Option.bind_some, g_159_33 cW hm, Option.bind_some, g_159_24 cW hm, fI_c eW 24, w24, Option.bind_some, Option.bind_some, pe_179 cW hm, if_pos i14, t8, Option.bind_some, g_159_34 c7 hm, Option.bind_some, g_159_24 c7 hm, e724, Option.bind_some, g_159_0 c7 hm, e70, Option.bind_some, Option.bind_some, pe_180 c7 hm, if_pos i14, t8, Option.bind_some, g_159_24 c8 hm, e824, Option.bind_some, ni_1, p_159_24 c8 hm, Option.bind_some, g_159_24 c9 hm, e924, Option.bind_some, ni_sub1])
    have oW : ∀ a, a ≠ 159 → a ≠ 179 → a ≠ 180 → mm_sf (mm_si (mm_si W 179 m7 (ni R)) 180 m7 (fI h 49 6)) 159 24 (.int (ni (m7 + 1))) a = W a := fun a h1 h2 h3 => by rw [mm_sf_n h1, mm_si_n h3, mm_si_n h2]
    have fW : ∀ k, k ≠ 24 → fI (mm_sf (mm_si (mm_si W 179 m7 (ni R)) 180 m7 (fI h 49 6)) 159 24 (.int (ni (m7 + 1)))) 159 k = fI w 159 k := fun k hk => (fI_sf_o hk _).trans ((fI_si _ _ _ _ _).trans ((fI_si _ _ _ _ _).trans (fI_c eW k)))
    have i179 : iA (mm_sf (mm_si (mm_si W 179 m7 (ni R)) 180 m7 (fI h 49 6)) 159 24 (.int (ni (m7 + 1)))) 179 = upd (iA h 179) m7 (ni R) := by rw [iA_sf, iA_si_n (by decide), is_179 cW, iA_c (cp.1 179 (by omega)), iA_c (fx.2.1 179 (by decide) (by decide) (by decide) (by omega)), iA_c (oH 179 (by omega) (by omega))]
    have i180 : iA (mm_sf (mm_si (mm_si W 179 m7 (ni R)) 180 m7 (fI h 49 6)) 159 24 (.int (ni (m7 + 1)))) 180 = upd (iA h 180) m7 (fI h 49 6) := by rw [iA_sf, is_180 c7, iA_si_n (by decide), iA_c (cp.1 180 (by omega)), iA_c (fx.2.1 180 (by decide) (by decide) (by decide) (by omega)), iA_c (oH 180 (by omega) (by omega))]
    generalize mm_sf (mm_si (mm_si W 179 m7 (ni R)) 180 m7 (fI h 49 6)) 159 24 (.int (ni (m7 + 1))) = Z at *
    have zG : ∀ a, a < 158 ∨ (160 ≤ a ∧ a ≤ 177) ∨ (197 < a ∧ a ≠ 199) → Z a = G a := fun a ha => (oW a (by omega) (by omega) (by omega)).trans ((cp.1 a (by omega)).trans (fx.2.1 a (by omega) (by omega) (by omega) (by omega)))
    have zh : ∀ a, a < n → a ≠ 48 → a ≠ p → a ≠ 156 → a ≠ 151 → a ≠ 152 → a ≠ 153 → a ≠ 154 → a < 158 ∨ (160 ≤ a ∧ a ≤ 177) ∨ (197 < a ∧ a ≠ 199) → Z a = h a := fun a h1 h2 h3 h4 h5 h6 h7 h8 ha => (zG a ha).trans ((o6 a h2 h3 h4).trans (o1 a h1 h5 h6 h7 h8))
    have z158 : Z 158 = h 158 := (oW 158 (by decide) (by decide) (by decide)).trans ((cp.1 158 (by omega)).trans ((fx.2.1 158 (by decide) (by decide) (by decide) (by omega)).trans (oH 158 (by omega) (by omega))))
    have zW : ∀ {z N' : Nat} {L : List Stm}, setR W z L N' → setR Z z L N' := fun r2 => ⟨by rw [iA_c (oW 178 (by decide) (by decide) (by decide))]; exact r2.1, by rw [iA_c (oW 181 (by decide) (by decide) (by decide))]; exact r2.2.1, fun i s e => rowR_ag (fun a h1 h2 => by rw [iA_c (oW a (by omega) (by omega) (by omega))]) (fun a h1 h2 i _ _ => by rw [iA_c (oW a (by omega) (by omega) (by omega))]) (Nat.le_refl _) (r2.2.2 i s e)⟩
    have bo : ∀ (p z B : Nat) (L : List Stm) (a b : Nat), z < 13 → z ≠ m7 → B ≤ 9 → bothR h n p z B L a b → bothR Z m p z B L a b := fun p0 z B L a b h1 h0 h2 R0 => by
      obtain ⟨q1, q2, q3, N', q4, q5⟩ := R0
      refine ⟨bookC_up q1 hnm (fun a h1 h2 => zh a h2 (by omega) (by omega) (by omega) (by omega) (by omega) (by omega) (by omega) (by omega)), q2, q3, N', q4, ?_⟩
      have r1 := setR_fx fx h1 (by omega) (by omega) (setR_c (fun a h1 h2 => oH a (by omega) (by omega)) q5)
      have r2 := setR_ot (w := z) (z' := m7) (by omega) h0 (by omega) (by omega) (by omega) (by omega) cp r1
      exact zW r2
    refine ⟨ni m7, G, m, Z, runC, runM, hnm, c6, c9, JR_rd (fun a ha => ?_) (fun k hk => (fW k (by omega)).trans (fw k (by omega))) ((fI_c (zG 48 (by omega)) 5).trans e655) ((fW 26 (by omega)).trans w26) j, ?_, ?_, fun a ha => ⟨(o6 a (by omega) (by omega) (by omega)).trans (o1 a (by omega) (by omega) (by omega) (by omega) (by omega)), zh a (by omega) (by omega) (by omega) (by omega) (by omega) (by omega) (by omega) (by omega) (by omega)⟩, (fI_c (zG 48 (by omega)) 5).trans e655⟩
    · by_cases z : a = 158
      · subst z; exact z158
      · exact zh a (by omega) (by omega) (by omega) (by omega) (by omega) (by omega) (by omega) (by omega) (by omega)
    · have z48 : ∀ k, k ≠ 5 → k ≠ 7 → fI Z 48 k = fI h 48 k ∧ fR Z 48 k = fR h 48 k := fun k h1 h2 => ⟨(fI_c (zG 48 (by omega)) k).trans (f486 k h1 h2).1, (fR_c (zG 48 (by omega)) k).trans (f486 k h1 h2).2⟩
      have z7 : fI Z 48 7 = ni (m7 + 1) := (fI_c (zG 48 (by omega)) 7).trans e67
      refine ⟨⟨m7 + 1, z7, by omega⟩, e924.trans z7.symm, ⟨m10, (z48 10 (by decide) (by decide)).1.trans e10, hm10⟩, by rw [fW 25 (by decide), fw 25 (by omega), (z48 10 (by decide) (by decide)).1]; exact e25, by rw [fW 31 (by decide), fw 31 (by omega), (z48 8 (by decide) (by decide)).2]; exact e31, ?_, by rw [fW 56 (by decide), fw 56 (by omega)]; exact e56⟩
      rw [fW 30 (by decide), w30, fI_c (zG 151 (by omega)) 5, fI_c (o6 151 (by decide) (by omega) (by decide)) 5, f5]
    · have z48 : ∀ k, k ≠ 5 → k ≠ 7 → fI Z 48 k = fI h 48 k ∧ fR Z 48 k = fR h 48 k := fun k h1 h2 => ⟨(fI_c (zG 48 (by omega)) k).trans (f486 k h1 h2).1, (fR_c (zG 48 (by omega)) k).trans (f486 k h1 h2).2⟩
      have z7 : fI Z 48 7 = ni (m7 + 1) := (fI_c (zG 48 (by omega)) 7).trans e67
      have z156 : rA Z 156 = va_up (rA h 156) m7 (some p) := (rA_c (zG 156 (by omega))).trans e6156
      have eM7 : M7 = m7 := (ni_inj (by omega) (by omega)).mp (j2.symm.trans e7)
      refine ⟨by rw [zh 2 (by omega) (by decide) (by omega) (by decide) (by decide) (by decide) (by decide) (by decide) (by omega)]; exact j1, ⟨m7 + 1, z7, by omega, fun i hi => ?_⟩, fun p' hp' => ?_, ⟨M10, (z48 10 (by decide) (by decide)).1.trans j6, j7, fun i hi => ?_⟩⟩
      · by_cases z : i = m7
        · subst z
          exact ⟨p, L', R, D, by rw [z156, vup_s], ⟨bookC_up bkG (Nat.le_refl _) (fun a h1 h2 => zG a (by omega)), by omega, ok', m', by omega, zW (setR_cp (by omega) (by omega) (by omega) (by omega) cp st)⟩, by rw [i179, upd_s], by rw [i180, upd_s, eD], hR, hD⟩
        · obtain ⟨p', L'', a', b', q1, q2, q3, q4, q5⟩ := j4 i (by omega)
          exact ⟨p', L'', a', b', by rw [z156, vup_n z]; exact q1, bo _ _ _ _ _ _ (by omega) z (by omega) q2, by rw [i179, upd_n z]; exact q3, by rw [i180, upd_n z]; exact q4, q5⟩
      · rw [(z48 8 (by decide) (by decide)).2] at hp'
        obtain ⟨L'', a', b', q⟩ := j5 p' hp'
        exact ⟨L'', a', b', bo _ _ _ _ _ _ (by omega) (by omega) (by omega) q⟩
      · obtain ⟨p', L'', a', b', q1, q2⟩ := j8 i hi
        exact ⟨p', L'', a', b', by rw [rA_c (zh 157 (by omega) (by decide) (by omega) (by decide) (by decide) (by decide) (by decide) (by decide) (by omega))]; exact q1, bo _ _ _ _ _ _ (by omega) (by omega) (by omega) q2⟩
end CALLR

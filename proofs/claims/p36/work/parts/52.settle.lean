/-! ===== the words of a year; a year is settled ===== -/
section SETTLE
variable {K n : Nat} {h : mm_H}
theorem updL_s (f : Nat → Int64) (i : Nat) (x : Int64) : vp_updL f i x i = x := by simp [vp_updL]
theorem updL_n {f : Nat → Int64} {i j : Nat} {x : Int64} (q : j ≠ i) : vp_updL f i x j = f j := by simp [vp_updL, q]
def wdW (a b c d e : Int64) (i : Nat) : Int64 := if i = 0 then a else if i = 1 then b else if i = 2 then c else if i = 3 then d else e
theorem w5_eq (f : Nat → Int64) (a b c d e : Int64) : ∀ i, i < 5 → vp_updL (vp_updL (vp_updL (vp_updL (vp_updL f 0 a) 1 b) 2 c) 3 d) 4 e i = wdW a b c d e i := by
  intro i hi
  rcases (by omega : i = 0 ∨ i = 1 ∨ i = 2 ∨ i = 3 ∨ i = 4) with rfl | rfl | rfl | rfl | rfl
  · rw [updL_n (by decide), updL_n (by decide), updL_n (by decide), updL_n (by decide), updL_s]; rfl
  · rw [updL_n (by decide), updL_n (by decide), updL_n (by decide), updL_s]; rfl
  · rw [updL_n (by decide), updL_n (by decide), updL_s]; rfl
  · rw [updL_n (by decide), updL_s]; rfl
  · rw [updL_s]; rfl
theorem in5 : inb 0 5 = true ∧ inb 1 5 = true ∧ inb 2 5 = true ∧ inb 3 5 = true ∧ inb 4 5 = true := by decide
theorem cl5 : (0 : Int32).toNatClampNeg = 0 ∧ (1 : Int32).toNatClampNeg = 1 ∧ (2 : Int32).toNatClampNeg = 2 ∧ (3 : Int32).toNatClampNeg = 3 ∧ (4 : Int32).toNatClampNeg = 4 := by decide
theorem hmS_c {g : mm_H} (e' : kn g = kn h) (f : Nat) (d : Int32) : ∀ y, hmS g f d y = hmS h f d y := by
  intro y
  induction y with
  | zero => rfl
  | succ y ih =>
    unfold hmS hmT hmN
    rw [e', ih]
theorem kn_c {g : mm_H} (e : ∀ a, 52 ≤ a → a ≤ 55 → g a = h a) : kn g = kn h := by
  funext f y w d
  unfold kn
  rw [iA_c (e 52 (by omega) (by omega)), iA_c (e 53 (by omega) (by omega)), iA_c (e 54 (by omega) (by omega)), iA_c (e 55 (by omega) (by omega))]
theorem ltS_c {g : mm_H} (e : ∀ a, 57 ≤ a → a ≤ 60 → g a = h a) (f y : Nat) : ∀ m, ltS g f y m = ltS h f y m := by
  intro m
  induction m with
  | zero => rfl
  | succ m ih =>
    unfold ltS ltB
    rw [ih, iA_c (e 57 (by omega) (by omega)), iA_c (e 59 (by omega) (by omega)), iA_c (e 60 (by omega) (by omega))]
theorem cdS_c {g : mm_H} (e : ∀ a, 57 ≤ a → a ≤ 60 → g a = h a) (f y : Nat) : ∀ m, cdS g f y m = cdS h f y m := by
  intro m
  induction m with
  | zero => rfl
  | succ m ih =>
    unfold cdS cdB
    rw [ih, iA_c (e 57 (by omega) (by omega)), iA_c (e 58 (by omega) (by omega)), iA_c (e 60 (by omega) (by omega))]
/-- the words of a firm's year, its worth given -/
def wdS (h : mm_H) (f y : Nat) (W : Int64) : Nat → Int64 := wdW (ni y).toInt64 (ni f).toInt64 (hmS h f (dcd y) (y + 1)).toInt64 W (ni (ltS h f y (fI h 56 4).toNatClampNeg)).toInt64
theorem z_findWords (hK : 3000 ≤ K) (c : PS h) (hn : 159 ≤ n) (j : JR h) {f y : Nat} (hf : f ≤ 10) (hy : y ≤ 14) (h11 : fI h 73 11 = ni f) : ∃ g, q_X7_findWords K h n 73 (ni y) = some g ∧ PS g ∧ (∀ a, a ≠ 142 → g a = h a) ∧ ∀ i, i < 5 → jA g 142 i = wdS h f y (jA h 107 y) i := by
  obtain ⟨a0, a1, a2, a3, a4⟩ := in5
  obtain ⟨b0, b1, b2, b3, b4⟩ := cl5
  obtain ⟨uT, uF, uA, uW, uB, uL, uP⟩ := id j
  obtain ⟨q0, q1, q2, q3, m, hm, hm40, hd, hD⟩ := id uW
  have i15 : inb (ni y) 15 = true := ni_inb (by omega) (by omega)
  have i16 : inb (ni y) 16 = true := ni_inb (by omega) (by omega)
  have ty : (ni y).toNatClampNeg = y := ni_tn (by omega)
  have ed : (ni y / 5) * 500 = dcd y := by
    show (ni y / ni 5) * ni 500 = _
    rw [ni_div (by omega) (by omega), ni_mul, Nat.mul_comm]
    rfl
  have p1 : PS (mm_sj h 142 0 (ni y).toInt64) := ps_142 c _ _
  have p2 : PS (mm_sj (mm_sj h 142 0 (ni y).toInt64) 142 1 (ni f).toInt64) := ps_142 p1 _ _
  have s2 : ∀ a, a ≠ 142 → mm_sj (mm_sj h 142 0 (ni y).toInt64) 142 1 (ni f).toInt64 a = h a := fun a ha => by rw [mm_sj_n ha, mm_sj_n ha]
  have jA2 : JA (mm_sj (mm_sj h 142 0 (ni y).toInt64) 142 1 (ni f).toInt64) := by
    simp only [JA, fI_sf_n, fJ_sf_n, fR_sf_n, fI_sf_o, fJ_sf_o, fR_sf_o, iA_sf, jA_sf, rA_sf, fI_si, fJ_si, fR_si, iA_si_n, jA_si, rA_si, fI_sj, fJ_sj, fR_sj, iA_sj, jA_sj_n, rA_sj, fI_sr, fJ_sr, fR_sr, iA_sr, jA_sr, rA_sr_n, ne_eq, not_false_eq_true, Nat.reduceEqDiff, Nat.zero_ne_one, Nat.one_ne_zero]; exact uA
  have eh : q_X0_latestHomesUpTo K (mm_sj (mm_sj h 142 0 (ni y).toInt64) 142 1 (ni f).toInt64) n 51 (ni f) (ni y) (dcd y) = some (hmS h f (dcd y) (y + 1)) := by
    rw [z_homesX0 hK p2 hn jA2 hf hy, hmS_c (kn_c (fun a l1 l2 => s2 a (by omega)))]
  generalize hH : hmS h f (dcd y) (y + 1) = H at eh
  have p3 : PS (mm_sj (mm_sj (mm_sj h 142 0 (ni y).toInt64) 142 1 (ni f).toInt64) 142 2 H.toInt64) := ps_142 p2 _ _
  have p4 : PS (mm_sj (mm_sj (mm_sj (mm_sj h 142 0 (ni y).toInt64) 142 1 (ni f).toInt64) 142 2 H.toInt64) 142 3 (jA h 107 y)) := ps_142 p3 _ _
  have s4 : ∀ a, a ≠ 142 → mm_sj (mm_sj (mm_sj (mm_sj h 142 0 (ni y).toInt64) 142 1 (ni f).toInt64) 142 2 H.toInt64) 142 3 (jA h 107 y) a = h a := fun a ha => by rw [mm_sj_n ha, mm_sj_n ha, s2 a ha]
  have el : q_X9_countLate K (mm_sj (mm_sj (mm_sj (mm_sj h 142 0 (ni y).toInt64) 142 1 (ni f).toInt64) 142 2 H.toInt64) 142 3 (jA h 107 y)) n 56 (ni f) (ni y) = some (ni (ltS h f y m)) := by
    rw [z_countLate hK p4 hn ((fI_c (s4 56 (by decide)) 4).trans hm) hm40, ltS_c (fun a l1 l2 => s4 a (by omega))]
  unfold q_X7_findWords q_X7_decidedOn
  simp (maxDischargeDepth := 40) only [gq_73, g_73_0, g_73_1, g_73_2, g_73_3, g_73_4, g_73_5, g_73_6, g_73_7, g_73_8, g_73_9, g_73_10, g_73_11, p_73_11, ps_73_11, fs_73_11, g_73_12, p_73_12, ps_73_12, fs_73_12, gq_49, g_49_0, g_49_1, g_49_2, g_49_3, g_49_4, g_49_5, p_49_5, ps_49_5, fs_49_5, g_49_6, p_49_6, ps_49_6, fs_49_6, gq_51, g_51_0, g_51_1, g_51_2, g_51_3, g_51_4, p_51_4, ps_51_4, fs_51_4, gq_56, g_56_0, g_56_1, g_56_2, g_56_3, g_56_4, p_56_4, ps_56_4, fs_56_4, g_56_5, p_56_5, ps_56_5, fs_56_5, gl_107, ge_107, pe_107, ps_107, is_107, gl_142, ge_142, pe_142, ps_142, is_142, c, hn, Option.bind_some, i15, i16, ty, if_true, a0, a1, a2, a3, a4, b0, b1, b2, b3, b4, h11, ed, eh, el, fI_sf_n, fJ_sf_n, fR_sf_n, fI_sf_o, fJ_sf_o, fR_sf_o, iA_sf, jA_sf, rA_sf, fI_si, fJ_si, fR_si, iA_si_n, jA_si, rA_si, fI_sj, fJ_sj, fR_sj, iA_sj, jA_sj_n, rA_sj, fI_sr, fJ_sr, fR_sr, iA_sr, jA_sr, rA_sr_n, ne_eq, not_false_eq_true, Nat.reduceEqDiff, Nat.zero_ne_one, Nat.one_ne_zero]
  refine ⟨_, rfl, ps_142 p4 _ _, fun a ha => by rw [mm_sj_n ha, s4 a ha], fun i hi => ?_⟩
  rw [is_142 p4, is_142 p3, is_142 p2, is_142 p1, is_142 c]
  unfold wdS
  rw [hH, hm, ni_tn (by omega)]
  exact w5_eq _ _ _ _ _ _ i hi
def slotK (k o : Nat) : Nat := if k = 0 then o else if k = 1 then 4 + o else if k = 2 then 8 + o else 11 + k - 3
def vKO (k o : Nat) : Prop := (k ≤ 1 ∧ o ≤ 3) ∨ (k = 2 ∧ o ≤ 2) ∨ (3 ≤ k ∧ k ≤ 8 ∧ o = 0)
theorem sOk_v {s : Stm} (a : sOk s) : vKO (sK s) (sO s) := by
  obtain ⟨a0, a1, a2, a3, a4, -⟩ := a
  unfold vKO
  omega
theorem slotK_eq {k o k' o' : Nat} (a : vKO k o) (b : vKO k' o') : slotK k o = slotK k' o' ↔ k = k' ∧ o = o' := by
  have f : ∀ k o, (k = 0 ∧ slotK k o = o) ∨ (k = 1 ∧ slotK k o = 4 + o) ∨ (k = 2 ∧ slotK k o = 8 + o) ∨ (3 ≤ k ∧ slotK k o = 11 + k - 3) := by
    intro k o
    unfold slotK
    by_cases h0 : k = 0
    · rw [if_pos h0]; exact Or.inl ⟨h0, rfl⟩
    rw [if_neg h0]
    by_cases h1 : k = 1
    · rw [if_pos h1]; exact Or.inr (Or.inl ⟨h1, rfl⟩)
    rw [if_neg h1]
    by_cases h2 : k = 2
    · rw [if_pos h2]; exact Or.inr (Or.inr (Or.inl ⟨h2, rfl⟩))
    rw [if_neg h2]
    exact Or.inr (Or.inr (Or.inr ⟨by omega, rfl⟩))
  have f1 := f k o
  have f2 := f k' o'
  unfold vKO at a b
  omega
theorem slotK_lt {k o : Nat} (a : vKO k o) : slotK k o ≤ 16 := by
  unfold vKO at a
  unfold slotK
  by_cases h0 : k = 0
  · rw [if_pos h0]; omega
  rw [if_neg h0]
  by_cases h1 : k = 1
  · rw [if_pos h1]; omega
  rw [if_neg h1]
  by_cases h2 : k = 2
  · rw [if_pos h2]; omega
  rw [if_neg h2]
  omega
/-- the number of a plain kind -/
def numS (w : Nat → Int64) (L : List Stm) (k : Nat) (d : Int32) : Int32 := match lastS w k 0 L 0 none with
  | none => d
  | some i => match L[i]? with
    | some s => ni (sA s)
    | none => d
theorem numS_snoc (w : Nat → Int64) (L : List Stm) (s : Stm) (k : Nat) (d : Int32) : numS w (L ++ [s]) k d = if sK s = k ∧ sO s = 0 ∧ tstV w (sT s) = false then ni (sA s) else numS w L k d := by
  unfold numS
  rw [lastS_snoc]
  by_cases q : sK s = k ∧ sO s = 0 ∧ tstV w (sT s) = false
  · rw [if_pos q, if_pos q]
    show (match (L ++ [s])[0 + L.length]? with | some s => ni (sA s) | none => d) = _
    rw [Nat.zero_add, List.getElem?_append_right (Nat.le_refl _), Nat.sub_self]
    rfl
  · rw [if_neg q, if_neg q]
    cases e : lastS w k 0 L 0 none with
    | none => rfl
    | some i =>
      have hi := lastS_lt w k 0 L 0 none (fun j ej => by cases ej) i e
      show (match (L ++ [s])[i]? with | some s => ni (sA s) | none => d) = (match L[i]? with | some s => ni (sA s) | none => d)
      rw [List.getElem?_append_left (by omega)]
theorem row_st {g : mm_H} (c : PS g) {a N : Nat} (hs : mm_sh a = some (.inl (.int, N))) (ha : 48 ≤ a) (han : a < n) (i x : Int32) : stI g n a i x = if inb i N = true then some (mm_si g a i.toNatClampNeg x) else none := by
  have e : g a = .inl (.int, N, .inl (iA g a)) := c a _ hs
  unfold stI
  rw [if_pos ⟨ha, han⟩, e]
theorem row_ld {g : mm_H} (c : PS g) {a N : Nat} (hs : mm_sh a = some (.inl (.int, N))) (han : a < n) (i : Int32) : ldI g n a i = if inb i N = true then some (iA g a i.toNatClampNeg) else none := by
  have e : g a = .inl (.int, N, .inl (iA g a)) := c a _ hs
  unfold ldI
  rw [if_pos han, e]
theorem row_is {g : mm_H} (c : PS g) {a N : Nat} (hs : mm_sh a = some (.inl (.int, N))) (i : Nat) (x : Int32) : iA (mm_si g a i x) a = upd (iA g a) i x := iA_si_s (c a _ hs) i x
theorem sh_76 (y : Nat) (hy : y < 15) : mm_sh (76 + y) = some (.inl (.int, 17)) := match y, hy with
  | 0, _ => rfl
  | 1, _ => rfl
  | 2, _ => rfl
  | 3, _ => rfl
  | 4, _ => rfl
  | 5, _ => rfl
  | 6, _ => rfl
  | 7, _ => rfl
  | 8, _ => rfl
  | 9, _ => rfl
  | 10, _ => rfl
  | 11, _ => rfl
  | 12, _ => rfl
  | 13, _ => rfl
  | 14, _ => rfl
theorem sh_92 (y : Nat) (hy : y < 15) : mm_sh (92 + y) = some (.inl (.int, 9)) := match y, hy with
  | 0, _ => rfl
  | 1, _ => rfl
  | 2, _ => rfl
  | 3, _ => rfl
  | 4, _ => rfl
  | 5, _ => rfl
  | 6, _ => rfl
  | 7, _ => rfl
  | 8, _ => rfl
  | 9, _ => rfl
  | 10, _ => rfl
  | 11, _ => rfl
  | 12, _ => rfl
  | 13, _ => rfl
  | 14, _ => rfl
theorem book_c {g : mm_H} (e : ∀ a, 159 ≤ a → g a = h a) {p a b : Nat} {L : List Stm} (B : bookC h n p L a b) : bookC g n p L a b := by
  obtain ⟨h1, h2, q, f, h3, h4, h5, h6, h7⟩ := B
  refine ⟨h1, h2, q, f, (e p h1).trans h3, h4, h5, (e q h4).trans h6, fun i s es => ?_⟩
  obtain ⟨r, r1, r2, r3, u, r4, r5⟩ := h7 i s es
  refine ⟨r, r1, r2, r3, u, (e r r2).trans r4, ?_⟩
  rcases r5 with q | ⟨q1, q2, q3, v, q4, q5⟩
  · exact Or.inl q
  · exact Or.inr ⟨q1, q2, q3, v, (e u q2).trans q4, q5⟩
theorem z_seLp (hK : 3000 ≤ K) (hn : 159 ≤ n) (z2 : ∃ f, h 2 = .inl (.int, 0, .inl f)) {p a b : Nat} {L : List Stm} (hL : L.length ≤ 270) (ok : ∀ s, s ∈ L → sOk s) (B : bookC h n p L a b) {y : Nat} (hy : y ≤ 14) (dd : Nat → Int32) : ∀ (rest pre : List Stm) (k : Nat) (g : mm_H), L = pre ++ rest → rest.length < k → PS g → (∀ a, a ≠ 76 + y → a ≠ 92 + y → g a = h a) → (∀ k o, vKO k o → iA g (76 + y) (slotK k o) = oI (lastS (jA h 142) k o pre 0 none)) → (∀ k, 3 ≤ k → k ≤ 8 → iA g (92 + y) k = numS (jA h 142) pre k (dd k)) → ∃ g', lp_X7_settle_66 K n 73 (some (76 + y)) (92 + y) p k (ni pre.length) g = some g' ∧ PS g' ∧ (∀ a, a ≠ 76 + y → a ≠ 92 + y → g' a = h a) ∧ (∀ k o, vKO k o → iA g' (76 + y) (slotK k o) = oI (lastS (jA h 142) k o L 0 none)) ∧ (∀ k, 3 ≤ k → k ≤ 8 → iA g' (92 + y) k = numS (jA h 142) L k (dd k)) := by
  have s1 := sh_76 y (by omega)
  have s2 := sh_92 y (by omega)
  intro rest
  induction rest with
  | nil =>
    intro pre k g hL0 hk pg eg e1 e2
    obtain ⟨k, rfl⟩ : ∃ x, k = x + 1 := ⟨k - 1, by omega⟩
    rw [List.append_nil] at hL0
    subst hL0
    have B' := book_c (g := g) (fun a ha => eg a (by omega) (by omega)) B
    obtain ⟨hp, hpn, q, f, e5, -⟩ := id B'
    unfold lp_X7_settle_66
    rw [rdI_o (x := ni L.length) (by omega) e5 rfl]
    show ∃ g', (if ni L.length ≤ ni L.length then some g else _) = some g' ∧ _
    rw [if_pos (Int32.le_refl _)]
    exact ⟨g, rfl, pg, eg, e1, e2⟩
  | cons s rest ih =>
    intro pre k g hL0 hk pg eg e1 e2
    obtain ⟨k, rfl⟩ : ∃ x, k = x + 1 := ⟨k - 1, by omega⟩
    rw [List.length_cons] at hk
    have hlen : L.length = pre.length + (rest.length + 1) := by rw [hL0, List.length_append, List.length_cons]
    have hget : L[pre.length]? = some s := by rw [hL0, List.getElem?_append_right (Nat.le_refl _), Nat.sub_self]; rfl
    have hL2 : L = (pre ++ [s]) ++ rest := by rw [hL0, List.append_assoc]; rfl
    have hpl : (pre ++ [s]).length = pre.length + 1 := by rw [List.length_append]; rfl
    have os := ok s (List.mem_of_getElem? hget)
    have B' := book_c (g := g) (fun a ha => eg a (by omega) (by omega)) B
    obtain ⟨hp, hpn, q, f, e5, -⟩ := id B'
    obtain ⟨r, er, rr⟩ := book_at (K := K) B' (by omega) hget
    have z2' : ∃ f, g 2 = .inl (.int, 0, .inl f) := by rw [eg 2 (by omega) (by omega)]; exact z2
    have ew : jA g 142 = jA h 142 := jA_c (eg 142 (by omega) (by omega))
    have zs := z_stands hK pg hn z2' rr os
    rw [ew] at zs
    have zl := rule_slot (K := K) rr os
    have cp : ckq g n p 6 = some () := ckq_o (by omega) e5
    obtain ⟨hr, hrn, u, e6, -⟩ := id rr
    have cr : ckq g n r 5 = some () := ckq_o (by omega) e6
    have sl := slot_lt os
    have nx := ih (pre ++ [s]) k
    rw [hpl] at nx
    unfold lp_X7_settle_66
    rw [rdI_o (x := ni L.length) (by omega) e5 rfl]
    simp only [Option.bind_some]
    rw [if_neg (fun q => by have := (ni_le (by omega) (by omega)).mp q; omega), cp, er]
    simp only [Option.bind_some, g_73_10 pg hn, cr, zs, ni_1]
    cases hb : tstV (jA h 142) (sT s) with
    | true =>
      rw [if_pos (show (if true = true then (0 : Int32) else 1) = 0 by decide)]
      refine nx g hL2 (by omega) pg eg (fun k o v => ?_) (fun k l1 l2 => ?_)
      · rw [lastS_snoc, if_neg (fun q => by rw [hb] at q; exact absurd q.2.2 (by decide))]
        exact e1 k o v
      · rw [numS_snoc, if_neg (fun q => by rw [hb] at q; exact absurd q.2.2 (by decide))]
        exact e2 k l1 l2
    | false =>
      rw [if_neg (show ¬ (if false = true then (0 : Int32) else 1) = 0 by decide)]
      have k8 : sK s ≤ 8 := os.1
      have i17 : inb (ni (slotN s)) 17 = true := ni_inb (by omega) (by omega)
      have i9 : inb (ni (sK s)) 9 = true := ni_inb (by omega) (by omega)
      have t17 : (ni (slotN s)).toNatClampNeg = slotN s := ni_tn (by omega)
      have t9 : (ni (sK s)).toNatClampNeg = sK s := ni_tn (by omega)
      have rk : rdI g n r 5 0 = some (ni (sK s)) := rdI_o (by omega) e6 rfl
      have p1 : PS (mm_si g (76 + y) (slotN s) (ni pre.length)) := pg.si s1 (Or.inl rfl) _ _
      have g1r : mm_si g (76 + y) (slotN s) (ni pre.length) r = g r := mm_si_n (by omega)
      have rk1 : rdI (mm_si g (76 + y) (slotN s) (ni pre.length)) n r 5 0 = some (ni (sK s)) := rdI_o (by omega) (g1r.trans e6) rfl
      have rn1 : rdI (mm_si g (76 + y) (slotN s) (ni pre.length)) n r 5 4 = some (if sK s = 0 then ni (sB s) else ni (sA s)) := rdI_o (by omega) (g1r.trans e6) rfl
      simp only [zl, Option.bind_some, rk, row_st pg s1 (by omega) (show 76 + y < n by omega), i17, t17, if_true, rk1, rn1, row_st p1 s2 (by omega) (show 92 + y < n by omega), i9, t9]
      rw [if_neg (ni_pos (by omega)), if_neg (fun q => by have := (ni_le (a := 17) (by omega) (by omega)).mp q; omega), if_neg (ni_pos (by omega)), if_neg (fun q => by have := (ni_le (a := 9) (by omega) (by omega)).mp q; omega)]
      refine nx _ hL2 (by omega) (p1.si s2 (Or.inl rfl) _ _) (fun a h1 h2 => by rw [mm_si_n h2, mm_si_n h1]; exact eg a h1 h2) (fun k o v => ?_) (fun k l1 l2 => ?_)
      · rw [lastS_snoc, iA_si_n (by omega), row_is pg s1, Nat.zero_add]
        have se : slotN s = slotK (sK s) (sO s) := rfl
        by_cases q : sK s = k ∧ sO s = o
        · rw [if_pos ⟨q.1, q.2, hb⟩, se, q.1, q.2, upd_s]
          rfl
        · rw [if_neg (fun z => q ⟨z.1, z.2.1⟩), upd_n (fun z => by rw [se] at z; have := (slotK_eq v (sOk_v os)).mp z; exact q ⟨this.1.symm, this.2.symm⟩)]
          exact e1 k o v
      · rw [numS_snoc, row_is p1 s2]
        by_cases q : sK s = k
        · have o0 : sO s = 0 := (os.2.2.2.2.1 (by omega)).1
          rw [if_neg (show ¬ sK s = 0 by omega), if_pos ⟨q, o0, hb⟩, q, upd_s]
        · rw [if_neg (fun z : sK s = k ∧ sO s = 0 ∧ tstV (jA h 142) (sT s) = false => q z.1), upd_n (fun z => q z.symm), iA_si_n (by omega)]
          exact e2 k l1 l2
end SETTLE

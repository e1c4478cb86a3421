/-! ===== the class reads a test ===== -/
section EXPRC
variable {K n : Nat} {h : mm_H} {b : Nat → Nat} {N : Nat}
/-- what reading a test keeps -/
def XF (h g : mm_H) : Prop := PS g ∧ (∀ a, a ≠ 151 → a ≠ 154 → g a = h a) ∧ ∀ k, k < 2 ∨ (5 < k ∧ k ≠ 11) → fI g 151 k = fI h 151 k ∧ fR g 151 k = fR h 151 k
theorem XF.id_ (c : PS h) : XF h h := ⟨c, fun _ _ _ => rfl, fun _ _ => ⟨rfl, rfl⟩⟩
theorem XF.trans {g f : mm_H} (x : XF h g) (y : XF g f) : XF h f := ⟨y.1, fun a p q => (y.2.1 a p q).trans (x.2.1 a p q), fun k q => ⟨(y.2.2 k q).1.trans (x.2.2 k q).1, (y.2.2 k q).2.trans (x.2.2 k q).2⟩⟩
theorem LF.xf {g : mm_H} (x : LF h g) : XF h g := ⟨x.1, fun a p _ => x.2.1 a p, fun k q => x.2.2 k (by omega)⟩
theorem TX.xf {g : mm_H} (t : TX b N h) (l : XF h g) : TX b N g := by
  obtain ⟨t1, t2, t3, t4⟩ := t
  exact ⟨(l.2.2 0 (by omega)).2.trans t1, (l.2.2 1 (by omega)).1.trans t2, t3, fun k hk => by rw [iA_c (l.2.1 155 (by decide) (by decide))]; exact t4 k hk⟩
theorem TXT.xf {g : mm_H} (t : TXT h) (l : XF h g) : TXT g := fun i hi => by
  rw [l.2.1 (18 + i) (by omega) (by omega)]
  exact t i hi
/-- what is written of a test -/
def TS (σ : RSt) (h : mm_H) (W : List Int32) : Prop := (∃ m : Nat, m ≤ 900 ∧ fI h 151 11 = ni m) ∧ ∀ s, σ = .inr s → fI h 151 11 = ni W.length ∧ W.length ≤ s ∧ ∀ i t, W[i]? = some t → iA h 154 i = t
theorem TS.lf {g : mm_H} {σ σ' : RSt} {W : List Int32} (t : TS σ h W) (l : LF h g) (e : ∀ s', σ' = .inr s' → ∃ s, σ = .inr s ∧ s ≤ s') : TS σ' g W := by
  obtain ⟨⟨m, hm, em⟩, t2⟩ := t
  refine ⟨⟨m, hm, (l.2.2 11 (by omega)).1.trans em⟩, fun s' es => ?_⟩
  obtain ⟨s, e1, e2⟩ := e s' es
  obtain ⟨a1, a2, a3⟩ := t2 s e1
  exact ⟨(l.2.2 11 (by omega)).1.trans a1, by omega, fun i t ht => by rw [iA_c (l.2.1 154 (by decide))]; exact a3 i t ht⟩
theorem z_write (c : PS h) (hn : 159 ≤ n) (N9 : N ≤ 900) {σ : RSt} {W : List Int32} (k : Tk b N h σ) (t : TS σ h W) (lt : ∀ s, σ = .inr s → W.length + 1 ≤ s) (x : Int32) : ∃ g, q_X3_write K h n 151 x = some g ∧ XF h g ∧ Tk b N g σ ∧ TS σ g (W ++ [x]) := by
  obtain ⟨⟨m, hm, em⟩, t2⟩ := id t
  unfold q_X3_write
  simp only [g_151_11 c hn, em, Option.bind_some, g_151_10 c hn, gl_154 c hn]
  by_cases q : 900 ≤ m
  · rw [if_pos (show (900 : Int32) ≤ ni m from (ni_le (a := 900) (by omega) (by omega)).mpr q)]
    refine ⟨h, rfl, XF.id_ c, k, ⟨m, hm, em⟩, fun s es => ?_⟩
    obtain ⟨a1, a2, a3⟩ := t2 s es
    have e1 := lt s es
    rw [es] at k
    have e2 := k.1
    have e3 : m = W.length := (ni_inj (by omega) (by omega)).mp (em.symm.trans a1)
    omega
  · have i9 : inb (ni m) 900 = true := ni_inb (by omega) (by omega)
    have tm : (ni m).toNatClampNeg = m := ni_tn (by omega)
    have c1 : PS (mm_si h 154 m x) := ps_154 c _ _
    have e1 : fI (mm_si h 154 m x) 151 11 = ni m := by rw [fI_si, em]
    rw [if_neg (show ¬ (900 : Int32) ≤ ni m from fun z => q ((ni_le (a := 900) (by omega) (by omega)).mp z))]
    simp only [pe_154 c hn, i9, tm, if_true, Option.bind_some, g_151_11 c1 hn, e1, ni_1, p_151_11 c1 hn]
    have c2 : PS (mm_sf (mm_si h 154 m x) 151 11 (.int (ni (m + 1)))) := ps_151_11 c1 _
    have fk : ∀ j, j ≠ 11 → fI (mm_sf (mm_si h 154 m x) 151 11 (.int (ni (m + 1)))) 151 j = fI h 151 j := fun j hj => by rw [fI_sf_o hj, fI_si]
    refine ⟨_, rfl, ⟨c2, fun a h1 h2 => by rw [mm_sf_n h1, mm_si_n h2], fun j hj => ⟨fk j (by omega), by rw [fR_sf_o (by omega), fR_si]⟩⟩, ?_, ⟨m + 1, by omega, fs_151_11 c1 _⟩, fun s es => ?_⟩
    · cases σ with
      | inl p => exact ⟨k.1, (fk 2 (by decide)).trans k.2.1, (fk 5 (by decide)).trans k.2.2⟩
      | inr s => exact ⟨k.1, (fk 2 (by decide)).trans k.2.1, (fk 3 (by decide)).trans k.2.2.1, (fk 4 (by decide)).trans k.2.2.2.1, (fk 5 (by decide)).trans k.2.2.2.2⟩
    · obtain ⟨a1, a2, a3⟩ := t2 s es
      have hs := lt s es
      rw [es] at k
      have hsN := k.1
      have e3 : m = W.length := (ni_inj (by omega) (by omega)).mp (em.symm.trans a1)
      refine ⟨by rw [fs_151_11 c1, List.length_append, List.length_singleton, e3], by rw [List.length_append, List.length_singleton]; omega, fun i t ht => ?_⟩
      rw [iA_sf, is_154 c]
      by_cases hi : i < W.length
      · rw [List.getElem?_append_left hi] at ht
        rw [upd_n (by omega)]
        exact a3 i t ht
      · rw [List.getElem?_append_right (by omega)] at ht
        have h2 := (List.getElem?_eq_some_iff.mp ht).1
        rw [List.length_singleton] at h2
        have h3 : i = W.length := by omega
        subst h3
        rw [Nat.sub_self] at ht
        cases ht
        rw [← e3, upd_s]
theorem step_to (b : Nat → Nat) (N : Nat) (σ : RSt) : ∀ s', stpS b N σ = .inr s' → ∃ s, σ = .inr s ∧ s ≤ s' := fun s' e => by
  cases σ with
  | inl p => cases e
  | inr s =>
    have : s' = nx b N s := (Sum.inr.inj e).symm
    exact ⟨s, rfl, by rw [this]; exact nx_ge s⟩
theorem fail_to (σ : RSt) : ∀ s', flS σ = .inr s' → ∃ s, σ = .inr s ∧ s ≤ s' := fun s' e => by
  cases σ with
  | inl p => cases e
  | inr s => cases e
theorem pk_to (b : Nat → Nat) (N : Nat) (ws : List (List Nat)) (σ : RSt) : ∀ s', (pkS b N ws σ).2 = .inr s' → ∃ s, σ = .inr s ∧ s ≤ s' := fun s' e => by
  cases σ with
  | inl p => cases e
  | inr s =>
    obtain ⟨h1, h2, -⟩ := pkS_r e
    exact ⟨s, rfl, by rw [h2]; exact nx_ge s⟩
theorem nm_to (b : Nat → Nat) (N : Nat) (lo hi : Nat) (σ : RSt) : ∀ s', (nmS b N lo hi σ).2 = .inr s' → ∃ s, σ = .inr s ∧ s ≤ s' := fun s' e => by
  cases σ with
  | inl p => cases e
  | inr s =>
    obtain ⟨h1, h2, -⟩ := nmS_r e
    exact ⟨s, rfl, by rw [h2]; exact nx_ge s⟩
theorem sg_to (b : Nat → Nat) (N : Nat) (v : Nat) (σ : RSt) : ∀ s', sgS b N v σ = .inr s' → ∃ s, σ = .inr s ∧ s ≤ s' := fun s' e => by
  unfold sgS at e
  split at e
  · exact step_to b N σ s' e
  · exact fail_to σ s' e
/-- a comparison's end: a step, a number, what is written -/
theorem z_cmE (hK : 3000 ≤ K) (c : PS h) (hn : 159 ≤ n) (t : TX b N h) {σ : RSt} {W : List Int32} (k : Tk b N h σ) (ts : TS σ h W) (w : Int32) (sg : Nat) : ∃ g, ((q_X3_step K h n 151).bind fun v24 => (ckq v24 n 151 3).bind fun _ => (q_X3_number K v24 n 151 0 99999).bind fun v28 => (q_X5_comparison K v28.2 n w (ni sg) v28.1).bind fun v30 => (ckq v28.2 n 151 3).bind fun _ => (q_X3_write K v28.2 n 151 v30).bind fun v34 => some v34) = some g ∧ XF h g ∧ Tk b N g (cmE b N w sg σ).2 ∧ TS (cmE b N w sg σ).2 g (W ++ (cmE b N w sg σ).1) := by
  obtain ⟨g1, f1, l1, k1⟩ := z_step hK c hn t k
  obtain ⟨g2, f2, l2, k2⟩ := z_number hK l1.1 hn (t.lf l1) (lo := 0) (hi := 99999) (by omega) (by omega) k1
  have f2' : q_X3_number K g1 n 151 0 99999 = some ((nmS b N 0 99999 (stpS b N σ)).1, g2) := f2
  have ts2 := (ts.lf l1 (step_to b N σ)).lf l2 (nm_to b N 0 99999 (stpS b N σ))
  obtain ⟨g3, f3, l3, k3, ts3⟩ := z_write (K := K) l2.1 hn t.2.2.1 k2 ts2 (fun s' e => by
    cases σ with
    | inl p => cases e
    | inr s =>
      have e' : (nmS b N 0 99999 (.inr (nx b N s))).2 = .inr s' := e
      obtain ⟨h1, h2, -⟩ := nmS_r e'
      have a := (ts.2 s rfl).2.1
      have := nx_gt (b := b) h1
      have := nx_ge (b := b) (N := N) s
      omega) (((nmS b N 0 99999 (stpS b N σ)).1 * 5 + w) * 3 + ni sg)
  refine ⟨g3, ?_, (l1.xf.trans l2.xf).trans l3, k3, ts3⟩
  simp only [f1, Option.bind_some, gq_151 l1.1 hn, f2', q_X5_comparison, gq_151 l2.1 hn, f3]
theorem z_cmp (hK : 3000 ≤ K) (c : PS h) (hn : 159 ≤ n) (T : TXT h) (t : TX b N h) {σ : RSt} {W : List Int32} (k : Tk b N h σ) (ts : TS σ h W) : ∃ g, q_X3_comparison K h n 151 = some g ∧ XF h g ∧ Tk b N g (cmS b N σ).2 ∧ TS (cmS b N σ).2 g (W ++ (cmS b N σ).1) := by
  obtain ⟨g1, f1, l1, k1⟩ := z_pick hK c hn T t (i := 14) (by omega) k
  have f1' : q_X3_pick K h n 151 (some 17) = some ((pkS b N (wds 14) σ).1, g1) := f1
  have ts1 := ts.lf l1 (pk_to b N (wds 14) σ)
  have t1 := t.lf l1
  have s0 := z_isSign (K := K) l1.1 hn t1 (v := 60) (by omega) k1
  have s1 := z_isSign (K := K) l1.1 hn t1 (v := 62) (by omega) k1
  have s2 := z_isSign (K := K) l1.1 hn t1 (v := 61) (by omega) k1
  have s0' : q_X3_isSign K g1 n 151 60 = some (if isG b N 60 (pkS b N (wds 14) σ).2 = true then 1 else 0) := s0
  have s1' : q_X3_isSign K g1 n 151 62 = some (if isG b N 62 (pkS b N (wds 14) σ).2 = true then 1 else 0) := s1
  have s2' : q_X3_isSign K g1 n 151 61 = some (if isG b N 61 (pkS b N (wds 14) σ).2 = true then 1 else 0) := s2
  have fin : ∀ sg, ∃ g, ((q_X3_step K g1 n 151).bind fun v24 => (ckq v24 n 151 3).bind fun _ => (q_X3_number K v24 n 151 0 99999).bind fun v28 => (q_X5_comparison K v28.2 n (pkS b N (wds 14) σ).1 (ni sg) v28.1).bind fun v30 => (ckq v28.2 n 151 3).bind fun _ => (q_X3_write K v28.2 n 151 v30).bind fun v34 => some v34) = some g ∧ XF h g ∧ Tk b N g (cmE b N (pkS b N (wds 14) σ).1 sg (pkS b N (wds 14) σ).2).2 ∧ TS (cmE b N (pkS b N (wds 14) σ).1 sg (pkS b N (wds 14) σ).2).2 g (W ++ (cmE b N (pkS b N (wds 14) σ).1 sg (pkS b N (wds 14) σ).2).1) := fun sg => by
    obtain ⟨g, e1, e2, e3⟩ := z_cmE hK l1.1 hn t1 k1 ts1 (pkS b N (wds 14) σ).1 sg
    exact ⟨g, e1, l1.xf.trans e2, e3⟩
  have n10 : ¬ (1 : Int32) = 0 := by decide
  unfold q_X3_comparison cmS
  simp only [gq_151 c hn, Option.bind_some, f1', gq_151 l1.1 hn, s0', s1', s2']
  by_cases q0 : isG b N 60 (pkS b N (wds 14) σ).2 = true
  · rw [if_pos q0, if_pos q0, if_neg n10]
    exact fin 0
  rw [if_neg q0, if_neg q0, if_pos rfl]
  by_cases q1 : isG b N 62 (pkS b N (wds 14) σ).2 = true
  · rw [if_pos q1, if_pos q1, if_neg n10]
    exact fin 1
  rw [if_neg q1, if_neg q1, if_pos rfl]
  by_cases q2 : isG b N 61 (pkS b N (wds 14) σ).2 = true
  · rw [if_pos q2, if_pos q2, if_neg n10]
    exact fin 2
  rw [if_neg q2, if_neg q2, if_pos rfl]
  obtain ⟨g2, f2, l2, k2⟩ := z_fail (K := K) l1.1 hn t1 k1
  rw [f2]
  refine ⟨g2, rfl, l1.xf.trans l2.xf, k2, ?_⟩
  show TS _ g2 (W ++ [])
  rw [List.append_nil]
  exact ts1.lf l2 (fail_to _)
/-- a method reads what its spec says -/
def XP (n : Nat) (b : Nat → Nat) (N o : Nat) (f : mm_H → Nat → Nat → Int32 → Option mm_H) (e : RSt → List Int32 × RSt) : Prop := ∀ (h : mm_H) (σ : RSt) (W : List Int32), PS h → TXT h → TX b N h → Tk b N h σ → TS σ h W → ∃ g, f h n 151 (ni o) = some g ∧ XF h g ∧ Tk b N g (e σ).2 ∧ TS (e σ).2 g (W ++ (e σ).1)
theorem loop_c (hK : 3000 ≤ K) (hn : 159 ≤ n) {o i0 : Nat} {w : List Nat} {op : Int32} {f : mm_H → Nat → Nat → Int32 → Option mm_H} {e : RSt → List Int32 × RSt} (hi0 : i0 < 15) (hw : wds i0 = [w]) (X : XP n b N o f e) {cc : Nat} (G : ∀ s, s < N → Gd N o cc (nx b N s) (e (.inr (nx b N s)))) {lp : Nat → Int32 → mm_H → Option mm_H}
    (elp : ∀ k i h, lp (k + 1) i h = if 900 ≤ i then some h else (ckq h n 151 3).bind fun _ => (q_X3_isWord K h n 151 (some (3 + i0))).bind fun v7 => if v7 = 0 then some h else (ckq h n 151 3).bind fun _ => (q_X3_step K h n 151).bind fun v11 => (ckq v11 n 151 3).bind fun _ => (f v11 n 151 (ni o)).bind fun v15 => (ckq v15 n 151 3).bind fun _ => (q_X3_write K v15 n 151 op).bind fun v19 => lp k (i + 1) v19) :
    ∀ (m i k : Nat) (h : mm_H) (σ : RSt) (W L : List Int32), i + m = 900 → m < k → PS h → TXT h → TX b N h → Tk b N h σ → TS σ h (W ++ L) → ∃ g, lp k (ni i) h = some g ∧ XF h g ∧ Tk b N g (lpO b N w op e m L σ).2 ∧ TS (lpO b N w op e m L σ).2 g (W ++ (lpO b N w op e m L σ).1) := by
  have n10 : ¬ (1 : Int32) = 0 := by decide
  intro m
  induction m with
  | zero =>
    intro i k h σ W L hi hk c T t kk ts
    obtain ⟨k, rfl⟩ : ∃ x, k = x + 1 := ⟨k - 1, by omega⟩
    have : i = 900 := by omega
    subst this
    rw [elp, if_pos (by decide)]
    exact ⟨h, rfl, XF.id_ c, kk, ts⟩
  | succ m ih =>
    intro i k h σ W L hi hk c T t kk ts
    obtain ⟨k, rfl⟩ : ∃ x, k = x + 1 := ⟨k - 1, by omega⟩
    rw [elp, if_neg (fun q => by have := (ni_le (a := 900) (by omega) (by omega)).mp q; omega), gq_151 c hn, Option.bind_some, z_isWord hK c hn T t hi0 hw kk, Option.bind_some]
    unfold lpO
    by_cases q : isWS b N w σ = true
    · rw [if_pos q, if_pos q, if_neg n10, Option.bind_some]
      obtain ⟨g1, f1, l1, k1⟩ := z_step hK c hn t kk
      obtain ⟨g2, f2, l2, k2, ts2⟩ := X g1 (stpS b N σ) (W ++ L) l1.1 (T.xf l1.xf) (t.lf l1) k1 (ts.lf l1 (step_to b N σ))
      obtain ⟨g3, f3, l3, k3, ts3⟩ := z_write (K := K) l2.1 hn t.2.2.1 k2 ts2 (fun s' es => by
        cases σ with
        | inl p => cases q
        | inr s =>
          have hsN := isW_lt (b := b) q
          have a := (ts.2 s rfl).2.1
          have a1 : nx b N s + (e (stpS b N (.inr s))).1.length ≤ s' := (G s hsN s' es).1
          have := nx_gt (b := b) hsN
          rw [List.length_append]
          omega) op
      have ts3' : TS (e (stpS b N σ)).2 g3 (W ++ (L ++ ((e (stpS b N σ)).1 ++ [op]))) := by
        rw [← List.append_assoc, ← List.append_assoc]
        exact ts3
      have l13 := (l1.xf.trans l2).trans l3
      obtain ⟨g4, f4, l4, k4, ts4⟩ := ih (i + 1) k g3 _ W _ (by omega) (by omega) l3.1 (T.xf l13) (t.xf l13) k3 ts3'
      refine ⟨g4, ?_, l13.trans l4, k4, ts4⟩
      simp only [f1, Option.bind_some, gq_151 l1.1 hn, f2, gq_151 l2.1 hn, f3, ni_1]
      exact f4
    · rw [if_neg q, if_neg q, if_pos rfl]
      exact ⟨h, rfl, XF.id_ c, kk, ts⟩
theorem z_expr (hK : 3000 ≤ K) (hn : 159 ≤ n) : ∀ (d : Nat), (∀ o, o ≤ 10 → 3 * (10 - o) + 3 ≤ d → XP n b N o (g_X3_expr K d).1 ((exS b N d).1 o)) ∧ (∀ o, o ≤ 10 → 3 * (10 - o) + 2 ≤ d → XP n b N o (g_X3_expr K d).2.1 ((exS b N d).2.1 o)) ∧ (∀ o, o ≤ 10 → 3 * (10 - o) + 1 ≤ d → XP n b N o (g_X3_expr K d).2.2 ((exS b N d).2.2 o))
  | 0 => ⟨fun o _ q => by omega, fun o _ q => by omega, fun o _ q => by omega⟩
  | d + 1 => by
    obtain ⟨h1, h2, h3⟩ := z_expr hK hn d
    obtain ⟨y1, y2, y3⟩ := exS_gd (b := b) (N := N) d
    refine ⟨fun o ho hd => ?_, fun o ho hd => ?_, fun o ho hd => ?_⟩
    · intro h σ W c T t kk ts
      obtain ⟨g1, f1, l1, k1, ts1⟩ := h2 o ho (by omega) h σ W c T t kk ts
      obtain ⟨g2, f2, l2, k2, ts2⟩ := loop_c (K := K) hK hn (i0 := 11) (op := -3) (by omega) wds_or (h2 o ho (by omega)) (fun s q => y2 o _ (nx_le (by omega))) (lp := lp_X3_any_7 K (g_X3_expr K d) n 151 (ni o)) (fun _ _ _ => rfl) 900 0 K g1 _ W _ rfl (by omega) l1.1 (T.xf l1) (t.xf l1) k1 ts1
      have f2' : lp_X3_any_7 K (g_X3_expr K d) n 151 (ni o) K 0 g1 = some g2 := f2
      refine ⟨g2, ?_, l1.trans l2, k2, ts2⟩
      show b_X3_any K (g_X3_expr K d) h n 151 (ni o) = _
      unfold b_X3_any
      rw [gq_151 c hn, Option.bind_some, f1, Option.bind_some, f2']
      rfl
    · intro h σ W c T t kk ts
      obtain ⟨g1, f1, l1, k1, ts1⟩ := h3 o ho (by omega) h σ W c T t kk ts
      obtain ⟨g2, f2, l2, k2, ts2⟩ := loop_c (K := K) hK hn (i0 := 12) (op := -2) (by omega) wds_and (h3 o ho (by omega)) (fun s q => y3 o _ (nx_le (by omega))) (lp := lp_X3_all_7 K (g_X3_expr K d) n 151 (ni o)) (fun _ _ _ => rfl) 900 0 K g1 _ W _ rfl (by omega) l1.1 (T.xf l1) (t.xf l1) k1 ts1
      have f2' : lp_X3_all_7 K (g_X3_expr K d) n 151 (ni o) K 0 g1 = some g2 := f2
      refine ⟨g2, ?_, l1.trans l2, k2, ts2⟩
      show b_X3_all K (g_X3_expr K d) h n 151 (ni o) = _
      unfold b_X3_all
      rw [gq_151 c hn, Option.bind_some, f1, Option.bind_some, f2']
      rfl
    · intro h σ W c T t kk ts
      show ∃ g, b_X3_one K (g_X3_expr K d) h n 151 (ni o) = some g ∧ XF h g ∧ Tk b N g (oneB b N (exS b N d).1 (exS b N d).2.2 o σ).2 ∧ TS (oneB b N (exS b N d).1 (exS b N d).2.2 o σ).2 g (W ++ (oneB b N (exS b N d).1 (exS b N d).2.2 o σ).1)
      have n10 : ¬ (1 : Int32) = 0 := by decide
      have iw := z_isWord hK c hn T t (i := 13) (by omega) wds_not kk
      have iw' : q_X3_isWord K h n 151 (some 16) = some (if isWS b N wNot σ = true then 1 else 0) := iw
      have is := z_isSign (K := K) c hn t (v := 40) (by omega) kk
      have is' : q_X3_isSign K h n 151 40 = some (if isG b N 40 σ = true then 1 else 0) := is
      have ho10 : (ni o < 10) = (o < 10) := propext (ni_lt (b := 10) (by omega) (by omega))
      obtain ⟨gf, ff, lf, kf⟩ := z_fail (K := K) c hn t kk
      obtain ⟨g1, f1, l1, k1⟩ := z_step hK c hn t kk
      have bad : ∃ g, ((q_X3_fail K h n 151).bind fun v59 => some v59) = some g ∧ XF h g ∧ Tk b N g (flS σ) ∧ TS (flS σ) g (W ++ []) := ⟨gf, by rw [ff]; rfl, lf.xf, kf, by rw [List.append_nil]; exact ts.lf lf (fail_to σ)⟩
      unfold b_X3_one oneB
      rw [gq_151 c hn, Option.bind_some, iw', Option.bind_some]
      by_cases q : isWS b N wNot σ = true
      · have v1 : (if isWS b N wNot σ = true then (1 : Int32) else 0) = 1 := if_pos q
        rw [v1, if_neg n10, if_pos q]
        by_cases o10 : o < 10
        · rw [if_pos (show ni o < 10 from ho10.mpr o10), if_pos o10]
          obtain ⟨g2, f2, l2, k2, ts2⟩ := h3 (o + 1) (by omega) (by omega) g1 _ W l1.1 (T.xf l1.xf) (t.lf l1) k1 (ts.lf l1 (step_to b N σ))
          obtain ⟨g3, f3, l3, k3, ts3⟩ := z_write (K := K) l2.1 hn t.2.2.1 k2 ts2 (fun s' es => by
            cases σ with
            | inl p => cases q
            | inr s =>
              have hsN := isW_lt (b := b) q
              have a := (ts.2 s rfl).2.1
              have a1 : nx b N s + ((exS b N d).2.2 (o + 1) (stpS b N (.inr s))).1.length ≤ s' := (y3 (o + 1) _ (nx_le (by omega)) s' es).1
              have := nx_gt (b := b) hsN
              rw [List.length_append]
              omega) (-1)
          refine ⟨g3, ?_, (l1.xf.trans l2).trans l3, k3, by rw [← List.append_assoc]; exact ts3⟩
          simp only [Option.bind_some, f1, n10, if_false, gq_151 l1.1 hn, ni_1, f2, gq_151 l2.1 hn, f3]
        · rw [if_neg (show ¬ ni o < 10 from fun z => o10 (ho10.mp z)), if_neg o10, Option.bind_some]
          exact bad
      · have v0 : (if isWS b N wNot σ = true then (1 : Int32) else 0) = 0 := if_neg q
        rw [v0, if_pos rfl, if_neg q, Option.bind_some, is', Option.bind_some]
        by_cases q2 : isG b N 40 σ = true
        · have v1 : (if isG b N 40 σ = true then (1 : Int32) else 0) = 1 := if_pos q2
          rw [v1, if_neg n10, if_pos q2]
          by_cases o10 : o < 10
          · rw [if_pos (show ni o < 10 from ho10.mpr o10), if_pos o10]
            obtain ⟨g2, f2, l2, k2, ts2⟩ := h1 (o + 1) (by omega) (by omega) g1 _ W l1.1 (T.xf l1.xf) (t.lf l1) k1 (ts.lf l1 (step_to b N σ))
            have l12 := l1.xf.trans l2
            obtain ⟨g3, f3, l3, k3⟩ := z_sign hK l2.1 hn (t.xf l12) (v := 41) (by omega) k2
            have f3' : q_X3_sign K g2 n 151 41 = some g3 := f3
            refine ⟨g3, ?_, l12.trans l3.xf, k3, ts2.lf l3 (sg_to b N 41 _)⟩
            simp only [Option.bind_some, f1, if_true, gq_151 l1.1 hn, ni_1, f2, gq_151 l2.1 hn, f3']
          · rw [if_neg (show ¬ ni o < 10 from fun z => o10 (ho10.mp z)), if_neg o10, Option.bind_some]
            exact bad
        · have v0' : (if isG b N 40 σ = true then (1 : Int32) else 0) = 0 := if_neg q2
          rw [v0', if_pos rfl, if_neg q2, Option.bind_some]
          obtain ⟨g2, f2, r⟩ := z_cmp hK c hn T t kk ts
          rw [f2]
          exact ⟨g2, rfl, r⟩
end EXPRC

/-! ===== the model reads a rule of its own ===== -/
section OWNM
variable {K n : Nat} {b : Nat → Nat} {N : Nat}
/-- what a rule of its own keeps -/
def OWF (r m : Nat) (h g : mm_H) : Prop := PS g ∧ (∀ a, a ≠ 159 → a ≠ 178 → a ≠ 181 → a < 182 ∨ 196 < a → g a = h a) ∧ (∀ k, k ≠ 28 → k ≠ 54 → k ≠ 55 → k ≠ 29 → fI g 159 k = fI h 159 k ∧ fJ g 159 k = fJ h 159 k ∧ fR g 159 k = fR h 159 k) ∧ (∀ i, i ≠ 13 → iA g 178 i = iA h 178 i ∧ iA g 181 i = iA h 181 i) ∧ (∀ a, 182 ≤ a → a ≤ 190 → ∀ i, i ≠ r → iA g a i = iA h a i) ∧ ∀ a, 191 ≤ a → a ≤ 196 → ∀ i, i < 84500 + m → iA g a i = iA h a i
theorem OWF.trans {r m : Nat} {h g f : mm_H} (x : OWF r m h g) (y : OWF r m g f) : OWF r m h f := ⟨y.1, fun a h1 h2 h3 h4 => (y.2.1 a h1 h2 h3 h4).trans (x.2.1 a h1 h2 h3 h4), fun k h1 h2 h3 h4 => ⟨(y.2.2.1 k h1 h2 h3 h4).1.trans (x.2.2.1 k h1 h2 h3 h4).1, (y.2.2.1 k h1 h2 h3 h4).2.1.trans (x.2.2.1 k h1 h2 h3 h4).2.1, (y.2.2.1 k h1 h2 h3 h4).2.2.trans (x.2.2.1 k h1 h2 h3 h4).2.2⟩, fun i hi => ⟨(y.2.2.2.1 i hi).1.trans (x.2.2.2.1 i hi).1, (y.2.2.2.1 i hi).2.trans (x.2.2.2.1 i hi).2⟩, fun a h1 h2 i hi => (y.2.2.2.2.1 a h1 h2 i hi).trans (x.2.2.2.2.1 a h1 h2 i hi), fun a h1 h2 i hi => (y.2.2.2.2.2 a h1 h2 i hi).trans (x.2.2.2.2.2 a h1 h2 i hi)⟩
theorem WF.ow {r m : Nat} {h g : mm_H} (x : WF r h g) : OWF r m h g := ⟨x.1, fun a h1 _ _ h4 => x.2.1 a h1 (by omega), fun k h1 h2 h3 _ => x.2.2.1 k h1 h2 h3, fun i _ => ⟨by rw [iA_c (x.2.1 178 (by decide) (by omega))], by rw [iA_c (x.2.1 181 (by decide) (by omega))]⟩, x.2.2.2, fun a h1 h2 i _ => by rw [iA_c (x.2.1 a (by omega) (by omega))]⟩
theorem NF.ow {r m : Nat} {h g : mm_H} (x : NF m h g) : OWF r m h g := ⟨x.1, fun a h1 _ h3 h4 => x.2.1 a h1 h3 (by omega), x.2.2.1, fun i hi => ⟨by rw [iA_c (x.2.1 178 (by decide) (by decide) (by omega))], x.2.2.2.1 i hi⟩, fun a h1 h2 i _ => by rw [iA_c (x.2.1 a (by omega) (by omega) (by omega))], x.2.2.2.2⟩
theorem TM.ow {r m : Nat} {h g : mm_H} (t : TM b N h) (l : OWF r m h g) : TM b N g := ⟨(l.2.2.1 27 (by decide) (by decide) (by decide) (by decide)).1.trans t.1, t.2.1, fun k hk => by rw [iA_c (l.2.1 199 (by decide) (by decide) (by decide) (by omega))]; exact t.2.2 k hk⟩
theorem BR.c {g f : mm_H} {r : Nat} {k : Int32} {v : V9} (e : ∀ x, 182 ≤ x → x ≤ 189 → iA f x r = iA g x r) (B : BR g r k v) : BR f r k v := by
  unfold BR at B ⊢
  rw [e 182 (by omega) (by omega), e 183 (by omega) (by omega), e 184 (by omega) (by omega), e 185 (by omega) (by omega), e 186 (by omega) (by omega), e 187 (by omega) (by omega), e 188 (by omega) (by omega), e 189 (by omega) (by omega)]
  exact B
theorem BR.row {g : mm_H} {r lo hi : Nat} {k : Int32} {v : V9} {st : Stm} (B : BR g r k v) (ok : sOk st) (hV : ∀ u, vV k v u = ruleV st u) (h190 : (sT st = [] ∧ iA g 190 r = -1) ∨ (sT st ≠ [] ∧ ∃ q, iA g 190 r = ni q ∧ nodeR g lo hi 40 q (sT st))) : rowR g lo hi r st := by
  have h := hV 0
  simp only [vV, ruleV, List.cons.injEq, Value.int.injEq, and_true] at h
  obtain ⟨v0, v1, v2, v3, v4, v5, v6, v7, v8, v9⟩ := h
  obtain ⟨b1, b2, b3, b4, b5, b6⟩ := B
  obtain ⟨o1, -, -, -, o5, -⟩ := ok
  have kn : ∀ j : Nat, j < 9 → ((k = ni j) ↔ sK st = j) := fun j hj => by rw [v0]; exact ni_inj (by omega) (by omega)
  have k0 : k = 0 ↔ sK st = 0 := kn 0 (by omega)
  have k1 : k = 1 ↔ sK st = 1 := kn 1 (by omega)
  have k2 : k = 2 ↔ sK st = 2 := kn 2 (by omega)
  refine ⟨b1.trans v0, ?_, fun z => ?_, ?_, fun z => ?_, fun z => ?_, h190⟩
  · rw [b2, v1]
    by_cases q : sK st ≤ 2
    · rw [if_pos q]
    · rw [if_neg q, (o5 (by omega)).1]
      rfl
  · rcases z with z | z
    · rw [(b3 (k0.mpr z)).1, v2, if_pos (Or.inl z)]
    · rw [(b5 (k2.mpr z)).1, v2, if_pos (Or.inr z)]
  · by_cases q0 : sK st = 0
    · rw [(b3 (k0.mpr q0)).2.1, v3, if_pos q0]
    by_cases q1 : sK st = 1
    · rw [(b4 (k1.mpr q1)).1, v4, if_neg q0]
    by_cases q2 : sK st = 2
    · rw [(b5 (k2.mpr q2)).2.1, v4, if_neg q0]
    · rw [b6 (fun y => q0 (k0.mp y)) (fun y => q1 (k1.mp y)) (fun y => q2 (k2.mp y)), v4, if_neg q0]
  · by_cases q0 : sK st = 0
    · rw [(b3 (k0.mpr q0)).2.2, v4, if_pos q0]
    by_cases q1 : sK st = 1
    · rw [(b4 (k1.mpr q1)).2, v5, if_pos q1]
    · have q2 : sK st = 2 := by omega
      rw [(b5 (k2.mpr q2)).2.2.1, v6, if_pos q2]
  · obtain ⟨-, -, -, c1, c2, c3⟩ := b5 (k2.mpr z)
    rw [c1, c2, c3, v7, v8, v9, if_pos z, if_pos z, if_pos z]
    exact ⟨rfl, rfl, rfl⟩
theorem bodyS_gt {k : Int32} {s1 s2 : Nat} (e : (bodyS b N k (.inr s1)).2 = .inr s2) : s1 < s2 := by
  have pl : ∀ lo hi, (plS_ b N lo hi (.inr s1)).2 = .inr s2 → s1 < s2 := fun lo hi e => by
    obtain ⟨u, v, x, -, -, -, q, -⟩ := nm_inv (show (nmS b N lo hi (.inr s1)).2 = .inr s2 from e)
    cases x
    exact q
  unfold bodyS at e
  by_cases k0 : k = 0
  · rw [if_pos k0, alS_2] at e
    have go : ∀ u, (pkS b N (wds 5) (pkS b N (wds 3) (.inr s1)).2).2 = .inr u → s1 < u := fun u h => by
      obtain ⟨u2, i2, x2, -, -, q2, -⟩ := pk_inv h
      obtain ⟨u3, i3, x3, -, -, q3, -⟩ := pk_inv x2
      cases x3
      omega
    split at e
    · obtain ⟨u, v, x, -, -, -, q, -⟩ := nm_inv e
      have := go u x
      omega
    · obtain ⟨u, v, x, -, -, -, q, -⟩ := nm_inv e
      obtain ⟨u', v', x', -, -, -, q', -⟩ := nm_inv x
      have := go u' x'
      omega
  rw [if_neg k0] at e
  by_cases k1 : k = 1
  · rw [if_pos k1] at e
    obtain ⟨u, v, x, -, -, -, q, -⟩ := nm_inv (show (nmS b N 0 100 (nmS b N 0 100 (pkS b N (wds 3) (.inr s1)).2).2).2 = .inr s2 from e)
    obtain ⟨u', v', x', -, -, -, q', -⟩ := nm_inv x
    obtain ⟨u3, i3, x3, -, -, q3, -⟩ := pk_inv x'
    cases x3
    omega
  rw [if_neg k1] at e
  by_cases k2 : k = 2
  · rw [if_pos k2, tgS_2] at e
    obtain ⟨u1, v1, x1, -, -, -, q1, -⟩ := nm_inv e
    obtain ⟨u2, v2, x2, -, -, q2, -⟩ := pk_inv x1
    obtain ⟨u3, v3, x3, -, -, -, q3, -⟩ := nm_inv x2
    obtain ⟨u4, v4, x4, -, -, q4, -⟩ := pk_inv x3
    obtain ⟨u5, v5, x5, -, -, -, q5, -⟩ := nm_inv x4
    obtain ⟨u6, v6, x6, -, -, q6, -⟩ := pk_inv x5
    obtain ⟨u7, v7, x7, -, -, -, q7, -⟩ := nm_inv x6
    obtain ⟨u8, v8, x8, -, -, q8, -⟩ := pk_inv x7
    obtain ⟨u9, v9, x9, -, -, -, q9, -⟩ := nm_inv x8
    obtain ⟨ua, va, xa, -, -, qa, -⟩ := pk_inv x9
    obtain ⟨ub, vb, xb, -, -, -, qb, -⟩ := nm_inv xa
    cases xb
    omega
  rw [if_neg k2] at e
  split at e
  · exact pl _ _ e
  · split at e
    · exact pl _ _ e
    · exact pl _ _ e
theorem okC_unl : okC wUnl 129117125440371 := by decide +kernel
theorem bodyS_l (k : Int32) (p : Nat) : (bodyS b N k (.inl p)).2 = .inl p := by
  unfold bodyS
  split
  · rw [alS_2]
    exact if_neg (show ¬ (-1 : Int32) = 3 by decide)
  · split
    · rfl
    · split
      · rfl
      · split
        · rfl
        · split <;> rfl
theorem ruleS_2 (σ : RSt) : (ruleS b N σ).2 = (tailS b N (bodyS b N (pkS b N (wds 2) σ).1 (pkS b N (wds 2) σ).2).2).2 := rfl
theorem z_cnt (hn : 208 ≤ n) {g : mm_H} (c : PS g) {M : Nat} (e : iA g 178 13 = ni M) (r m : Nat) : ∃ f, ((rdR g n 159 10 32).bind fun v26 => v26.bind fun a28 => (ldI g n a28 13).bind fun v30 => (stI g n a28 13 (v30 + 1)).bind fun h32 => some ((1 : Int32), h32)) = some (1, f) ∧ OWF r m g f ∧ iA f 178 13 = ni (M + 1) ∧ ∀ a, a ≠ 178 → f a = g a := by
  have i13 : inb (13 : Int32) 14 = true := by decide
  have t13 : (13 : Int32).toNatClampNeg = 13 := by decide
  have c2 : PS (mm_si g 178 13 (ni (M + 1))) := ps_178 c _ _
  have o2 : ∀ a, a ≠ 178 → mm_si g 178 13 (ni (M + 1)) a = g a := fun a h => mm_si_n h
  have e2 : iA (mm_si g 178 13 (ni (M + 1))) 178 = upd (iA g 178) 13 (ni (M + 1)) := is_178 c _ _
  refine ⟨mm_si g 178 13 (ni (M + 1)), ?_, ⟨c2, fun a _ h _ _ => o2 a h, fun k _ _ _ _ => ⟨fI_c (o2 159 (by decide)) k, fJ_c (o2 159 (by decide)) k, fR_c (o2 159 (by decide)) k⟩, fun i hi => ⟨by rw [e2, upd_n hi], by rw [iA_c (o2 181 (by decide))]⟩, fun a h1 h2 i _ => by rw [iA_c (o2 a (by omega))], fun a h1 h2 i _ => by rw [iA_c (o2 a (by omega))]⟩, by rw [e2, upd_s], o2⟩
  simp only [g_159_32 c hn, Option.bind_some, ge_178 c hn, i13, t13, if_true, e, ni_1, pe_178 c hn]
theorem z_ownM (hK : 3000 ≤ K) (hn : 208 ≤ n) {h : mm_H} (c : PS h) (hT : TM b N h) {s M m : Nat} (k : Mk b N h (.inr s)) (eM : iA h 178 13 = ni M) (hM : M < 300) (em : iA h 181 13 = ni m) (hm : 5 * m ≤ 4 * s + 28790) : ∃ v g, q_X11_own K h n 159 = some (v, g) ∧ OWF (3900 + M) m h g ∧ (∀ s', (ruleS b N (.inr s)).2 = .inr s' → v = 1 ∧ iA g 178 13 = ni (M + 1) ∧ Mk b N g (.inr s') ∧ ∃ m', iA g 181 13 = ni m' ∧ m ≤ m' ∧ 5 * m' + 4 * s ≤ 4 * s' + 5 * m ∧ rowR g 84500 (84500 + m') (3900 + M) (vK (ruleS b N (.inr s)).1.1 (ruleS b N (.inr s)).1.2.1 (ruleS b N (.inr s)).1.2.2)) ∧ ∀ p, (ruleS b N (.inr s)).2 = .inl p → v = 0 ∧ iA g 178 13 = ni M ∧ Mk b N g (.inl p) := by
  have hr : 3900 + M < 4200 := by omega
  have N9 := hT.2.1
  obtain ⟨hs, -⟩ := k.le
  have i13 : inb (13 : Int32) 14 = true := by decide
  have t13 : (13 : Int32).toNatClampNeg = 13 := by decide
  have ad : (3900 : Int32) + ni M = ni (3900 + M) := ni_add 3900 M
  have S0 : ST b N (3900 + M) h h s := ⟨(ML.id_ c).wf _, hT, k⟩
  have R0 := z_ruleM (K := K) hK hn hr hT S0
  rw [ruleS_2]
  have eL : (ruleS b N (.inr s)).1.2.2 = (tailS b N (bodyS b N (pkS b N (wds 2) (.inr s)).1 (pkS b N (wds 2) (.inr s)).2).2).1 := rfl
  unfold q_X11_own
  simp only [g_159_32 c hn, Option.bind_some, ge_178 c hn, i13, t13, if_true, eM, ad, gq_159 c hn]
  rcases z_clX hT R0 with ⟨p, g1, f1, e1, o1⟩ | ⟨s2, g1, f1, e1, S1, B1⟩
  · rw [f1, Option.bind_some, if_pos rfl, e1]
    have o := o1 (fun _ => True)
    refine ⟨0, g1, rfl, o.1.ow, (fun s' z => by cases z), fun p' z => ?_⟩
    cases z
    exact ⟨rfl, by rw [iA_c (o.1.2.1 178 (by decide) (by omega))]; exact eM, o.2.1⟩
  -- the body is read
  obtain ⟨w1, t1, k1⟩ := S1
  obtain ⟨w2, kk2, d2⟩ := WF.si w1.1 (a := 190) (by omega) (3900 + M) (-1)
  have e178 : iA (mm_si g1 190 (3900 + M) (-1)) 178 13 = ni M := by rw [iA_si_n (by decide), iA_c (w1.2.1 178 (by decide) (by omega))]; exact eM
  have e181 : iA (mm_si g1 190 (3900 + M) (-1)) 181 13 = ni m := by rw [iA_si_n (by decide), iA_c (w1.2.1 181 (by decide) (by omega))]; exact em
  have B2 : BR (mm_si g1 190 (3900 + M) (-1)) (3900 + M) _ _ := B1.c (fun x h1 h2 => by rw [iA_si_n (by omega)])
  have d190 : iA (mm_si g1 190 (3900 + M) (-1)) 190 (3900 + M) = -1 := by rw [d2, upd_s]
  rw [f1, Option.bind_some, if_neg (show ¬ (1 : Int32) = 0 by decide), g_159_44 w1.1 hn, Option.bind_some, Option.bind_some, st_rw w1.1 hn (by omega) hr, Option.bind_some, gq_159 w2.1 hn, Option.bind_some, e1]
  have k2 : Mk b N (mm_si g1 190 (3900 + M) (-1)) (.inr s2) := k1.ml (fI_c kk2 28)
  have t2 := t1.wf w2
  have w12 := w1.trans w2
  generalize mm_si g1 190 (3900 + M) (-1) = g2 at *
  obtain ⟨hs2, -⟩ := k2.le
  obtain ⟨g3, f3, l3, y1, y2⟩ := z_takes hK w2.1 hn t2 k2 okC_unl
  have w3 := w12.trans (l3.wf (3900 + M))
  have s3 : ∀ x, x ≠ 159 → iA g3 x = iA g2 x := fun x hx => iA_c (l3.2.1 x hx)
  rw [f3, Option.bind_some]
  -- where the tail begins
  have lb : s + 4 ≤ s2 := by
    cases ep : (pkS b N (wds 2) (.inr s)).2 with
    | inl p => rw [ep, bodyS_l] at e1; cases e1
    | inr s1 =>
      rw [ep] at e1
      have h1 := bodyS_gt e1
      obtain ⟨h2, h3, i, -, h4, -⟩ := pkS_r ep
      obtain ⟨-, h5⟩ := pkW_long (c := 3) (wds 2) 0 (by decide +kernel) h4
      have h6 := h5 hs
      have h7 := sk_ge (b := b) (N := N) (tee b N s)
      have h8 : s1 = sk b N (tee b N s) := h3
      omega
  -- the end of a rule
  have fin : ∀ (g : mm_H) (s4 m' : Nat), OWF (3900 + M) m h g → Mk b N g (.inr s4) → iA g 178 13 = ni M → iA g 181 13 = ni m' → m ≤ m' → 5 * m' + 4 * s ≤ 4 * s4 + 5 * m + 4 → (∀ s', sgS b N 59 (.inr s4) = .inr s' → ∀ f, (∀ a, 182 ≤ a → a ≤ 196 → iA f a = iA g a) → rowR f 84500 (84500 + m') (3900 + M) (vK (ruleS b N (.inr s)).1.1 (ruleS b N (.inr s)).1.2.1 (ruleS b N (.inr s)).1.2.2)) → ∃ v g', ((q_X11_takesSign K g n 159 59).bind fun v24 => if v24.1 = 0 then some ((0 : Int32), v24.2) else (rdR v24.2 n 159 10 32).bind fun v26 => v26.bind fun a28 => (ldI v24.2 n a28 13).bind fun v30 => (stI v24.2 n a28 13 (v30 + 1)).bind fun h32 => some ((1 : Int32), h32)) = some (v, g') ∧ OWF (3900 + M) m h g' ∧ (∀ s', sgS b N 59 (.inr s4) = .inr s' → v = 1 ∧ iA g' 178 13 = ni (M + 1) ∧ Mk b N g' (.inr s') ∧ ∃ m', iA g' 181 13 = ni m' ∧ m ≤ m' ∧ 5 * m' + 4 * s ≤ 4 * s' + 5 * m ∧ rowR g' 84500 (84500 + m') (3900 + M) (vK (ruleS b N (.inr s)).1.1 (ruleS b N (.inr s)).1.2.1 (ruleS b N (.inr s)).1.2.2)) ∧ ∀ p, sgS b N 59 (.inr s4) = .inl p → v = 0 ∧ iA g' 178 13 = ni M ∧ Mk b N g' (.inl p) := fun g s4 m' w k4 x1 x2 x3 x4 x5 => by
    obtain ⟨g5, f5, l5, z1, z2⟩ := z_tsign hK w.1 hn (hT.ow w) k4 (v := 59) (by decide)
    have f5' : q_X11_takesSign K g n 159 59 = _ := f5
    have w5 := w.trans ((l5.wf (3900 + M)).ow (m := m))
    have s5 : ∀ x, x ≠ 159 → iA g5 x = iA g x := fun x hx => iA_c (l5.2.1 x hx)
    rw [f5', Option.bind_some]
    unfold sgS at x5 ⊢
    by_cases q : isG b N 59 (.inr s4) = true
    · rw [if_pos q] at x5
      obtain ⟨f, ff, w6, e6, o6⟩ := z_cnt hn l5.1 (M := M) (by rw [s5 178 (by decide)]; exact x1) (3900 + M) m
      have h4 := isG_lt q
      have h5 := nx_gt (b := b) h4
      rw [if_pos q, if_pos q, if_neg (show ¬ (1 : Int32) = 0 by decide)]
      refine ⟨1, f, ff, w5.trans w6, fun s' e => ?_, fun p z => by cases z⟩
      cases e
      refine ⟨rfl, e6, (z1 q).ml (fI_c (o6 159 (by decide)) 28), m', by rw [iA_c (o6 181 (by decide)), s5 181 (by decide)]; exact x2, x3, by omega, x5 _ rfl f (fun a h1 h2 => by rw [iA_c (o6 a (by omega)), s5 a (by omega)])⟩
    · rw [if_neg q, if_neg q, if_pos rfl]
      refine ⟨0, g5, rfl, w5, (fun s' z => by cases z), fun p z => ?_⟩
      cases z
      exact ⟨rfl, by rw [s5 178 (by decide)]; exact x1, (z2 q).2⟩
  have row : ∀ (g : mm_H) (s' m' : Nat), (tailS b N (.inr s2)).2 = .inr s' → (∀ x, 182 ≤ x → x ≤ 189 → iA g x (3900 + M) = iA g2 x (3900 + M)) → (((tailS b N (.inr s2)).1 = [] ∧ iA g 190 (3900 + M) = -1) ∨ ((tailS b N (.inr s2)).1 ≠ [] ∧ ∃ q, iA g 190 (3900 + M) = ni q ∧ nodeR g 84500 (84500 + m') 40 q (tailS b N (.inr s2)).1)) → rowR g 84500 (84500 + m') (3900 + M) (vK (ruleS b N (.inr s)).1.1 (ruleS b N (.inr s)).1.2.1 (ruleS b N (.inr s)).1.2.2) := fun g s' m' et same h190 => by
    have er : (ruleS b N (.inr s)).2 = .inr s' := by rw [ruleS_2, e1]; exact et
    obtain ⟨-, -, -, -, -, -, -, -, ok, eT, eV⟩ := ruleS_ok N9 er
    refine (B2.c same).row ok eV ?_
    rw [eT, eL, e1]
    exact h190
  have eu : tailS b N (.inr s2) = if isWS b N wUnl (.inr s2) = true then (((exS b N 48).1 0 (.inr (nx b N s2))).1, sgS b N 59 ((exS b N 48).1 0 (.inr (nx b N s2))).2) else ([], sgS b N 59 (.inr s2)) := rfl
  by_cases q : isW b N wUnl s2 = true
  · have q' : isWS b N wUnl (.inr s2) = true := q
    rw [if_pos q'] at eu
    rw [if_pos q, if_neg (show ¬ (1 : Int32) = 0 by decide), p_159_29 l3.1 hn, Option.bind_some]
    have c4 : PS (mm_sf g3 159 29 (.int 0)) := ps_159_29 l3.1 _
    have n4 : NF m g3 (mm_sf g3 159 29 (.int 0)) := ⟨c4, fun a h1 _ _ => mm_sf_n h1, fun k _ _ _ h4 => ⟨fI_sf_o h4 _, fJ_sf_o h4 _, fR_sf_o h4 _⟩, fun i _ => by rw [iA_sf], fun a _ _ i _ => by rw [iA_sf]⟩
    have s4 : ∀ x, iA (mm_sf g3 159 29 (.int 0)) x = iA g3 x := fun x => iA_sf _ _ _ _
    have k4 : Mk b N (mm_sf g3 159 29 (.int 0)) (.inr (nx b N s2)) := (y1 q).ml (fI_sf_o (by decide) _)
    have d4 : fI (mm_sf g3 159 29 (.int 0)) 159 29 = ni 0 := fs_159_29 l3.1 _
    rw [g_159_44 c4 hn, Option.bind_some, gq_159 c4 hn, Option.bind_some]
    generalize mm_sf g3 159 29 (.int 0) = g4 at *
    have ow4 := (w3.ow (m := m)).trans n4.ow
    have tl := congrArg List.length ((isW_seg hs2).mp q).2
    rw [seg_len] at tl
    have tl : tee b N s2 - s2 = 6 := tl
    have hsk := sk_ge (b := b) (N := N) (tee b N s2)
    have hu : s2 + 6 ≤ nx b N s2 := by unfold nx; omega
    have hul := nx_le (b := b) hs2
    obtain ⟨v5, g5, f5, n5, xr, xl⟩ := (z_exprM (K := K) (n := n) (b := b) (N := N) hK hn 48).1 0 (by omega) (by omega) g4 (nx b N s2) m c4 (hT.ow ow4) k4 d4 (by rw [s4, s3 181 (by decide)]; exact e181) (by omega)
    have f5' : q_X11_any K g4 n 159 = some (v5, g5) := f5
    have ow5 := ow4.trans (n5.ow (r := 3900 + M))
    obtain ⟨w6, kk6, d6⟩ := WF.si n5.1 (a := 190) (by omega) (3900 + M) v5
    have ow6 := ow5.trans (w6.ow (m := m))
    have s5 : ∀ x, 182 ≤ x → x ≤ 189 → iA (mm_si g5 190 (3900 + M) v5) x = iA g2 x := fun x h1 h2 => by rw [iA_si_n (by omega), iA_c (n5.2.1 x (by omega) (by omega) (by omega)), s4, s3 x (by omega)]
    have x178 : iA (mm_si g5 190 (3900 + M) v5) 178 13 = ni M := by rw [iA_si_n (by decide), iA_c (n5.2.1 178 (by decide) (by decide) (by omega)), s4, s3 178 (by decide)]; exact e178
    rw [f5', Option.bind_some, Option.bind_some, st_rw n5.1 hn (by omega) hr, Option.bind_some, g_159_44 w6.1 hn, Option.bind_some, Option.bind_some, ld_rw w6.1 hn (by omega) hr, Option.bind_some, d6, upd_s, eu]
    cases er : ((exS b N 48).1 0 (.inr (nx b N s2))).2 with
    | inl p =>
      obtain ⟨rfl, k5⟩ := xl p er
      rw [if_pos rfl]
      refine ⟨0, _, rfl, ow6, (fun s' z => by cases z), fun p' z => ?_⟩
      cases z
      exact ⟨rfl, x178, Mk.ml (σ := .inl p) k5 (fI_c kk6 28)⟩
    | inr s6 =>
      obtain ⟨m6, rfl, em6, hm6, bu6, X6, -, k6, -⟩ := xr s6 er
      rw [if_neg (ni_n1 (by have := k6.le.1; omega)), gq_159 w6.1 hn, Option.bind_some]
      dsimp only
      refine fin _ s6 m6 ow6 (k6.ml (fI_c kk6 28)) x178 (by rw [iA_si_n (by decide)]; exact em6) (by omega) (by omega) (fun s' e f same => ?_)
      have et : (tailS b N (.inr s2)).2 = .inr s' := by rw [eu, er]; exact e
      refine row f s' m6 et (fun x h1 h2 => by rw [same x h1 (by omega), s5 x h1 h2]) (Or.inr ⟨?_, 84500 + m, ?_, ?_⟩)
      · rw [eu]
        exact exS_ne hul er
      · rw [same 190 (by omega) (by omega), d6, upd_s]
      · rw [eu]
        refine nodeX.R (X6.ag (fun a h1 h2 _ => ?_) (fun a h1 h2 i _ _ => ?_)) (by omega) (Nat.le_refl _) (by omega)
        · rw [same a (by omega) (by omega), iA_si_n (by omega)]
        · rw [same a (by omega) (by omega), iA_si_n (by omega)]
  · have q' : ¬ isWS b N wUnl (.inr s2) = true := q
    rw [if_neg q'] at eu
    rw [if_neg q, if_pos rfl, gq_159 l3.1 hn, Option.bind_some, eu]
    dsimp only
    refine fin g3 s2 m (w3.ow (m := m)) (y2 q).1 (by rw [s3 178 (by decide)]; exact e178) (by rw [s3 181 (by decide)]; exact e181) (Nat.le_refl _) (by omega) (fun s' e f same => ?_)
    have et : (tailS b N (.inr s2)).2 = .inr s' := by rw [eu]; exact e
    refine row f s' m et (fun x h1 h2 => by rw [same x h1 (by omega), s3 x (by omega)]) (Or.inl ⟨by rw [eu], ?_⟩)
    rw [same 190 (by omega) (by omega), s3 190 (by decide)]
    exact d190
end OWNM

/-! ===== the model reads statement after statement ===== -/
section READM
variable {K n : Nat} {b : Nat → Nat} {N : Nat}
/-- what reading a text keeps of the model -/
def FQ (h g : mm_H) : Prop := PS g ∧ (∀ a, a ≠ 159 → a ≠ 178 → a ≠ 181 → a < 182 ∨ 197 < a → g a = h a) ∧ (∀ k, k < 28 ∨ (30 < k ∧ k ≠ 54 ∧ k ≠ 55) → fI g 159 k = fI h 159 k ∧ fJ g 159 k = fJ h 159 k ∧ fR g 159 k = fR h 159 k) ∧ (∀ i, i ≠ 13 → iA g 178 i = iA h 178 i ∧ iA g 181 i = iA h 181 i) ∧ (∀ a, 182 ≤ a → a ≤ 190 → ∀ i, i < 3900 → iA g a i = iA h a i) ∧ ∀ a, 191 ≤ a → a ≤ 196 → ∀ i, i < 84500 → iA g a i = iA h a i
theorem FQ.trans {h g f : mm_H} (x : FQ h g) (y : FQ g f) : FQ h f := ⟨y.1, fun a h1 h2 h3 h4 => (y.2.1 a h1 h2 h3 h4).trans (x.2.1 a h1 h2 h3 h4), fun k h1 => ⟨(y.2.2.1 k h1).1.trans (x.2.2.1 k h1).1, (y.2.2.1 k h1).2.1.trans (x.2.2.1 k h1).2.1, (y.2.2.1 k h1).2.2.trans (x.2.2.1 k h1).2.2⟩, fun i hi => ⟨(y.2.2.2.1 i hi).1.trans (x.2.2.2.1 i hi).1, (y.2.2.2.1 i hi).2.trans (x.2.2.2.1 i hi).2⟩, fun a h1 h2 i hi => (y.2.2.2.2.1 a h1 h2 i hi).trans (x.2.2.2.2.1 a h1 h2 i hi), fun a h1 h2 i hi => (y.2.2.2.2.2 a h1 h2 i hi).trans (x.2.2.2.2.2 a h1 h2 i hi)⟩
theorem OWF.fq {r m : Nat} (hr : 3900 ≤ r) {h g : mm_H} (x : OWF r m h g) : FQ h g := ⟨x.1, fun a h1 h2 h3 h4 => x.2.1 a h1 h2 h3 (by omega), fun k h1 => x.2.2.1 k (by omega) (by omega) (by omega) (by omega), x.2.2.2.1, fun a h1 h2 i hi => x.2.2.2.2.1 a h1 h2 i (by omega), fun a h1 h2 i hi => x.2.2.2.2.2 a h1 h2 i (by omega)⟩
theorem ML.fq {h g : mm_H} (x : ML h g) : FQ h g := ((x.wf 3900).ow (m := 0)).fq (Nat.le_refl _)
theorem TM.fq {h g : mm_H} (t : TM b N h) (l : FQ h g) (e : fI g 159 27 = fI h 159 27) : TM b N g := ⟨e.trans t.1, t.2.1, fun k hk => by rw [iA_c (l.2.1 199 (by decide) (by decide) (by decide) (by omega))]; exact t.2.2 k hk⟩
theorem okC_as : okC wAmd 418447191652 ∧ okC wStk 126943972911973 := by decide +kernel
/-- what striking keeps, the model's -/
def KM (h g : mm_H) : Prop := PS g ∧ (∀ a, a ≠ 159 → a ≠ 197 → g a = h a) ∧ ∀ k, k ≠ 28 → k ≠ 54 → k ≠ 55 → fI g 159 k = fI h 159 k ∧ fJ g 159 k = fJ h 159 k ∧ fR g 159 k = fR h 159 k
theorem ML.km {h g : mm_H} (x : ML h g) : KM h g := ⟨x.1, fun a q _ => x.2.1 a q, x.2.2⟩
theorem KM.fq {h g : mm_H} (x : KM h g) : FQ h g := ⟨x.1, fun a h1 h2 h3 h4 => x.2.1 a h1 (by omega), fun k h1 => x.2.2 k (by omega) (by omega) (by omega), fun i _ => ⟨by rw [iA_c (x.2.1 178 (by decide) (by decide))], by rw [iA_c (x.2.1 181 (by decide) (by decide))]⟩, fun a h1 h2 i _ => by rw [iA_c (x.2.1 a (by omega) (by omega))], fun a h1 h2 i _ => by rw [iA_c (x.2.1 a (by omega) (by omega))]⟩
theorem z_strikeM (hK : 3000 ≤ K) (hn : 208 ≤ n) {g : mm_H} (c : PS g) (t : TM b N g) {s base : Nat} (hs0 : s ≤ N) (k : Mk b N g (.inr (nx b N s))) (hb : base ≤ 300) {S : Nat → Bool} (eS : ∀ v, v < 300 → iA g 197 v = if S v = true then 1 else 0) : ∃ v g', q_X11_strike K g n 159 (ni base) = some (v, g') ∧ KM g g' ∧ (∀ s', (stkS b N base S (.inr s)).2 = .inr s' → v = 1 ∧ Mk b N g' (.inr s') ∧ ∀ w, (stkS b N base S (.inr s)).1 = some w → iA g' 197 = upd (iA g 197) w 1) ∧ ∀ p, (stkS b N base S (.inr s)).2 = .inl p → v = 0 ∧ Mk b N g' (.inl p) := by
  have N9 := t.2.1
  have eu : stkS b N base S (.inr s) = if tkk b N (nx b N s) = 2 ∧ tee b N (nx b N s) - nx b N s ≤ 5 ∧ vl b N (nx b N s) < base ∧ S (vl b N (nx b N s)) = false then (some (vl b N (nx b N s)), sgS b N 59 (.inr (nx b N (nx b N s)))) else (none, .inl (nx b N s)) := rfl
  rw [eu]
  generalize nx b N s = s1 at k ⊢
  obtain ⟨hs, hss⟩ := k.le
  obtain ⟨g1, f1, l1, a28⟩ := z_blanks hK c hn t k
  have k1 : Mk b N g1 (.inr s1) := Mk.at_ hs hss a28
  have t1 := t.ml l1
  obtain ⟨v2, g2, f2, l2, y1, y2⟩ := z_tnum0 hK l1.1 hn t1 k1 0 (ni base - 1)
  have l12 := l1.trans l2
  unfold q_X11_strike
  rw [gq_159 c hn, Option.bind_some, f1, Option.bind_some, g_159_28 l1.1 hn, a28, Option.bind_some, gq_159 l1.1 hn, Option.bind_some, f2, Option.bind_some]
  by_cases q : tkk b N s1 = 2 ∧ tee b N s1 - s1 ≤ 5 ∧ vl b N s1 < base
  · obtain ⟨q1, q2, q3⟩ := q
    have hb1 : ni base - 1 = ni (base - 1) := ni_sub (b := 1) (by omega)
    obtain ⟨rfl, k2, e55⟩ := y1 ⟨q1, q2, ni_pos (by omega), by rw [hb1]; exact fun z => by have := (ni_lt (by omega) (by omega)).mp z; omega⟩
    have i3 : inb (ni (vl b N s1)) 300 = true := ni_inb (by omega) (by omega)
    have tv : (ni (vl b N s1)).toNatClampNeg = vl b N s1 := ni_tn (by omega)
    have e197 : iA g2 197 (vl b N s1) = if S (vl b N s1) = true then 1 else 0 := by rw [iA_c (l12.2.1 197 (by decide))]; exact eS _ (by omega)
    rw [if_neg (show ¬ (1 : Int32) = 0 by decide), g_159_55 l2.1 hn, e55, Option.bind_some, g_159_51 l2.1 hn, Option.bind_some, Option.bind_some, ge_197 l2.1 hn, if_pos i3, tv, e197, Option.bind_some]
    by_cases qs : S (vl b N s1) = true
    · rw [if_neg (by rw [if_pos qs]; decide), if_neg (fun z => by rw [qs] at z; exact absurd z.2.2.2 (by decide)), p_159_28 l2.1 hn, Option.bind_some]
      have c3 : PS (mm_sf g2 159 28 (.int (ni s1))) := ps_159_28 l2.1 _
      have l3 := ML.put (h := g2) (Or.inl rfl) c3
      refine ⟨0, _, rfl, (l12.trans l3).km, (fun s' z => by cases z), fun p z => ?_⟩
      cases z
      exact ⟨rfl, hs, fs_159_28 l2.1 _⟩
    · have qs' : S (vl b N s1) = false := by
        cases hh : S (vl b N s1) with
        | true => exact absurd hh qs
        | false => rfl
      rw [if_pos (by rw [if_neg qs]), if_pos ⟨q1, q2, q3, qs'⟩, gq_159 l2.1 hn, Option.bind_some]
      obtain ⟨g3, f3, l3, z1, z2⟩ := z_tsign hK l2.1 hn (t1.ml l2) k2 (v := 59) (by decide)
      have f3' : q_X11_takesSign K g2 n 159 59 = _ := f3
      rw [f3', Option.bind_some]
      unfold sgS
      by_cases y : isG b N 59 (.inr (nx b N s1)) = true
      · rw [if_pos y, if_neg (show ¬ (1 : Int32) = 0 by decide), if_pos y, g_159_51 l3.1 hn, Option.bind_some, Option.bind_some, pe_197 l3.1 hn, if_pos i3, tv, Option.bind_some]
        have nr : vp_nar .boolean (1 : Int32) = 1 := by decide
        rw [nr]
        have c4 : PS (mm_si g3 197 (vl b N s1) 1) := ps_197 l3.1 _ _
        have o4 : ∀ a, a ≠ 197 → mm_si g3 197 (vl b N s1) 1 a = g3 a := fun a h => mm_si_n h
        have l13 := l12.trans l3
        refine ⟨1, _, rfl, ⟨c4, fun a h1 h2 => (o4 a h2).trans (l13.2.1 a h1), fun k h1 h2 h3 => ⟨(fI_c (o4 159 (by decide)) k).trans (l13.2.2 k h1 h2 h3).1, (fJ_c (o4 159 (by decide)) k).trans (l13.2.2 k h1 h2 h3).2.1, (fR_c (o4 159 (by decide)) k).trans (l13.2.2 k h1 h2 h3).2.2⟩⟩, fun s' e => ?_, fun p e => by cases e⟩
        cases e
        refine ⟨rfl, (z1 y).ml (fI_c (o4 159 (by decide)) 28), fun w e => ?_⟩
        cases e
        rw [is_197 l3.1, iA_c (l13.2.1 197 (by decide))]
      · rw [if_neg y, if_pos rfl, if_neg y]
        refine ⟨0, g3, rfl, (l12.trans l3).km, (fun s' z => by cases z), fun p z => ?_⟩
        cases z
        exact ⟨rfl, (z2 y).2⟩
  · have bad : ¬ (tkk b N s1 = 2 ∧ tee b N s1 - s1 ≤ 5 ∧ ¬ ni (vl b N s1) < 0 ∧ ¬ ni base - 1 < ni (vl b N s1)) := fun z => by
      obtain ⟨z1, z2, -, z4⟩ := z
      have hv : vl b N s1 < 100000 := vl_lt z1 z2 _ (Nat.le_refl _)
      refine q ⟨z1, z2, Nat.not_le.mp fun z => z4 ?_⟩
      by_cases b0 : base = 0
      · rw [b0]
        have h1 : ni 0 - 1 < (0 : Int32) := by decide
        have h2 : (0 : Int32) ≤ ni (vl b N s1) := (ni_le (a := 0) (by omega) (by omega)).mpr (Nat.zero_le _)
        exact Int32.lt_of_lt_of_le h1 h2
      · rw [show ni base - 1 = ni (base - 1) from ni_sub (b := 1) (by omega)]
        exact (ni_lt (by omega) (by omega)).mpr (by omega)
    obtain ⟨rfl, k2⟩ := y2 bad
    rw [if_pos rfl, if_neg (fun z => q ⟨z.1, z.2.1, z.2.2.1⟩)]
    refine ⟨0, g2, rfl, l12.km, (fun s' z => by cases z), fun p z => ?_⟩
    cases z
    exact ⟨rfl, k2⟩
/-- the model under way through a text, since h -/
def MI (b : Nat → Nat) (N : Nat) (L : List Stm) (N0 s0 : Nat) (h : mm_H) (i : Nat) (x : X3S) (g : mm_H) : Prop := FQ h g ∧ fI g 159 27 = fI h 159 27 ∧ Mk b N g x.1 ∧ (∀ s, x.1 = .inr s → fI g 159 28 = ni s ∧ iA g 178 13 = ni (L.length + x.2.1.length) ∧ x.2.1.length ≤ i ∧ (∃ m, iA g 181 13 = ni m ∧ 5 * m + 4 * s0 ≤ 4 * s + 5 * N0 ∧ N0 ≤ m ∧ (∀ j st, L[j]? = some st → rowR g 84500 (84500 + m) (3900 + j) st) ∧ ∀ j st, x.2.1[j]? = some st → rowR g 84500 (84500 + m) (3900 + (L.length + j)) st) ∧ ∀ v, v < 300 → iA g 197 v = if x.2.2 v = true then 1 else 0)
theorem rowR_ag {h g : mm_H} {lo hi hi' r : Nat} {st : Stm} (e1 : ∀ a, 182 ≤ a → a ≤ 190 → iA g a r = iA h a r) (e2 : ∀ a, 191 ≤ a → a ≤ 196 → ∀ i, lo ≤ i → i < hi → iA g a i = iA h a i) (hh : hi ≤ hi') (R : rowR h lo hi r st) : rowR g lo hi' r st := by
  unfold rowR at R ⊢
  rw [e1 182 (by omega) (by omega), e1 183 (by omega) (by omega), e1 184 (by omega) (by omega), e1 185 (by omega) (by omega), e1 186 (by omega) (by omega), e1 187 (by omega) (by omega), e1 188 (by omega) (by omega), e1 189 (by omega) (by omega), e1 190 (by omega) (by omega)]
  obtain ⟨r1, r2, r3, r4, r5, r6, r7⟩ := R
  refine ⟨r1, r2, r3, r4, r5, r6, ?_⟩
  rcases r7 with r7 | ⟨z1, q, z2, z3⟩
  · exact Or.inl r7
  · exact Or.inr ⟨z1, q, z2, nodeR_wk (Nat.le_refl _) hh _ _ _ _ (Nat.le_refl _) (nodeR_ag e2 _ _ _ z3)⟩
/-- where a text's statements lead -/
def EO (b : Nat → Nat) (N : Nat) (L : List Stm) (N0 s0 : Nat) (h : mm_H) (v : Int32) (g : mm_H) (x : X3S) : Prop := FQ h g ∧ fI g 159 27 = fI h 159 27 ∧ (fltS N x.1 = none → v = 1 ∧ MI b N L N0 s0 h 30 x g) ∧ ∀ p, fltS N x.1 = some p → v = 0 ∧ p ≤ N ∧ fI g 159 28 = ni p
theorem z_lp145 (hK : 3000 ≤ K) (hn : 208 ≤ n) {L : List Stm} (hL : L.length ≤ 270) {N0 s0 : Nat} (hN0 : 5 * N0 ≤ 4 * s0 + 28790) {h : mm_H} (t : TM b N h) {am : Bool} (hA : am = false → L = []) : ∀ (m i k : Nat) (x : X3S) (g : mm_H), i + m = 30 → m + 3 ≤ k → MI b N L N0 s0 h i x g → ∃ v g', lp_X11_reads_145 K n 159 (ni L.length) (if am = true then 1 else 0) k (match x.1 with | .inl _ => 0 | .inr _ => 1) (ni i) g = some (v, g') ∧ EO b N L N0 s0 h v g' (rdS b N am L.length m x) := by
  intro m
  induction m with
  | zero =>
    intro i k x g hi hk I
    obtain ⟨k, rfl⟩ : ∃ y, k = y + 2 := ⟨k - 2, by omega⟩
    obtain ⟨fr, e27, mk, I4⟩ := id I
    have N9 := t.2.1
    have hi : i = 30 := by omega
    subst hi
    show ∃ v g', _ = some (v, g') ∧ EO b N L N0 s0 h v g' x
    rcases x with ⟨σ, M, S⟩
    cases σ with
    | inl p =>
      have k' : Mk b N g (.inl p) := mk
      unfold lp_X11_reads_145
      dsimp only
      rw [if_pos rfl]
      exact ⟨0, g, rfl, fr, e27, (fun z => by cases z), fun q z => by cases z; exact ⟨rfl, k'⟩⟩
    | inr s =>
      have k' : Mk b N g (.inr s) := mk
      obtain ⟨e28, -⟩ := I4 s rfl
      have hs := k'.le.1
      unfold lp_X11_reads_145
      dsimp only
      rw [if_neg (show ¬ (1 : Int32) = 0 by decide), g_159_28 fr.1 hn, e28, Option.bind_some, g_159_27 fr.1 hn, e27, t.1, Option.bind_some]
      by_cases q : s = N
      · rw [if_pos ((ni_le (by omega) (by omega)).mpr (by omega))]
        refine ⟨1, g, rfl, fr, e27, fun _ => ⟨rfl, I⟩, fun p z => ?_⟩
        rw [show fltS N (Sum.inr s) = none from if_pos q] at z
        cases z
      · rw [if_neg (fun z => by have := (ni_le (by omega) (by omega)).mp z; omega), if_pos (by decide)]
        unfold lp_X11_reads_145
        rw [if_pos rfl]
        refine ⟨0, g, rfl, fr, e27, fun z => ?_, fun p z => ?_⟩
        · rw [show fltS N (Sum.inr s) = some s from if_neg q] at z; cases z
        · rw [show fltS N (Sum.inr s) = some s from if_neg q] at z; cases z; exact ⟨rfl, hs, e28⟩
  | succ m ih =>
    intro i k x g hi hk I
    obtain ⟨k, rfl⟩ : ∃ y, k = y + 1 := ⟨k - 1, by omega⟩
    obtain ⟨fr, e27, mk, I4⟩ := id I
    have N9 := t.2.1
    have inv := @one_inv b N N9 am L.length x
    have hi30 : i < 30 := by omega
    unfold rdS
    rcases x with ⟨σ, M, S⟩
    cases σ with
    | inl p =>
      have k' : Mk b N g (.inl p) := mk
      rw [if_pos (show isE N (Sum.inl p) = true from rfl)]
      unfold lp_X11_reads_145
      dsimp only
      rw [if_pos rfl]
      exact ⟨0, g, rfl, fr, e27, (fun z => by cases z), fun q z => by cases z; exact ⟨rfl, k'⟩⟩
    | inr s =>
      have k' : Mk b N g (.inr s) := mk
      obtain ⟨e28, e178, hMi, ⟨m0, em, bu, hNm, rL, rM⟩, e197⟩ := I4 s rfl
      dsimp only at e178 hMi rM e197
      have hs := k'.le.1
      have tg : TM b N g := t.fq fr e27
      unfold lp_X11_reads_145
      dsimp only
      rw [if_neg (show ¬ (1 : Int32) = 0 by decide), g_159_28 fr.1 hn, e28, Option.bind_some, g_159_27 fr.1 hn, e27, t.1, Option.bind_some]
      by_cases q : s = N
      · rw [if_pos ((ni_le (by omega) (by omega)).mpr (by omega)), if_pos (show isE N (Sum.inr s) = true from decide_eq_true q)]
        refine ⟨1, g, rfl, fr, e27, fun _ => ⟨rfl, fr, e27, mk, fun s' z => ?_⟩, fun p z => ?_⟩
        · obtain ⟨a1, a2, a3, a4⟩ := I4 s' z
          exact ⟨a1, a2, by omega, a4⟩
        · rw [show fltS N (Sum.inr s) = none from if_pos q] at z
          cases z
      rw [if_neg (fun z => by have := (ni_le (by omega) (by omega)).mp z; omega), if_neg (show ¬ isE N (Sum.inr s) = true from fun z => q (of_decide_eq_true z)), if_neg (show ¬ (30 : Int32) ≤ ni i from fun z => by have := (ni_le (a := 30) (by omega) (by omega)).mp z; omega)]
      -- what follows a statement
      have fin : ∀ (v : Int32) (g1 : mm_H) (y : X3S), FQ h g1 → fI g1 159 27 = fI h 159 27 → Mk b N g1 y.1 → (∀ s', y.1 = .inr s' → v = 1 ∧ iA g1 178 13 = ni (L.length + y.2.1.length) ∧ y.2.1.length ≤ i + 1 ∧ (∃ m, iA g1 181 13 = ni m ∧ 5 * m + 4 * s0 ≤ 4 * s' + 5 * N0 ∧ N0 ≤ m ∧ (∀ j st, L[j]? = some st → rowR g1 84500 (84500 + m) (3900 + j) st) ∧ ∀ j st, y.2.1[j]? = some st → rowR g1 84500 (84500 + m) (3900 + (L.length + j)) st) ∧ ∀ v, v < 300 → iA g1 197 v = if y.2.2 v = true then 1 else 0) → (∀ p, y.1 = .inl p → v = 0) → ∃ v' g', (if v = 0 then lp_X11_reads_145 K n 159 (ni L.length) (if am = true then 1 else 0) k 0 (ni i) g1 else (ckq g1 n 159 10).bind fun _ => (q_X11_blanks K g1 n 159).bind fun v60 => lp_X11_reads_145 K n 159 (ni L.length) (if am = true then 1 else 0) k 1 (ni i + 1) v60) = some (v', g') ∧ EO b N L N0 s0 h v' g' (rdS b N am L.length m y) := fun v g1 y fr1 f27 mk1 y1 y2 => by
        rcases y with ⟨τ, M', S'⟩
        cases τ with
        | inl p =>
          have k1 : Mk b N g1 (.inl p) := mk1
          rw [if_pos (y2 p rfl)]
          obtain ⟨k, rfl⟩ : ∃ y, k = y + 1 := ⟨k - 1, by omega⟩
          unfold lp_X11_reads_145
          rw [if_pos rfl]
          have er : rdS b N am L.length m (Sum.inl p, M', S') = (Sum.inl p, M', S') := by
            cases m with
            | zero => rfl
            | succ m => exact if_pos rfl
          rw [er]
          exact ⟨0, g1, rfl, fr1, f27, (fun z => by cases z), fun q z => by cases z; exact ⟨rfl, k1⟩⟩
        | inr s' =>
          obtain ⟨v1, a1, a2, ⟨m', b1, b2, b3, b4, b5⟩, a4⟩ := y1 s' rfl
          obtain ⟨g2, f2, l2, a28⟩ := z_blanks hK fr1.1 hn (t.fq fr1 f27) (show Mk b N g1 (.inr s') from mk1)
          have hk1 : Mk b N g1 (.inr s') := mk1
          obtain ⟨h1, h2⟩ := hk1.le
          rw [if_neg (by rw [v1]; decide), gq_159 fr1.1 hn, Option.bind_some, f2, Option.bind_some, ni_1]
          have o2 : ∀ a, a ≠ 159 → iA g2 a = iA g1 a := fun a ha => iA_c (l2.2.1 a ha)
          refine ih (i + 1) k (Sum.inr s', M', S') g2 (by omega) (by omega) ⟨fr1.trans l2.fq, (l2.2.2 27 (by decide) (by decide) (by decide)).1.trans f27, Mk.at_ h1 h2 a28, fun s'' z => ?_⟩
          cases z
          refine ⟨a28, by rw [o2 178 (by decide)]; exact a1, a2, ⟨m', by rw [o2 181 (by decide)]; exact b1, b2, b3, fun j st e => rowR_ag (fun a h1 h2 => by rw [o2 a (by omega)]) (fun a h1 h2 i _ _ => by rw [o2 a (by omega)]) (Nat.le_refl _) (b4 j st e), fun j st e => rowR_ag (fun a h1 h2 => by rw [o2 a (by omega)]) (fun a h1 h2 i _ _ => by rw [o2 a (by omega)]) (Nat.le_refl _) (b5 j st e)⟩, fun v hv => by rw [o2 197 (by decide)]; exact a4 v hv⟩
      -- a rule of its own
      have own : ∀ g0 : mm_H, ML g g0 → Mk b N g0 (.inr s) → ∃ v' g', ((q_X11_own K g0 n 159).bind fun v56 => if v56.1 = 0 then lp_X11_reads_145 K n 159 (ni L.length) (if am = true then 1 else 0) k 0 (ni i) v56.2 else (ckq v56.2 n 159 10).bind fun _ => (q_X11_blanks K v56.2 n 159).bind fun v60 => lp_X11_reads_145 K n 159 (ni L.length) (if am = true then 1 else 0) k 1 (ni i + 1) v60) = some (v', g') ∧ EO b N L N0 s0 h v' g' (rdS b N am L.length m ((ruleS b N (.inr s)).2, addS M (vK (ruleS b N (.inr s)).1.1 (ruleS b N (.inr s)).1.2.1 (ruleS b N (.inr s)).1.2.2) (ruleS b N (.inr s)).2, S)) := fun g0 l0 k0 => by
        have o0 : ∀ a, a ≠ 159 → iA g0 a = iA g a := fun a ha => iA_c (l0.2.1 a ha)
        obtain ⟨v, g1, f1, w1, r1, r2⟩ := z_ownM (K := K) hK hn l0.1 (tg.ml l0) (M := L.length + M.length) (m := m0) k0 (by rw [o0 178 (by decide)]; exact e178) (by omega) (by rw [o0 181 (by decide)]; exact em) (by omega)
        rw [f1, Option.bind_some]
        have fr1 : FQ h g1 := (fr.trans l0.fq).trans (w1.fq (by omega))
        have f27 : fI g1 159 27 = fI h 159 27 := (w1.2.2.1 27 (by decide) (by decide) (by decide) (by decide)).1.trans ((l0.2.2 27 (by decide) (by decide) (by decide)).1.trans e27)
        refine fin v g1 _ fr1 f27 ?_ (fun s' e => ?_) (fun p e => (r2 p e).1)
        · cases er : (ruleS b N (.inr s)).2 with
          | inl p => exact (r2 p er).2.2
          | inr s' => exact (r1 s' er).2.2.1
        · dsimp only at e
          obtain ⟨v1, x1, x2, m', x3, x4, x5, x6⟩ := r1 s' e
          have el : addS M (vK (ruleS b N (.inr s)).1.1 (ruleS b N (.inr s)).1.2.1 (ruleS b N (.inr s)).1.2.2) (ruleS b N (.inr s)).2 = M ++ [vK (ruleS b N (.inr s)).1.1 (ruleS b N (.inr s)).1.2.1 (ruleS b N (.inr s)).1.2.2] := by rw [e]; rfl
          dsimp only
          rw [el]
          have old : ∀ r st, r ≠ 3900 + (L.length + M.length) → rowR g 84500 (84500 + m0) r st → rowR g1 84500 (84500 + m') r st := fun r st hr R => rowR_ag (fun a h1 h2 => by rw [w1.2.2.2.2.1 a h1 h2 r hr, o0 a (by omega)]) (fun a h1 h2 i h3 h4 => by rw [w1.2.2.2.2.2 a h1 h2 i h4, o0 a (by omega)]) (by omega) R
          refine ⟨v1, by rw [x1, List.length_append, List.length_singleton]; congr 1, by rw [List.length_append, List.length_singleton]; omega, ⟨m', x3, by omega, by omega, fun j st ej => old _ st (by have := (List.getElem?_eq_some_iff.mp ej).1; omega) (rL j st ej), fun j st ej => ?_⟩, fun v hv => by rw [iA_c (w1.2.1 197 (by decide) (by decide) (by decide) (by omega)), o0 197 (by decide)]; exact e197 v hv⟩
          by_cases hj : j < M.length
          · rw [List.getElem?_append_left hj] at ej
            exact old _ st (by omega) (rM j st ej)
          · rw [List.getElem?_append_right (by omega)] at ej
            have h2 := (List.getElem?_eq_some_iff.mp ej).1
            rw [List.length_singleton] at h2
            have h3 : j = M.length := by omega
            subst h3
            rw [Nat.sub_self] at ej
            cases ej
            exact x6
      have e0 : ∀ a : Bool, ¬ (a = true ∧ isWS b N wStk (.inr s) = true) → oneS b N a L.length (Sum.inr s, M, S) = ((ruleS b N (.inr s)).2, addS M (vK (ruleS b N (.inr s)).1.1 (ruleS b N (.inr s)).1.2.1 (ruleS b N (.inr s)).1.2.2) (ruleS b N (.inr s)).2, S) := fun a z => if_neg z
      have e1 : ∀ a : Bool, (a = true ∧ isWS b N wStk (.inr s) = true) → oneS b N a L.length (Sum.inr s, M, S) = ((stkS b N L.length S (.inr s)).2, M, upS S (stkS b N L.length S (.inr s)).1) := fun a z => if_pos z
      cases am with
      | false =>
        rw [if_pos (show (if false = true then (1 : Int32) else 0) = 0 from rfl), e0 false (fun z => nomatch z.1), gq_159 fr.1 hn, Option.bind_some]
        exact own g (ML.id_ fr.1) k'
      | true =>
        rw [if_neg (show ¬ (if true = true then (1 : Int32) else 0) = 0 by decide), gq_159 fr.1 hn, Option.bind_some]
        obtain ⟨g1, f1, l1, z1, z2⟩ := z_takes hK fr.1 hn tg k' okC_as.2
        rw [f1, Option.bind_some]
        by_cases y : isW b N wStk s = true
        · rw [if_pos y, if_neg (show ¬ (1 : Int32) = 0 by decide), e1 true ⟨rfl, y⟩, gq_159 l1.1 hn, Option.bind_some]
          have o1 : ∀ a, a ≠ 159 → iA g1 a = iA g a := fun a ha => iA_c (l1.2.1 a ha)
          obtain ⟨v, g2, f2, w2, r1, r2⟩ := z_strikeM (K := K) (base := L.length) (S := S) hK hn l1.1 (tg.ml l1) hs (z1 y) (by omega) (fun v hv => by rw [o1 197 (by decide)]; exact e197 v hv)
          rw [f2, Option.bind_some]
          have fr2 : FQ h g2 := (fr.trans l1.fq).trans w2.fq
          have f27 : fI g2 159 27 = fI h 159 27 := (w2.2.2 27 (by decide) (by decide) (by decide)).1.trans ((l1.2.2 27 (by decide) (by decide) (by decide)).1.trans e27)
          have o2 : ∀ a, a ≠ 159 → a ≠ 197 → iA g2 a = iA g a := fun a h1 h2 => (iA_c (w2.2.1 a h1 h2)).trans (o1 a h1)
          refine fin v g2 _ fr2 f27 ?_ (fun s' e => ?_) (fun p e => (r2 p e).1)
          · cases er : (stkS b N L.length S (.inr s)).2 with
            | inl p => exact (r2 p er).2
            | inr s' => exact (r1 s' er).2.1
          · dsimp only at e
            obtain ⟨v1, x1, x2⟩ := r1 s' e
            obtain ⟨s9, w, e9, hgt, -, ew, hw, -⟩ := stk_inv e
            cases e9
            have hsN : s < s' := hgt (by omega)
            have same : ∀ r st, rowR g 84500 (84500 + m0) r st → rowR g2 84500 (84500 + m0) r st := fun r st R => rowR_ag (fun a h1 h2 => by rw [o2 a (by omega) (by omega)]) (fun a h1 h2 i _ _ => by rw [o2 a (by omega) (by omega)]) (Nat.le_refl _) R
            refine ⟨v1, by rw [o2 178 (by decide) (by decide)]; exact e178, by dsimp only; omega, ⟨m0, by rw [o2 181 (by decide) (by decide)]; exact em, by omega, hNm, fun j st ej => same _ _ (rL j st ej), fun j st ej => same _ _ (rM j st ej)⟩, fun u hu => ?_⟩
            rw [x2 w ew]
            dsimp only
            rw [ew]
            show upd (iA g1 197) w 1 u = if (if u = w then true else S u) = true then 1 else 0
            by_cases z : u = w
            · subst z
              rw [upd_s, if_pos rfl, if_pos rfl]
            · rw [upd_n z, if_neg z, o1 197 (by decide)]
              exact e197 u hu
        · rw [if_neg y, if_pos (show (0 : Int32) = 0 from rfl), e0 true (fun z => y z.2), gq_159 l1.1 hn, Option.bind_some]
          exact own g1 l1 (z2 y).1
end READM

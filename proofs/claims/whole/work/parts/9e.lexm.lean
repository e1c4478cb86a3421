/-! ===== the model reads tokens ===== -/
section LEXM
variable {K n : Nat} {h : mm_H} {b : Nat → Nat} {N : Nat}
/-- what reading tokens keeps, the model's -/
def ML (h g : mm_H) : Prop := PS g ∧ (∀ a, a ≠ 159 → g a = h a) ∧ ∀ k, k ≠ 28 → k ≠ 54 → k ≠ 55 → fI g 159 k = fI h 159 k ∧ fJ g 159 k = fJ h 159 k ∧ fR g 159 k = fR h 159 k
theorem ML.id_ (c : PS h) : ML h h := ⟨c, fun _ _ => rfl, fun _ _ _ _ => ⟨rfl, rfl, rfl⟩⟩
theorem ML.trans {g f : mm_H} (x : ML h g) (y : ML g f) : ML h f := ⟨y.1, fun a q => (y.2.1 a q).trans (x.2.1 a q), fun k p q r => ⟨(y.2.2 k p q r).1.trans (x.2.2 k p q r).1, (y.2.2 k p q r).2.1.trans (x.2.2 k p q r).2.1, (y.2.2 k p q r).2.2.trans (x.2.2 k p q r).2.2⟩⟩
theorem ML.put {k : Nat} (hk : k = 28 ∨ k = 54 ∨ k = 55) {x : Int32} (p : PS (mm_sf h 159 k (.int x))) : ML h (mm_sf h 159 k (.int x)) := ⟨p, fun a q => mm_sf_n q, fun j h1 h2 h3 => ⟨fI_sf_o (by omega) _, fJ_sf_o (by omega) _, fR_sf_o (by omega) _⟩⟩
/-- the text that the model reads -/
def TM (b : Nat → Nat) (N : Nat) (h : mm_H) : Prop := fI h 159 27 = ni N ∧ N ≤ 900 ∧ ∀ k, k < N → iA h 199 k = sb (b k) ∧ b k < 256
theorem TM.ml {g : mm_H} (t : TM b N h) (l : ML h g) : TM b N g := ⟨(l.2.2 27 (by decide) (by decide) (by decide)).1.trans t.1, t.2.1, fun k hk => by rw [iA_c (l.2.1 199 (by decide))]; exact t.2.2 k hk⟩
/-- where the model stands -/
def Mk (b : Nat → Nat) (N : Nat) (h : mm_H) : RSt → Prop
  | .inr s => ∃ a : Nat, a ≤ N ∧ fI h 159 28 = ni a ∧ sk b N a = s
  | .inl p => p ≤ N ∧ fI h 159 28 = ni p
theorem Mk.le {s : Nat} (k : Mk b N h (.inr s)) : s ≤ N ∧ sk b N s = s := by
  obtain ⟨a, h1, -, rfl⟩ := k
  exact ⟨sk_le h1, sk_sk a⟩
theorem Mk.at_ {s : Nat} (h1 : s ≤ N) (h2 : sk b N s = s) (e : fI h 159 28 = ni s) : Mk b N h (.inr s) := ⟨s, h1, e, h2⟩
theorem Mk.ml {g : mm_H} {σ : RSt} (k : Mk b N h σ) (e : fI g 159 28 = fI h 159 28) : Mk b N g σ := by
  cases σ with
  | inl p => exact ⟨k.1, e.trans k.2⟩
  | inr s =>
    obtain ⟨a, h1, h2, h3⟩ := k
    exact ⟨a, h1, e.trans h2, h3⟩
theorem z_bl0 (hn : 208 ≤ n) : ∀ (m a k : Nat) (h : mm_H), N - a = m → m < k → PS h → TM b N h → a ≤ N → fI h 159 28 = ni a → ∃ g, lp_X11_blanks_0 K n 159 k h = some g ∧ ML h g ∧ fI g 159 28 = ni (sk b N a) := by
  intro m
  induction m with
  | zero =>
    intro a k h hm hk c t ha e
    obtain ⟨k, rfl⟩ : ∃ x, k = x + 1 := ⟨k - 1, by omega⟩
    have N9 := t.2.1
    unfold lp_X11_blanks_0
    rw [g_159_28 c hn, e, Option.bind_some, g_159_27 c hn, t.1, Option.bind_some, if_pos ((ni_le (by omega) (by omega)).mpr (by omega))]
    refine ⟨h, rfl, ML.id_ c, ?_⟩
    show _ = ni (rn b N 4 a)
    rw [rn_eq, if_neg (fun q => by omega)]
    exact e
  | succ m ih =>
    intro a k h hm hk c t ha e
    obtain ⟨k, rfl⟩ : ∃ x, k = x + 1 := ⟨k - 1, by omega⟩
    have N9 := t.2.1
    obtain ⟨eb, lb⟩ := t.2.2 a (by omega)
    have i9 : inb (ni a) 900 = true := ni_inb (by omega) (by omega)
    have ta : (ni a).toNatClampNeg = a := ni_tn (by omega)
    have er := rn_eq (b := b) (N := N) 4 a
    have s4 := sb_b4 (b a) lb
    unfold lp_X11_blanks_0
    rw [g_159_28 c hn, e, Option.bind_some, g_159_27 c hn, t.1, Option.bind_some, if_neg (fun q => by have := (ni_le (by omega) (by omega)).mp q; omega)]
    simp only [g_159_53 c hn, Option.bind_some, ge_199 c hn, i9, ta, if_true, eb, ni_1, p_159_28 c hn]
    have step : kd (b a) = 4 → ∃ g, lp_X11_blanks_0 K n 159 k (mm_sf h 159 28 (.int (ni (a + 1)))) = some g ∧ ML h g ∧ fI g 159 28 = ni (sk b N a) := fun q => by
      have c1 : PS (mm_sf h 159 28 (.int (ni (a + 1)))) := ps_159_28 c _
      have l1 := ML.put (h := h) (Or.inl rfl) c1
      obtain ⟨g, q1, q2, q3⟩ := ih (a + 1) k _ (by omega) (by omega) c1 (t.ml l1) (by omega) (fs_159_28 c _)
      refine ⟨g, q1, l1.trans q2, ?_⟩
      show _ = ni (rn b N 4 a)
      rw [er, if_pos ⟨by omega, q⟩]
      exact q3
    by_cases q : sb (b a) = 32
    · rw [if_pos q]
      exact step (s4.mp (Or.inl q))
    · rw [if_neg q]
      by_cases q2 : sb (b a) = 10
      · rw [if_pos q2]
        exact step (s4.mp (Or.inr q2))
      · rw [if_neg q2]
        refine ⟨h, rfl, ML.id_ c, ?_⟩
        show _ = ni (rn b N 4 a)
        rw [er, if_neg (fun z => by rcases s4.mpr z.2 with y | y <;> contradiction)]
        exact e
theorem z_blanks (hK : 3000 ≤ K) (c : PS h) (hn : 208 ≤ n) (t : TM b N h) {s : Nat} (k : Mk b N h (.inr s)) : ∃ g, q_X11_blanks K h n 159 = some g ∧ ML h g ∧ fI g 159 28 = ni s := by
  obtain ⟨a, h1, h2, h3⟩ := k
  have N9 := t.2.1
  obtain ⟨g, f1, f2, f3⟩ := z_bl0 (K := K) hn _ a K h rfl (by omega) c t h1 h2
  refine ⟨g, ?_, f2, by rw [f3, h3]⟩
  unfold q_X11_blanks
  rw [f1]
  rfl
theorem z_wd14 (hn : 208 ≤ n) {s : Nat} : ∀ (m p k : Nat) (l : Int64) (h : mm_H), N - p = m → m < k → PS h → TM b N h → s ≤ p → p ≤ N → fI h 159 28 = ni s → fI h 159 54 = ni p → (p - s ≤ 7 → l = jo (vW b s (p - s)) ∧ vW b s (p - s) < 256 ^ (p - s)) → ∃ v g, lp_X11_word_14 K n 159 k l h = some (v, g) ∧ ML h g ∧ fI g 159 28 = ni s ∧ fI g 159 54 = ni (rn b N 1 p) ∧ (rn b N 1 p - s ≤ 7 → v = jo (vW b s (rn b N 1 p - s))) := by
  intro m
  induction m with
  | zero =>
    intro p k l h hm hk c t hs hp e28 e54 hv
    obtain ⟨k, rfl⟩ : ∃ x, k = x + 1 := ⟨k - 1, by omega⟩
    have N9 := t.2.1
    unfold lp_X11_word_14
    rw [g_159_54 c hn, e54, Option.bind_some, g_159_27 c hn, t.1, Option.bind_some, if_pos ((ni_le (by omega) (by omega)).mpr (by omega))]
    have er := rn_eq (b := b) (N := N) 1 p
    rw [if_neg (fun q => by omega)] at er
    exact ⟨l, h, rfl, ML.id_ c, e28, by rw [er]; exact e54, by rw [er]; exact fun q => (hv q).1⟩
  | succ m ih =>
    intro p k l h hm hk c t hs hp e28 e54 hv
    obtain ⟨k, rfl⟩ : ∃ x, k = x + 1 := ⟨k - 1, by omega⟩
    have N9 := t.2.1
    obtain ⟨eb, lb⟩ := t.2.2 p (by omega)
    have i9 : inb (ni p) 900 = true := ni_inb (by omega) (by omega)
    have tp : (ni p).toNatClampNeg = p := ni_tn (by omega)
    have er := rn_eq (b := b) (N := N) 1 p
    have s1 := sb_b1 (b p) lb
    have sub : ni p - ni s = ni (p - s) := ni_sub (by omega)
    unfold lp_X11_word_14
    rw [g_159_54 c hn, e54, Option.bind_some, g_159_27 c hn, t.1, Option.bind_some, if_neg (fun q => by have := (ni_le (by omega) (by omega)).mp q; omega)]
    simp only [g_159_53 c hn, Option.bind_some, ge_199 c hn, i9, tp, if_true, eb, ni_1, p_159_54 c hn, g_159_54 c hn, e54, g_159_28 c hn, e28, sub]
    have no : ¬ kd (b p) = 1 → ∃ v g, (some (l, h) : Option (Int64 × mm_H)) = some (v, g) ∧ ML h g ∧ fI g 159 28 = ni s ∧ fI g 159 54 = ni (rn b N 1 p) ∧ (rn b N 1 p - s ≤ 7 → v = jo (vW b s (rn b N 1 p - s))) := fun q => by
      rw [if_neg (fun z => q z.2)] at er
      exact ⟨l, h, rfl, ML.id_ c, e28, by rw [er]; exact e54, by rw [er]; exact fun q => (hv q).1⟩
    by_cases q1 : sb (b p) < 97
    · rw [if_pos q1]
      exact no (fun z => (s1.mpr z).1 q1)
    rw [if_neg q1]
    by_cases q2 : 122 < sb (b p)
    · rw [if_pos q2]
      exact no (fun z => (s1.mpr z).2 q2)
    rw [if_neg q2]
    have q : kd (b p) = 1 := s1.mp ⟨q1, q2⟩
    rw [if_pos ⟨by omega, q⟩] at er
    have c1 : PS (mm_sf h 159 54 (.int (ni (p + 1)))) := ps_159_54 c _
    have l1 := ML.put (h := h) (Or.inr (Or.inl rfl)) c1
    have go : ∀ l2 : Int64, (p + 1 - s ≤ 7 → l2 = jo (vW b s (p + 1 - s)) ∧ vW b s (p + 1 - s) < 256 ^ (p + 1 - s)) → ∃ v g, lp_X11_word_14 K n 159 k l2 (mm_sf h 159 54 (.int (ni (p + 1)))) = some (v, g) ∧ ML h g ∧ fI g 159 28 = ni s ∧ fI g 159 54 = ni (rn b N 1 p) ∧ (rn b N 1 p - s ≤ 7 → v = jo (vW b s (rn b N 1 p - s))) := fun l2 h2 => by
      obtain ⟨v, g, f1, f2, f3, f4, f5⟩ := ih (p + 1) k l2 _ (by omega) (by omega) c1 (t.ml l1) (by omega) (by omega) ((fI_sf_o (by decide) _).trans e28) (fs_159_54 c _) h2
      exact ⟨v, g, f1, l1.trans f2, f3, by rw [er]; exact f4, by rw [er]; exact f5⟩
    by_cases q7 : 7 ≤ p - s
    · rw [if_pos (show (7 : Int32) ≤ ni (p - s) from (ni_le (a := 7) (by omega) (by omega)).mpr q7)]
      exact go 0 (fun z => by omega)
    · rw [if_neg (show ¬ (7 : Int32) ≤ ni (p - s) from fun z => q7 ((ni_le (a := 7) (by omega) (by omega)).mp z))]
      obtain ⟨hl, hlt⟩ := hv (by omega)
      have h48 : vW b s (p - s) < 2 ^ 48 := by
        have h2 : 256 ^ (p - s) ≤ 256 ^ 6 := Nat.pow_le_pow_right (by decide) (by omega)
        have h3 : (256 : Nat) ^ 6 = 2 ^ 48 := by decide
        omega
      have ev : vW b s (p + 1 - s) = vW b s (p - s) * 256 + b p := by
        rw [show p + 1 - s = (p - s) + 1 by omega]
        show vW b s (p - s) * 256 + b (s + (p - s)) = _
        rw [show s + (p - s) = p by omega]
      rw [(sb_ni (b p) lb (Or.inl q)).1, hl, jo_sh h48 lb]
      refine go _ (fun _ => ⟨by rw [ev], ?_⟩)
      rw [ev, show p + 1 - s = (p - s) + 1 by omega, Nat.pow_succ]
      omega
theorem z_word (hK : 3000 ≤ K) (c : PS h) (hn : 208 ≤ n) (t : TM b N h) {s : Nat} (k : Mk b N h (.inr s)) : ∃ g, q_X11_word K h n 159 = some (wdV b N s, g) ∧ ML h g ∧ fI g 159 28 = ni s ∧ fI g 159 54 = ni (rn b N 1 s) := by
  have N9 := t.2.1
  have hs := k.le.1
  obtain ⟨g1, f1, l1, e1⟩ := z_blanks hK c hn t k
  have c2 : PS (mm_sf g1 159 54 (.int (ni s))) := ps_159_54 l1.1 _
  have l2 := ML.put (h := g1) (Or.inr (Or.inl rfl)) c2
  obtain ⟨v, g3, f3, l3, a28, a54, av⟩ := z_wd14 (K := K) (b := b) (N := N) hn (s := s) _ s K 0 (mm_sf g1 159 54 (.int (ni s))) rfl (by omega) c2 ((t.ml l1).ml l2) (Nat.le_refl _) hs ((fI_sf_o (by decide) _).trans e1) (fs_159_54 l1.1 _) (fun _ => by rw [Nat.sub_self]; exact ⟨rfl, Nat.zero_lt_one⟩)
  have hr := rn_ge (b := b) (N := N) 1 _ s rfl
  have hrN := hr.2.1 hs
  refine ⟨g3, ?_, l1.trans (l2.trans l3), a28, a54⟩
  unfold q_X11_word wdV
  rw [gq_159 c hn, Option.bind_some, f1, Option.bind_some, g_159_28 l1.1 hn, e1, Option.bind_some, p_159_54 l1.1 hn, Option.bind_some, f3, Option.bind_some, g_159_54 l3.1 hn, a54, Option.bind_some, g_159_28 l3.1 hn, a28, Option.bind_some, ni_sub hr.1]
  by_cases q : rn b N 1 s - s ≤ 7
  · rw [if_pos (show ni (rn b N 1 s - s) ≤ 7 from (ni_le (b := 7) (by omega) (by omega)).mpr q), if_pos q, av q]
  · rw [if_neg (show ¬ ni (rn b N 1 s - s) ≤ 7 from fun z => q ((ni_le (b := 7) (by omega) (by omega)).mp z)), if_neg q]
theorem z_takes (hK : 3000 ≤ K) (c : PS h) (hn : 208 ≤ n) (t : TM b N h) {s : Nat} (k : Mk b N h (.inr s)) {w : List Nat} {v : Int64} (o : okC w v) : ∃ g, q_X11_takes K h n 159 v = some (if isW b N w s = true then 1 else 0, g) ∧ ML h g ∧ (isW b N w s = true → Mk b N g (.inr (nx b N s))) ∧ (¬ isW b N w s = true → Mk b N g (.inr s) ∧ Mk b N g (.inl s)) := by
  obtain ⟨hs, hss⟩ := k.le
  obtain ⟨g1, f1, l1, a28, a54⟩ := z_word hK c hn t k
  have wi := wdV_iff (b := b) (N := N) o hs (fun k hk => (t.2.2 k hk).2)
  unfold q_X11_takes
  simp only [gq_159 c hn, Option.bind_some, f1, lg_cmp_eq, wi]
  by_cases q : isW b N w s = true
  · have c2 : PS (mm_sf g1 159 28 (.int (ni (rn b N 1 s)))) := ps_159_28 l1.1 _
    have l2 := ML.put (h := g1) (Or.inl rfl) c2
    refine ⟨mm_sf g1 159 28 (.int (ni (rn b N 1 s))), ?_, l1.trans l2, fun _ => ⟨rn b N 1 s, (rn_ge (b := b) (N := N) 1 _ s rfl).2.1 hs, fs_159_28 l1.1 _, ?_⟩, fun z => absurd q z⟩
    · rw [if_pos q, if_pos q, g_159_54 l1.1 hn, a54, Option.bind_some, p_159_28 l1.1 hn, Option.bind_some]
    · rw [← (tee_rn (b := b) (N := N) (Or.inl rfl) hs).2 ((isW_seg hs).mp q).1]
      rfl
  · refine ⟨g1, ?_, l1, fun z => absurd z q, fun _ => ⟨Mk.at_ hs hss a28, hs, a28⟩⟩
    rw [if_neg q, if_neg q]
theorem z_tsign (hK : 3000 ≤ K) (c : PS h) (hn : 208 ≤ n) (t : TM b N h) {s : Nat} (k : Mk b N h (.inr s)) {v : Nat} (hv : v ∈ [40, 41, 59, 60, 61, 62]) : ∃ g, q_X11_takesSign K h n 159 (ni v) = some (if isG b N v (.inr s) = true then 1 else 0, g) ∧ ML h g ∧ (isG b N v (.inr s) = true → Mk b N g (.inr (nx b N s))) ∧ (¬ isG b N v (.inr s) = true → Mk b N g (.inr s) ∧ Mk b N g (.inl s)) := by
  obtain ⟨hs, hss⟩ := k.le
  have N9 := t.2.1
  obtain ⟨g1, f1, l1, a28⟩ := z_blanks hK c hn t k
  have t1 := t.ml l1
  have eg : isG b N v (.inr s) = true ↔ tkk b N s = 3 ∧ b s = v := by
    show (decide (tkk b N s = 3) && decide (b s = v)) = true ↔ _
    rw [Bool.and_eq_true, decide_eq_true_iff, decide_eq_true_iff]
  unfold q_X11_takesSign
  rw [gq_159 c hn, Option.bind_some, f1, Option.bind_some, g_159_28 l1.1 hn, a28, Option.bind_some, g_159_27 l1.1 hn, t1.1, Option.bind_some]
  by_cases q : s = N
  · have ng : ¬ isG b N v (.inr s) = true := fun z => by
      have h1 := (eg.mp z).1
      unfold tkk at h1
      rw [if_pos (by omega)] at h1
      omega
    rw [if_pos (by rw [q]), if_neg ng]
    exact ⟨g1, rfl, l1, fun z => absurd z ng, fun _ => ⟨Mk.at_ hs hss a28, hs, a28⟩⟩
  · have i9 : inb (ni s) 900 = true := ni_inb (by omega) (by omega)
    have ts : (ni s).toNatClampNeg = s := ni_tn (by omega)
    obtain ⟨eb, lb⟩ := t1.2.2 s (by omega)
    have sg := sb_sg v hv (b s) lb
    have kk := kd_sg v hv
    rw [if_neg (fun z => q ((ni_inj (by omega) (by omega)).mp z))]
    simp only [g_159_53 l1.1 hn, Option.bind_some, ge_199 l1.1 hn, i9, ts, if_true, eb, sg, ni_1, p_159_28 l1.1 hn]
    by_cases z : b s = v
    · have tk : tkk b N s = 3 := by
        unfold tkk
        rw [if_neg (by omega), z, kk]
      have ig := eg.mpr ⟨tk, z⟩
      have te : tee b N s = s + 1 := by
        unfold tee
        rw [if_neg (by omega), if_neg (by rw [z, kk]; decide)]
      have c2 : PS (mm_sf g1 159 28 (.int (ni (s + 1)))) := ps_159_28 l1.1 _
      rw [if_pos z, if_pos ig]
      exact ⟨_, rfl, l1.trans (ML.put (h := g1) (Or.inl rfl) c2), fun _ => ⟨s + 1, by omega, fs_159_28 l1.1 _, by unfold nx; rw [te]⟩, fun y => absurd ig y⟩
    · have ng : ¬ isG b N v (.inr s) = true := fun y => z (eg.mp y).2
      rw [if_neg z, if_neg ng]
      exact ⟨g1, rfl, l1, fun y => absurd y ng, fun _ => ⟨Mk.at_ hs hss a28, hs, a28⟩⟩
theorem z_nu14 (hn : 208 ≤ n) {s : Nat} (lo hi : Int32) : ∀ (m z k : Nat) (h : mm_H), N - z = m → m < k → PS h → TM b N h → s ≤ z → z ≤ N → fI h 159 28 = ni s → (z - s ≤ 5 → fI h 159 55 = ni (vlF b s (z - s)) ∧ vlF b s (z - s) < 10 ^ (z - s)) → ∃ g, lp_X11_takesNumber_14 K n 159 lo hi k (ni z) h = some (ni (rn b N 2 z), g) ∧ ML h g ∧ fI g 159 28 = ni s ∧ (rn b N 2 z - s ≤ 5 → fI g 159 55 = ni (vlF b s (rn b N 2 z - s))) := by
  intro m
  induction m with
  | zero =>
    intro z k h hm hk c t hs hz e28 hv
    obtain ⟨k, rfl⟩ : ∃ x, k = x + 1 := ⟨k - 1, by omega⟩
    have N9 := t.2.1
    unfold lp_X11_takesNumber_14
    rw [g_159_27 c hn, t.1, Option.bind_some, if_pos ((ni_le (by omega) (by omega)).mpr (by omega))]
    have er := rn_eq (b := b) (N := N) 2 z
    rw [if_neg (fun q => by omega)] at er
    rw [er]
    exact ⟨h, rfl, ML.id_ c, e28, fun q => (hv q).1⟩
  | succ m ih =>
    intro z k h hm hk c t hs hz e28 hv
    obtain ⟨k, rfl⟩ : ∃ x, k = x + 1 := ⟨k - 1, by omega⟩
    have N9 := t.2.1
    obtain ⟨eb, lb⟩ := t.2.2 z (by omega)
    have i9 : inb (ni z) 900 = true := ni_inb (by omega) (by omega)
    have tz : (ni z).toNatClampNeg = z := ni_tn (by omega)
    have er := rn_eq (b := b) (N := N) 2 z
    have s2 := sb_b2 (b z) lb
    have sub : ni z - ni s = ni (z - s) := ni_sub (by omega)
    unfold lp_X11_takesNumber_14
    rw [g_159_27 c hn, t.1, Option.bind_some, if_neg (fun q => by have := (ni_le (by omega) (by omega)).mp q; omega)]
    simp only [g_159_53 c hn, Option.bind_some, ge_199 c hn, i9, tz, if_true, eb, ni_1, g_159_28 c hn, e28, sub, g_159_55 c hn, p_159_55 c hn]
    have no : ¬ kd (b z) = 2 → ∃ g, (some (ni z, h) : Option (Int32 × mm_H)) = some (ni (rn b N 2 z), g) ∧ ML h g ∧ fI g 159 28 = ni s ∧ (rn b N 2 z - s ≤ 5 → fI g 159 55 = ni (vlF b s (rn b N 2 z - s))) := fun q => by
      rw [if_neg (fun y => q y.2)] at er
      rw [er]
      exact ⟨h, rfl, ML.id_ c, e28, fun q => (hv q).1⟩
    by_cases q1 : sb (b z) < 48
    · rw [if_pos q1]
      exact no (fun y => (s2.mpr y).1 q1)
    rw [if_neg q1]
    by_cases q2 : 57 < sb (b z)
    · rw [if_pos q2]
      exact no (fun y => (s2.mpr y).2 q2)
    rw [if_neg q2]
    have q : kd (b z) = 2 := s2.mp ⟨q1, q2⟩
    rw [if_pos ⟨by omega, q⟩] at er
    rw [er]
    by_cases q5 : 5 ≤ z - s
    · rw [if_pos (show (5 : Int32) ≤ ni (z - s) from (ni_le (a := 5) (by omega) (by omega)).mpr q5)]
      exact ih (z + 1) k h (by omega) (by omega) c t (by omega) (by omega) e28 (fun y => by omega)
    · rw [if_neg (show ¬ (5 : Int32) ≤ ni (z - s) from fun y => q5 ((ni_le (a := 5) (by omega) (by omega)).mp y))]
      obtain ⟨hl, hlt⟩ := hv (by omega)
      have hp : 10 ^ (z - s) ≤ 10 ^ 4 := Nat.pow_le_pow_right (by decide) (by omega)
      obtain ⟨sn, -, s48⟩ := sb_ni (b z) lb (Or.inr q)
      obtain ⟨s48, s57⟩ := s48 q
      have ev : vlF b s (z + 1 - s) = vlF b s (z - s) * 10 + (b z - 48) := by
        rw [show z + 1 - s = (z - s) + 1 by omega]
        show vlF b s (z - s) * 10 + (b (s + (z - s)) - 48) = _
        rw [show s + (z - s) = z by omega]
      have ex : 10 * fI h 159 55 + sb (b z) - 48 = ni (vlF b s (z + 1 - s)) := by
        rw [hl, sn, show (10 : Int32) = ni 10 from rfl, show (48 : Int32) = ni 48 from rfl, ← Int32.ofNat_mul, ni_add, ni_sub (by omega), ev]
        congr 1
        omega
      rw [ex]
      have c1 : PS (mm_sf h 159 55 (.int (ni (vlF b s (z + 1 - s))))) := ps_159_55 c _
      have l1 := ML.put (h := h) (Or.inr (Or.inr rfl)) c1
      obtain ⟨g, f1, f2, f3, f4⟩ := ih (z + 1) k _ (by omega) (by omega) c1 (t.ml l1) (by omega) (by omega) ((fI_sf_o (by decide) _).trans e28) (fun _ => ⟨fs_159_55 c _, by rw [ev, show z + 1 - s = (z - s) + 1 by omega, Nat.pow_succ]; omega⟩)
      exact ⟨g, f1, l1.trans f2, f3, f4⟩
theorem z_tnum0 (hK : 3000 ≤ K) (c : PS h) (hn : 208 ≤ n) (t : TM b N h) {s : Nat} (k : Mk b N h (.inr s)) (lo hi : Int32) : ∃ v g, q_X11_takesNumber K h n 159 lo hi = some (v, g) ∧ ML h g ∧ (tkk b N s = 2 ∧ tee b N s - s ≤ 5 ∧ ¬ ni (vl b N s) < lo ∧ ¬ hi < ni (vl b N s) → v = 1 ∧ Mk b N g (.inr (nx b N s)) ∧ fI g 159 55 = ni (vl b N s)) ∧ (¬ (tkk b N s = 2 ∧ tee b N s - s ≤ 5 ∧ ¬ ni (vl b N s) < lo ∧ ¬ hi < ni (vl b N s)) → v = 0 ∧ Mk b N g (.inl s)) := by
  obtain ⟨hs, hss⟩ := k.le
  have N9 := t.2.1
  obtain ⟨g1, f1, l1, a28⟩ := z_blanks hK c hn t k
  have c2 : PS (mm_sf g1 159 55 (.int 0)) := ps_159_55 l1.1 _
  have l2 := ML.put (h := g1) (Or.inr (Or.inr rfl)) c2
  obtain ⟨g3, f3, l3, b28, b55⟩ := z_nu14 (K := K) (b := b) (N := N) hn (s := s) lo hi _ s K (mm_sf g1 159 55 (.int 0)) rfl (by omega) c2 ((t.ml l1).ml l2) (Nat.le_refl _) hs ((fI_sf_o (by decide) _).trans a28) (fun _ => by rw [Nat.sub_self]; exact ⟨fs_159_55 l1.1 _, Nat.zero_lt_one⟩)
  have hr := rn_ge (b := b) (N := N) 2 _ s rfl
  have hrN := hr.2.1 hs
  obtain ⟨t1, t2⟩ := tee_rn (b := b) (N := N) (s := s) (k := 2) (Or.inr rfl) hs
  have ex : Mk b N g3 (.inl s) := ⟨hs, b28⟩
  unfold q_X11_takesNumber
  rw [gq_159 c hn, Option.bind_some, f1, Option.bind_some, g_159_28 l1.1 hn, a28, Option.bind_some, p_159_55 l1.1 hn, Option.bind_some, f3, Option.bind_some, g_159_28 l3.1 hn, b28, Option.bind_some]
  dsimp only
  by_cases q1 : rn b N 2 s = s
  · rw [if_pos (by rw [q1])]
    have tk : ¬ tkk b N s = 2 := fun z => t1.mp z q1
    exact ⟨0, g3, rfl, l1.trans (l2.trans l3), fun z => absurd z.1 tk, fun _ => ⟨rfl, ex⟩⟩
  have tk : tkk b N s = 2 := t1.mpr q1
  have te := t2 tk
  rw [if_neg (fun z => q1 ((ni_inj (by omega) (by omega)).mp z)), Option.bind_some, ni_sub hr.1]
  by_cases q5 : rn b N 2 s - s ≤ 5
  · rw [if_neg (show ¬ (5 : Int32) < ni (rn b N 2 s - s) from fun z => by have := (ni_lt (a := 5) (by omega) (by omega)).mp z; omega)]
    have e55 : fI g3 159 55 = ni (vl b N s) := by
      rw [b55 q5]
      unfold vl
      rw [te]
    simp only [g_159_55 l3.1 hn, e55, Option.bind_some, q_X11_isIn]
    by_cases y1 : ni (vl b N s) < lo
    · rw [if_pos y1, Option.bind_some, if_pos rfl]
      exact ⟨0, g3, rfl, l1.trans (l2.trans l3), fun z => absurd y1 z.2.2.1, fun _ => ⟨rfl, ex⟩⟩
    rw [if_neg y1]
    by_cases y2 : hi < ni (vl b N s)
    · rw [if_pos y2, Option.bind_some, if_pos rfl]
      exact ⟨0, g3, rfl, l1.trans (l2.trans l3), fun z => absurd y2 z.2.2.2, fun _ => ⟨rfl, ex⟩⟩
    rw [if_neg y2, Option.bind_some, if_neg (by decide), p_159_28 l3.1 hn, Option.bind_some]
    have c4 : PS (mm_sf g3 159 28 (.int (ni (rn b N 2 s)))) := ps_159_28 l3.1 _
    have l4 := ML.put (h := g3) (Or.inl rfl) c4
    refine ⟨1, _, rfl, l1.trans (l2.trans (l3.trans l4)), fun _ => ⟨rfl, ⟨rn b N 2 s, hrN, fs_159_28 l3.1 _, by unfold nx; rw [te]⟩, (fI_sf_o (by decide) _).trans e55⟩, fun z => absurd ⟨tk, by omega, y1, y2⟩ z⟩
  · rw [if_pos (show (5 : Int32) < ni (rn b N 2 s - s) from (ni_lt (a := 5) (by omega) (by omega)).mpr (by omega))]
    exact ⟨0, g3, rfl, l1.trans (l2.trans l3), fun z => by rw [te] at z; exact absurd z.2.1 q5, fun _ => ⟨rfl, ex⟩⟩
/-- a number, as the spec says it -/
theorem z_tnum (hK : 3000 ≤ K) (c : PS h) (hn : 208 ≤ n) (t : TM b N h) {s : Nat} (k : Mk b N h (.inr s)) (lo hi : Nat) (hlo : lo ≤ 99999) (hhi : hi ≤ 99999) : ∃ v g, q_X11_takesNumber K h n 159 (ni lo) (ni hi) = some (v, g) ∧ ML h g ∧ Mk b N g (nmS b N lo hi (.inr s)).2 ∧ (∀ s', (nmS b N lo hi (.inr s)).2 = .inr s' → v = 1 ∧ fI g 159 55 = (nmS b N lo hi (.inr s)).1) ∧ ∀ p, (nmS b N lo hi (.inr s)).2 = .inl p → v = 0 := by
  obtain ⟨v, g, f1, l1, y1, y2⟩ := z_tnum0 hK c hn t k (ni lo) (ni hi)
  have eu : nmS b N lo hi (.inr s) = if tkk b N s = 2 ∧ tee b N s - s ≤ 5 ∧ lo ≤ vl b N s ∧ vl b N s ≤ hi then (ni (vl b N s), .inr (nx b N s)) else (-1, .inl s) := rfl
  rw [eu]
  by_cases q : tkk b N s = 2 ∧ tee b N s - s ≤ 5 ∧ lo ≤ vl b N s ∧ vl b N s ≤ hi
  · obtain ⟨q1, q2, q3, q4⟩ := q
    have hv : vl b N s < 100000 := vl_lt q1 q2 _ (Nat.le_refl _)
    obtain ⟨a1, a2, a3⟩ := y1 ⟨q1, q2, fun z => by have := (ni_lt (by omega) (by omega)).mp z; omega, fun z => by have := (ni_lt (by omega) (by omega)).mp z; omega⟩
    rw [if_pos ⟨q1, q2, q3, q4⟩]
    exact ⟨v, g, f1, l1, a2, fun _ _ => ⟨a1, a3⟩, fun p e => nomatch e⟩
  · rw [if_neg q]
    obtain ⟨a1, a2⟩ := y2 (fun z => q (by
      obtain ⟨q1, q2, q3, q4⟩ := z
      have hv : vl b N s < 100000 := vl_lt q1 q2 _ (Nat.le_refl _)
      refine ⟨q1, q2, ?_, ?_⟩
      · exact Nat.not_lt.mp (fun y => q3 ((ni_lt (by omega) (by omega)).mpr y))
      · exact Nat.not_lt.mp (fun y => q4 ((ni_lt (by omega) (by omega)).mpr y))))
    exact ⟨v, g, f1, l1, a2, (fun s' e => nomatch e), fun _ _ => a1⟩
end LEXM

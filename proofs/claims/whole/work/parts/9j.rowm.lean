/-! ===== the model reads a rule: its parts ===== -/
section ROWM
variable {K n : Nat} {b : Nat → Nat} {N : Nat}
/-- what reading a row keeps -/
def WF (r : Nat) (h g : mm_H) : Prop := PS g ∧ (∀ a, a ≠ 159 → a < 182 ∨ 190 < a → g a = h a) ∧ (∀ k, k ≠ 28 → k ≠ 54 → k ≠ 55 → fI g 159 k = fI h 159 k ∧ fJ g 159 k = fJ h 159 k ∧ fR g 159 k = fR h 159 k) ∧ ∀ a, 182 ≤ a → a ≤ 190 → ∀ i, i ≠ r → iA g a i = iA h a i
theorem WF.trans {r : Nat} {h g f : mm_H} (x : WF r h g) (y : WF r g f) : WF r h f := ⟨y.1, fun a h1 h2 => (y.2.1 a h1 h2).trans (x.2.1 a h1 h2), fun k h1 h2 h3 => ⟨(y.2.2.1 k h1 h2 h3).1.trans (x.2.2.1 k h1 h2 h3).1, (y.2.2.1 k h1 h2 h3).2.1.trans (x.2.2.1 k h1 h2 h3).2.1, (y.2.2.1 k h1 h2 h3).2.2.trans (x.2.2.1 k h1 h2 h3).2.2⟩, fun a h1 h2 i hi => (y.2.2.2 a h1 h2 i hi).trans (x.2.2.2 a h1 h2 i hi)⟩
theorem ML.wf {h g : mm_H} (x : ML h g) (r : Nat) : WF r h g := ⟨x.1, fun a q _ => x.2.1 a q, x.2.2, fun a h1 h2 i _ => by rw [iA_c (x.2.1 a (by omega))]⟩
theorem TM.wf {h g : mm_H} {r : Nat} (t : TM b N h) (l : WF r h g) : TM b N g := ⟨(l.2.2.1 27 (by decide) (by decide) (by decide)).1.trans t.1, t.2.1, fun k hk => by rw [iA_c (l.2.1 199 (by decide) (by omega))]; exact t.2.2 k hk⟩
theorem WF.si {h : mm_H} (c : PS h) {a : Nat} (ha : 182 ≤ a ∧ a ≤ 190) (r : Nat) (x : Int32) : WF r h (mm_si h a r x) ∧ mm_si h a r x 159 = h 159 ∧ iA (mm_si h a r x) a = upd (iA h a) r x := by
  have p : PS (mm_si h a r x) ∧ iA (mm_si h a r x) a = upd (iA h a) r x := by
    rcases (by omega : a = 182 ∨ a = 183 ∨ a = 184 ∨ a = 185 ∨ a = 186 ∨ a = 187 ∨ a = 188 ∨ a = 189 ∨ a = 190) with rfl | rfl | rfl | rfl | rfl | rfl | rfl | rfl | rfl
    · exact ⟨ps_182 c _ _, is_182 c _ _⟩
    · exact ⟨ps_183 c _ _, is_183 c _ _⟩
    · exact ⟨ps_184 c _ _, is_184 c _ _⟩
    · exact ⟨ps_185 c _ _, is_185 c _ _⟩
    · exact ⟨ps_186 c _ _, is_186 c _ _⟩
    · exact ⟨ps_187 c _ _, is_187 c _ _⟩
    · exact ⟨ps_188 c _ _, is_188 c _ _⟩
    · exact ⟨ps_189 c _ _, is_189 c _ _⟩
    · exact ⟨ps_190 c _ _, is_190 c _ _⟩
  have e9 : mm_si h a r x 159 = h 159 := mm_si_n (by omega)
  refine ⟨⟨p.1, fun a' h1 h2 => mm_si_n (by omega), fun k _ _ _ => ⟨fI_c e9 k, fJ_c e9 k, fR_c e9 k⟩, fun a' h1 h2 j hj => ?_⟩, e9, p.2⟩
  by_cases q : a' = a
  · subst q
    rw [p.2, upd_n hj]
  · rw [iA_si_n q]
theorem st_rw {h : mm_H} (c : PS h) (hn : 208 ≤ n) {a r : Nat} (ha : 182 ≤ a ∧ a ≤ 190) (hr : r < 4200) (x : Int32) : stI h n a (ni r) x = some (mm_si h a r x) := by
  have i9 : inb (ni r) 4200 = true := ni_inb (by omega) hr
  have ti : (ni r).toNatClampNeg = r := ni_tn (by omega)
  rcases (by omega : a = 182 ∨ a = 183 ∨ a = 184 ∨ a = 185 ∨ a = 186 ∨ a = 187 ∨ a = 188 ∨ a = 189 ∨ a = 190) with rfl | rfl | rfl | rfl | rfl | rfl | rfl | rfl | rfl
  · rw [pe_182 c hn, if_pos i9, ti]
  · rw [pe_183 c hn, if_pos i9, ti]
  · rw [pe_184 c hn, if_pos i9, ti]
  · rw [pe_185 c hn, if_pos i9, ti]
  · rw [pe_186 c hn, if_pos i9, ti]
  · rw [pe_187 c hn, if_pos i9, ti]
  · rw [pe_188 c hn, if_pos i9, ti]
  · rw [pe_189 c hn, if_pos i9, ti]
  · rw [pe_190 c hn, if_pos i9, ti]
theorem ld_rw {h : mm_H} (c : PS h) (hn : 208 ≤ n) {a r : Nat} (ha : 182 ≤ a ∧ a ≤ 190) (hr : r < 4200) : ldI h n a (ni r) = some (iA h a r) := by
  have i9 : inb (ni r) 4200 = true := ni_inb (by omega) hr
  have ti : (ni r).toNatClampNeg = r := ni_tn (by omega)
  rcases (by omega : a = 182 ∨ a = 183 ∨ a = 184 ∨ a = 185 ∨ a = 186 ∨ a = 187 ∨ a = 188 ∨ a = 189 ∨ a = 190) with rfl | rfl | rfl | rfl | rfl | rfl | rfl | rfl | rfl
  · rw [ge_182 c hn, if_pos i9, ti]
  · rw [ge_183 c hn, if_pos i9, ti]
  · rw [ge_184 c hn, if_pos i9, ti]
  · rw [ge_185 c hn, if_pos i9, ti]
  · rw [ge_186 c hn, if_pos i9, ti]
  · rw [ge_187 c hn, if_pos i9, ti]
  · rw [ge_188 c hn, if_pos i9, ti]
  · rw [ge_189 c hn, if_pos i9, ti]
  · rw [ge_190 c hn, if_pos i9, ti]
theorem rd_rw {h : mm_H} (c : PS h) (hn : 208 ≤ n) {a f : Nat} (ha : 182 ≤ a ∧ a ≤ 190) (hf : f + 146 = a) : rdR h n 159 10 f = some (some a) := by
  subst hf
  rcases (by omega : f = 36 ∨ f = 37 ∨ f = 38 ∨ f = 39 ∨ f = 40 ∨ f = 41 ∨ f = 42 ∨ f = 43 ∨ f = 44) with rfl | rfl | rfl | rfl | rfl | rfl | rfl | rfl | rfl
  · exact g_159_36 c hn
  · exact g_159_37 c hn
  · exact g_159_38 c hn
  · exact g_159_39 c hn
  · exact g_159_40 c hn
  · exact g_159_41 c hn
  · exact g_159_42 c hn
  · exact g_159_43 c hn
  · exact g_159_44 c hn
/-- where reading leads; what the row says then -/
def OU (b : Nat → Nat) (N r : Nat) (h g : mm_H) (v : Int32) (τ : RSt) (R : mm_H → Prop) : Prop := WF r h g ∧ Mk b N g τ ∧ (∀ s', τ = .inr s' → v = 1 ∧ R g) ∧ ∀ p, τ = .inl p → v = 0
/-- the model stands at a token, since h -/
def ST (b : Nat → Nat) (N r : Nat) (h g : mm_H) (s : Nat) : Prop := WF r h g ∧ TM b N g ∧ Mk b N g (.inr s)
/-- the row is as before but for an array -/
def rwS (r a : Nat) (h g : mm_H) : Prop := ∀ x, 182 ≤ x → x ≤ 190 → x ≠ a → iA g x r = iA h x r
def RdN (b : Nat → Nat) (N lo hi : Nat) (rd : mm_H → Option (Int32 × mm_H)) : Prop := ∀ g s, PS g → TM b N g → Mk b N g (.inr s) → ∃ v g', rd g = some (v, g') ∧ ML g g' ∧ Mk b N g' (nmS b N lo hi (.inr s)).2 ∧ (∀ s', (nmS b N lo hi (.inr s)).2 = .inr s' → v = 1 ∧ fI g' 159 55 = (nmS b N lo hi (.inr s)).1) ∧ ∀ p, (nmS b N lo hi (.inr s)).2 = .inl p → v = 0
def numC (n : Nat) (rd : mm_H → Option (Int32 × mm_H)) (f : Nat) (r : Int32) (g : mm_H) (REST : mm_H → Option (Int32 × mm_H)) : Option (Int32 × mm_H) := (ckq g n 159 10).bind fun _ => (rd g).bind fun v => if v.1 = 0 then some (0, v.2) else (rdR v.2 n 159 10 f).bind fun v1 => (rdI v.2 n 159 10 55).bind fun v2 => v1.bind fun a => (stI v.2 n a r v2).bind fun h' => REST h'
theorem z_numC (hn : 208 ≤ n) {r : Nat} (hr : r < 4200) {lo hi : Nat} {rd : mm_H → Option (Int32 × mm_H)} (Rd : RdN b N lo hi rd) {a f : Nat} (ha : 182 ≤ a ∧ a ≤ 190) (hf : f + 146 = a) {h g : mm_H} {s : Nat} (S : ST b N r h g s) {REST : mm_H → Option (Int32 × mm_H)} {τ : RSt} {R : mm_H → Prop} (bad : ∀ p, (nmS b N lo hi (.inr s)).2 = .inl p → τ = .inl p) (good : ∀ s' g', (nmS b N lo hi (.inr s)).2 = .inr s' → ST b N r h g' s' → iA g' a r = (nmS b N lo hi (.inr s)).1 → rwS r a g g' → ∃ v g2, REST g' = some (v, g2) ∧ OU b N r h g2 v τ R) : ∃ v g2, numC n rd f (ni r) g REST = some (v, g2) ∧ OU b N r h g2 v τ R := by
  obtain ⟨w, t, k⟩ := S
  obtain ⟨v, g', f1, l1, k1, y1, y2⟩ := Rd g s w.1 t k
  unfold numC
  rw [gq_159 w.1 hn, Option.bind_some, f1, Option.bind_some]
  dsimp only
  cases e : (nmS b N lo hi (.inr s)).2 with
  | inl p =>
    rw [if_pos (y2 p e), bad p e]
    rw [e] at k1
    exact ⟨0, g', rfl, w.trans (l1.wf r), k1, (fun s' z => nomatch z), fun _ _ => rfl⟩
  | inr s' =>
    obtain ⟨v1, e55⟩ := y1 s' e
    rw [e] at k1
    obtain ⟨w2, k2, d2⟩ := WF.si l1.1 ha r (fI g' 159 55)
    rw [if_neg (by rw [v1]; decide), rd_rw l1.1 hn ha hf, Option.bind_some, g_159_55 l1.1 hn, Option.bind_some, Option.bind_some, st_rw l1.1 hn ha hr, Option.bind_some]
    exact good s' _ e ⟨(w.trans (l1.wf r)).trans w2, (t.ml l1).wf w2, k1.ml (fI_c k2 28)⟩ (by rw [d2, upd_s, e55]) (fun x h1 h2 h3 => by rw [iA_si_n h3, iA_c (l1.2.1 x (by omega))])
/-- a word that must stand there -/
def kwC (K n : Nat) (c : Int64) (g : mm_H) (REST : mm_H → Option (Int32 × mm_H)) : Option (Int32 × mm_H) := (ckq g n 159 10).bind fun _ => (q_X11_takes K g n 159 c).bind fun v => if v.1 = 0 then some (0, v.2) else REST v.2
theorem pkS_1 {w : List Nat} {s : Nat} : pkS b N [w] (.inr s) = if isW b N w s = true then (ni 0, .inr (nx b N s)) else (-1, .inl s) := by
  by_cases q : isW b N w s = true
  · rw [if_pos q]
    exact pkS_some (by unfold pkW; rw [if_pos q])
  · rw [if_neg q]
    exact pkS_none (by unfold pkW; rw [if_neg q]; rfl)
theorem z_kwC (hK : 3000 ≤ K) (hn : 208 ≤ n) {r : Nat} {w : List Nat} {c : Int64} (o : okC w c) {h g : mm_H} {s : Nat} (S : ST b N r h g s) {REST : mm_H → Option (Int32 × mm_H)} {τ : RSt} {R : mm_H → Prop} (bad : (pkS b N [w] (.inr s)).2 = .inl s → τ = .inl s) (good : ∀ g', (pkS b N [w] (.inr s)).2 = .inr (nx b N s) → ST b N r h g' (nx b N s) → (∀ x, 182 ≤ x → x ≤ 190 → iA g' x r = iA g x r) → ∃ v g2, REST g' = some (v, g2) ∧ OU b N r h g2 v τ R) : ∃ v g2, kwC K n c g REST = some (v, g2) ∧ OU b N r h g2 v τ R := by
  obtain ⟨wf, t, k⟩ := S
  obtain ⟨g', f1, l1, y1, y2⟩ := z_takes hK wf.1 hn t k o
  rw [pkS_1] at bad good
  unfold kwC
  rw [gq_159 wf.1 hn, Option.bind_some, f1, Option.bind_some]
  by_cases q : isW b N w s = true
  · rw [if_pos q, if_neg (show ¬ (1 : Int32) = 0 by decide)]
    rw [if_pos q] at good
    exact good g' rfl ⟨wf.trans (l1.wf r), t.ml l1, y1 q⟩ (fun x h1 h2 => by rw [iA_c (l1.2.1 x (by omega))])
  · rw [if_neg q, if_pos (show (0 : Int32) = 0 from rfl)]
    rw [if_neg q] at bad
    rw [bad rfl]
    exact ⟨0, g', rfl, wf.trans (l1.wf r), (y2 q).2, (fun s' z => nomatch z), fun _ _ => rfl⟩
/-- a choice is noted -/
def mdE (n : Nat) (x r : Int32) (f a : Nat) (g : mm_H) (REST : mm_H → Option (Int32 × mm_H)) : Option (Int32 × mm_H) := (some a).bind fun a => (stI g n a r x).bind fun h1 => (rdR h1 n 159 10 f).bind fun v => v.bind fun a2 => (ldI h1 n a2 r).bind fun w => if w = (-1) then some (0, h1) else REST h1
theorem z_mdE (hn : 208 ≤ n) {r : Nat} (hr : r < 4200) {a f : Nat} (ha : 182 ≤ a ∧ a ≤ 190) (hf : f + 146 = a) {h g : mm_H} {s : Nat} (S : ST b N r h g s) {REST : mm_H → Option (Int32 × mm_H)} {τ : RSt} {R : mm_H → Prop} {x : Int32} (hx : x ≠ -1) (good : ∀ g', ST b N r h g' s → iA g' a r = x → rwS r a g g' → ∃ v g2, REST g' = some (v, g2) ∧ OU b N r h g2 v τ R) : ∃ v g2, mdE n x (ni r) f a g REST = some (v, g2) ∧ OU b N r h g2 v τ R := by
  obtain ⟨wf, t, k⟩ := S
  obtain ⟨w2, k2, d2⟩ := WF.si wf.1 ha r x
  unfold mdE
  rw [Option.bind_some, st_rw wf.1 hn ha hr, Option.bind_some, rd_rw w2.1 hn ha hf, Option.bind_some, Option.bind_some, ld_rw w2.1 hn ha hr, Option.bind_some, d2, upd_s, if_neg hx]
  exact good _ ⟨wf.trans w2, t.wf w2, k.ml (fI_c k2 28)⟩ (by rw [d2, upd_s]) (fun y h1 h2 h3 => by rw [iA_si_n h3])
theorem z_mdN (hn : 208 ≤ n) {r : Nat} (hr : r < 4200) {a f : Nat} (ha : 182 ≤ a ∧ a ≤ 190) (hf : f + 146 = a) {h g : mm_H} {s : Nat} (wf : WF r h g) (k : Mk b N g (.inl s)) {REST : mm_H → Option (Int32 × mm_H)} {R : mm_H → Prop} : ∃ v g2, mdE n (-1) (ni r) f a g REST = some (v, g2) ∧ OU b N r h g2 v (.inl s) R := by
  obtain ⟨w2, k2, d2⟩ := WF.si wf.1 ha r (-1)
  unfold mdE
  rw [Option.bind_some, st_rw wf.1 hn ha hr, Option.bind_some, rd_rw w2.1 hn ha hf, Option.bind_some, Option.bind_some, ld_rw w2.1 hn ha hr, Option.bind_some, d2, upd_s, if_pos rfl]
  exact ⟨0, _, rfl, wf.trans w2, Mk.ml (σ := .inl s) k (fI_c k2 28), (fun s' z => nomatch z), fun _ _ => rfl⟩
/-- one of some words -/
def pkC (K n : Nat) (r : Int32) (f a : Nat) (REST : mm_H → Option (Int32 × mm_H)) : List (Int64 × Int32) → mm_H → Option (Int32 × mm_H)
  | [], g => mdE n (-1) r f a g REST
  | [c], g => (q_X11_takes K g n 159 c.1).bind fun v => if v.1 = 0 then mdE n (-1) r f a v.2 REST else mdE n c.2 r f a v.2 REST
  | c :: c' :: cs, g => (q_X11_takes K g n 159 c.1).bind fun v => if v.1 = 0 then (ckq v.2 n 159 10).bind fun _ => pkC K n r f a REST (c' :: cs) v.2 else mdE n c.2 r f a v.2 REST
/-- the words and their numbers -/
def okL (i : Nat) : List (List Nat) → List (Int64 × Int32) → Prop
  | [], [] => True
  | w :: ws, c :: cs => okC w c.1 ∧ c.2 = ni i ∧ okL (i + 1) ws cs
  | _, _ => False
theorem z_pkC (hK : 3000 ≤ K) (hn : 208 ≤ n) {r : Nat} (hr : r < 4200) {a f : Nat} (ha : 182 ≤ a ∧ a ≤ 190) (hf : f + 146 = a) {h g0 : mm_H} {s : Nat} {REST : mm_H → Option (Int32 × mm_H)} {τ : RSt} {R : mm_H → Prop} : ∀ (ws : List (List Nat)) (cs : List (Int64 × Int32)) (i : Nat) (g : mm_H), ws ≠ [] → okL i ws cs → i + ws.length < 1000 → ST b N r h g s → (∀ x, 182 ≤ x → x ≤ 190 → iA g x r = iA g0 x r) → (pkW b N s ws i = none → τ = .inl s) → (∀ j g', pkW b N s ws i = some j → ST b N r h g' (nx b N s) → iA g' a r = ni j → rwS r a g0 g' → ∃ v g2, REST g' = some (v, g2) ∧ OU b N r h g2 v τ R) → ∃ v g2, pkC K n (ni r) f a REST cs g = some (v, g2) ∧ OU b N r h g2 v τ R
  | [], _, _, _, hne, _, _, _, _, _, _ => absurd rfl hne
  | w :: ws, [], _, _, _, ok, _, _, _, _, _ => ok.elim
  | w :: ws, c :: cs, i, g, _, ok, hi, S, sm, bad, good => by
    obtain ⟨ok1, ok2, ok3⟩ := ok
    obtain ⟨wf, t, k⟩ := id S
    obtain ⟨g', f1, l1, y1, y2⟩ := z_takes hK wf.1 hn t k ok1
    have wf1 := wf.trans (l1.wf r)
    have sm1 : ∀ x, 182 ≤ x → x ≤ 190 → iA g' x r = iA g0 x r := fun x h1 h2 => by rw [iA_c (l1.2.1 x (by omega))]; exact sm x h1 h2
    simp only [List.length_cons] at hi
    by_cases q : isW b N w s = true
    · have ep : pkW b N s (w :: ws) i = some i := by unfold pkW; rw [if_pos q]
      have run : pkC K n (ni r) f a REST (c :: cs) g = mdE n c.2 (ni r) f a g' REST := by
        cases cs with
        | nil =>
          unfold pkC
          rw [f1, if_pos q, Option.bind_some, if_neg (show ¬ (1 : Int32) = 0 by decide)]
        | cons c' cs =>
          unfold pkC
          rw [f1, if_pos q, Option.bind_some, if_neg (show ¬ (1 : Int32) = 0 by decide)]
      rw [run, ok2]
      exact z_mdE hn hr ha hf ⟨wf1, t.ml l1, y1 q⟩ (ni_n1 (by omega)) (fun g2 S2 e2 r2 => good i g2 ep S2 e2 (fun x h1 h2 h3 => (r2 x h1 h2 h3).trans (sm1 x h1 h2)))
    · have ep : pkW b N s (w :: ws) i = pkW b N s ws (i + 1) := by
        conv => lhs; unfold pkW
        rw [if_neg q]
      rw [ep] at bad good
      cases cs with
      | nil =>
        cases ws with
        | cons w' ws => exact ok3.elim
        | nil =>
          unfold pkC
          rw [f1, if_neg q, Option.bind_some, if_pos rfl, bad rfl]
          exact z_mdN hn hr ha hf wf1 (y2 q).2
      | cons c' cs =>
        cases ws with
        | nil => exact ok3.elim
        | cons w' ws =>
          unfold pkC
          rw [f1, if_neg q, Option.bind_some, if_pos rfl, gq_159 wf1.1 hn, Option.bind_some]
          exact z_pkC hK hn hr ha hf (w' :: ws) (c' :: cs) (i + 1) g' (by simp) ok3 (by simp only [List.length_cons] at *; omega) ⟨wf1, t.ml l1, (y2 q).1⟩ sm1 bad good
end ROWM

/-! ===== the model reads a rule ===== -/
section RULEM
variable {K n : Nat} {b : Nat → Nat} {N : Nat}
theorem tgS_2 (b : Nat → Nat) (N : Nat) (σ : RSt) : (tgS_ b N σ).2 = (nmS b N 0 99999 (pkS b N (wds 10) (nmS b N 0 99999 (pkS b N (wds 9) (nmS b N 0 99999 (pkS b N (wds 8) (nmS b N 1 99999 (pkS b N (wds 7) (nmS b N 0 99999 (pkS b N (wds 6) (nmS b N 0 2 σ).2).2).2).2).2).2).2).2).2).2).2 := rfl
theorem z_targetM (hK : 3000 ≤ K) (hn : 208 ≤ n) {r : Nat} (hr : r < 4200) {h g : mm_H} {s : Nat} (S : ST b N r h g s) : ∃ v g2, q_X11_target K g n 159 (ni r) = some (v, g2) ∧ OU b N r h g2 v (tgS_ b N (.inr s)).2 (fun g' => BR g' r 2 (tgS_ b N (.inr s)).1) := by
  obtain ⟨f1, S1, a1, -⟩ := z_kd hn hr S 182 (by omega) 2
  obtain ⟨oc1, oc2, oc3, oc4⟩ := okC_t
  unfold q_X11_target
  rw [g_159_36 S.1.1 hn, Option.bind_some, Option.bind_some, f1, Option.bind_some]
  have ev : (tgS_ b N (.inr s)).1 = ((nmS b N 0 2 (.inr s)).1, (pkS b N (wds 6) (nmS b N 0 2 (.inr s)).2).1, 0, (nmS b N 0 99999 (pkS b N (wds 6) (nmS b N 0 2 (.inr s)).2).2).1, 0, (nmS b N 1 99999 (pkS b N (wds 7) (nmS b N 0 99999 (pkS b N (wds 6) (nmS b N 0 2 (.inr s)).2).2).2).2).1, (nmS b N 0 99999 (pkS b N (wds 8) (nmS b N 1 99999 (pkS b N (wds 7) (nmS b N 0 99999 (pkS b N (wds 6) (nmS b N 0 2 (.inr s)).2).2).2).2).2).2).1, (nmS b N 0 99999 (pkS b N (wds 9) (nmS b N 0 99999 (pkS b N (wds 8) (nmS b N 1 99999 (pkS b N (wds 7) (nmS b N 0 99999 (pkS b N (wds 6) (nmS b N 0 2 (.inr s)).2).2).2).2).2).2).2).2).1, (nmS b N 0 99999 (pkS b N (wds 10) (nmS b N 0 99999 (pkS b N (wds 9) (nmS b N 0 99999 (pkS b N (wds 8) (nmS b N 1 99999 (pkS b N (wds 7) (nmS b N 0 99999 (pkS b N (wds 6) (nmS b N 0 2 (.inr s)).2).2).2).2).2).2).2).2).2).2).1) := rfl
  rw [ev, tgS_2]
  refine z_numC (n := n) hn hr (rd_num hK hn 0 2 (by omega) (by omega)) (a := 183) (f := 37) (by omega) rfl S1 (fun p e => by rw [e]; rfl) (fun s2 g2 e2 S2 a2 r2 => ?_)
  rw [e2, g_159_38 S2.1.1 hn, Option.bind_some, gq_159 S2.1.1 hn, Option.bind_some]
  obtain ⟨n1, n2⟩ := pkS_e (b := b) (N := N) (ws := wds 6) (s := s2)
  have l1 : iA g2 182 r = 2 := by rw [r2 182 (by omega) (by omega) (by omega)]; exact a1
  refine z_pkC (K := K) (n := n) (b := b) (N := N) hK hn hr (a := 184) (f := 38) (by omega) rfl (g0 := g2) (REST := fun g => numC n (fun g => q_X11_takesPlain K g n 159) 39 (ni r) g (fun g => kwC K n 1937007984 g (fun g => numC n (fun g => q_X11_takesNumber K g n 159 1 99999) 40 (ni r) g (fun g => kwC K n 1668245870 g (fun g => numC n (fun g => q_X11_takesPlain K g n 159) 41 (ni r) g (fun g => kwC K n 1684365668 g (fun g => numC n (fun g => q_X11_takesPlain K g n 159) 42 (ni r) g (fun g => kwC K n 6513008 g (fun g => numC n (fun g => q_X11_takesPlain K g n 159) 43 (ni r) g (fun h => some (1, h))))))))))) wsT [(1836020325, 0), (1818588019, 1)] 0 g2 (by decide) okL_T (by decide) S2 (fun _ _ _ => rfl) (fun e => ?_) (fun j g3 ej S3 a3 r3 => ?_)
  · have e5 : pkS b N (wds 6) (.inr s2) = (-1, .inl s2) := pkS_none (by rw [wds_6]; exact e)
    rw [e5]
    rfl
  have e3 := n2 j (by rw [wds_6]; exact ej)
  rw [e3]
  dsimp only
  refine z_numC (n := n) hn hr (rd_pl hK hn) (a := 185) (f := 39) (by omega) rfl S3 (fun p e => by rw [e]; rfl) (fun s4 g4 e4 S4 a4 r4 => ?_)
  rw [e4, wds_7]
  refine z_kwC (K := K) (n := n) hK hn oc1 S4 (fun e => by rw [e]; rfl) (fun g5 e5 S5 r5 => ?_)
  rw [e5]
  refine z_numC (n := n) hn hr (rd_num hK hn 1 99999 (by omega) (by omega)) (a := 186) (f := 40) (by omega) rfl S5 (fun p e => by rw [e]; rfl) (fun s6 g6 e6 S6 a6 r6 => ?_)
  rw [e6, wds_8]
  refine z_kwC (K := K) (n := n) hK hn oc2 S6 (fun e => by rw [e]; rfl) (fun g7 e7 S7 r7 => ?_)
  rw [e7]
  refine z_numC (n := n) hn hr (rd_pl hK hn) (a := 187) (f := 41) (by omega) rfl S7 (fun p e => by rw [e]; rfl) (fun s8 g8 e8 S8 a8 r8 => ?_)
  rw [e8, wds_9]
  refine z_kwC (K := K) (n := n) hK hn oc3 S8 (fun e => by rw [e]; rfl) (fun g9 e9 S9 r9 => ?_)
  rw [e9]
  refine z_numC (n := n) hn hr (rd_pl hK hn) (a := 188) (f := 42) (by omega) rfl S9 (fun p e => by rw [e]; rfl) (fun sa ga ea Sa aa ra => ?_)
  rw [ea, wds_10]
  refine z_kwC (K := K) (n := n) hK hn oc4 Sa (fun e => by rw [e]; rfl) (fun gb eb Sb rb => ?_)
  rw [eb]
  refine z_numC (n := n) hn hr (rd_pl hK hn) (a := 189) (f := 43) (by omega) rfl Sb (fun p e => by rw [e]) (fun sc gc ec Sc ac rc => z_fin Sc (by rw [ec]) ?_)
  have y1 : ∀ x, 182 ≤ x → x ≤ 188 → iA gc x r = iA ga x r := fun x q1 q2 => (rc x q1 (by omega) (by omega)).trans (rb x q1 (by omega))
  have y2 : ∀ x, 182 ≤ x → x ≤ 187 → iA gc x r = iA g8 x r := fun x q1 q2 => (y1 x q1 (by omega)).trans ((ra x q1 (by omega) (by omega)).trans (r9 x q1 (by omega)))
  have y3 : ∀ x, 182 ≤ x → x ≤ 186 → iA gc x r = iA g6 x r := fun x q1 q2 => (y2 x q1 (by omega)).trans ((r8 x q1 (by omega) (by omega)).trans (r7 x q1 (by omega)))
  have y4 : ∀ x, 182 ≤ x → x ≤ 185 → iA gc x r = iA g4 x r := fun x q1 q2 => (y3 x q1 (by omega)).trans ((r6 x q1 (by omega) (by omega)).trans (r5 x q1 (by omega)))
  have y5 : ∀ x, 182 ≤ x → x ≤ 184 → iA gc x r = iA g3 x r := fun x q1 q2 => (y4 x q1 (by omega)).trans (r4 x q1 (by omega) (by omega))
  refine ⟨?_, ?_, fun z => absurd z (by decide), fun z => absurd z (by decide), fun _ => ⟨?_, ?_, ?_, ?_, ?_, ac⟩, fun _ _ z => absurd rfl z⟩
  · rw [y5 182 (by omega) (by omega), r3 182 (by omega) (by omega) (by omega)]; exact l1
  · rw [y5 183 (by omega) (by omega), r3 183 (by omega) (by omega) (by omega)]; exact a2
  · rw [y5 184 (by omega) (by omega)]; exact a3
  · rw [y4 185 (by omega) (by omega)]; exact a4
  · rw [y3 186 (by omega) (by omega)]; exact a6
  · rw [y2 187 (by omega) (by omega)]; exact a8
  · rw [y1 188 (by omega) (by omega)]; exact aa
def wsK : List (List Nat) := [[97, 108, 108, 111, 119], [115, 104, 97, 114, 101], [116, 97, 114, 103, 101, 116], [114, 101, 116, 117, 114, 110], [105, 110, 100, 101, 120], [119, 101, 97, 114], [98, 97, 99, 107], [116, 105, 108, 116], [108, 111, 103]]
theorem wds_2 : wds 2 = wsK := by decide +kernel
/-- a word that leads to its reader -/
def rlC (K n : Nat) : List (Int64 × (mm_H → Option (Int32 × mm_H))) → mm_H → Option (Int32 × mm_H)
  | [], g => some (0, g)
  | [c], g => (q_X11_takes K g n 159 c.1).bind fun v => if v.1 = 0 then some (0, v.2) else (ckq v.2 n 159 10).bind fun _ => c.2 v.2
  | c :: c' :: cs, g => (q_X11_takes K g n 159 c.1).bind fun v => if v.1 = 0 then (ckq v.2 n 159 10).bind fun _ => rlC K n (c' :: cs) v.2 else (ckq v.2 n 159 10).bind fun _ => c.2 v.2
def okK (b : Nat → Nat) (N r : Nat) (h : mm_H) (i : Nat) : List (List Nat) → List (Int64 × (mm_H → Option (Int32 × mm_H))) → Prop
  | [], [] => True
  | w :: ws, c :: cs => okC w c.1 ∧ (∀ s g, ST b N r h g s → ∃ v g2, c.2 g = some (v, g2) ∧ OU b N r h g2 v (bodyS b N (ni i) (.inr s)).2 (fun g' => BR g' r (ni i) (bodyS b N (ni i) (.inr s)).1)) ∧ okK b N r h (i + 1) ws cs
  | _, _ => False
theorem z_rlC (hK : 3000 ≤ K) (hn : 208 ≤ n) {r : Nat} {h : mm_H} {s : Nat} {τ : RSt} {R : mm_H → Prop} : ∀ (ws : List (List Nat)) (cs : List (Int64 × (mm_H → Option (Int32 × mm_H)))) (i : Nat) (g : mm_H), ws ≠ [] → okK b N r h i ws cs → ST b N r h g s → (pkW b N s ws i = none → τ = .inl s) → (∀ j, pkW b N s ws i = some j → τ = (bodyS b N (ni j) (.inr (nx b N s))).2 ∧ R = fun g' => BR g' r (ni j) (bodyS b N (ni j) (.inr (nx b N s))).1) → ∃ v g2, rlC K n cs g = some (v, g2) ∧ OU b N r h g2 v τ R
  | [], _, _, _, hne, _, _, _, _ => absurd rfl hne
  | w :: ws, [], _, _, _, ok, _, _, _ => ok.elim
  | w :: ws, c :: cs, i, g, _, ok, S, bad, good => by
    obtain ⟨ok1, ok2, ok3⟩ := ok
    obtain ⟨wf, t, k⟩ := id S
    obtain ⟨g', f1, l1, y1, y2⟩ := z_takes hK wf.1 hn t k ok1
    have wf1 := wf.trans (l1.wf r)
    by_cases q : isW b N w s = true
    · have ep : pkW b N s (w :: ws) i = some i := by unfold pkW; rw [if_pos q]
      obtain ⟨rfl, rfl⟩ := good i ep
      have run : rlC K n (c :: cs) g = c.2 g' := by
        cases cs with
        | nil =>
          unfold rlC
          rw [f1, if_pos q, Option.bind_some, if_neg (show ¬ (1 : Int32) = 0 by decide), gq_159 wf1.1 hn, Option.bind_some]
        | cons c' cs =>
          unfold rlC
          rw [f1, if_pos q, Option.bind_some, if_neg (show ¬ (1 : Int32) = 0 by decide), gq_159 wf1.1 hn, Option.bind_some]
      rw [run]
      exact ok2 (nx b N s) g' ⟨wf1, t.ml l1, y1 q⟩
    · have ep : pkW b N s (w :: ws) i = pkW b N s ws (i + 1) := by
        conv => lhs; unfold pkW
        rw [if_neg q]
      rw [ep] at bad good
      cases cs with
      | nil =>
        cases ws with
        | cons w' ws => exact ok3.elim
        | nil =>
          unfold rlC
          rw [f1, if_neg q, Option.bind_some, if_pos rfl, bad rfl]
          exact ⟨0, g', rfl, wf1, (y2 q).2, (fun s' z => nomatch z), fun _ _ => rfl⟩
      | cons c' cs =>
        cases ws with
        | nil => exact ok3.elim
        | cons w' ws =>
          unfold rlC
          rw [f1, if_neg q, Option.bind_some, if_pos rfl, gq_159 wf1.1 hn, Option.bind_some]
          exact z_rlC hK hn (w' :: ws) (c' :: cs) (i + 1) g' (by simp) ok3 ⟨wf1, t.ml l1, (y2 q).1⟩ bad good
theorem ou_01 {r : Nat} {h g : mm_H} {v : Int32} {τ : RSt} {R : mm_H → Prop} (o : OU b N r h g v τ R) : v = 0 ∨ v = 1 := by
  obtain ⟨-, -, y1, y2⟩ := o
  cases τ with
  | inl p => exact Or.inl (y2 p rfl)
  | inr s => exact Or.inr (y1 s rfl).1
theorem ou_ckz {r : Nat} {h : mm_H} {X : Option (Int32 × mm_H)} {τ : RSt} {R : mm_H → Prop} (x : ∃ v g, X = some (v, g) ∧ OU b N r h g v τ R) : ∃ v g, (X.bind fun v => (ckz v.1).bind fun _ => some (v.1, v.2)) = some (v, g) ∧ OU b N r h g v τ R := by
  obtain ⟨v, g, e, o⟩ := x
  refine ⟨v, g, ?_, o⟩
  rw [e, Option.bind_some]
  rcases ou_01 o with q | q
  · rw [q]; rfl
  · rw [q]; rfl
theorem ou_log {r : Nat} {h : mm_H} {X : Option (Int32 × mm_H)} {τ : RSt} {R : mm_H → Prop} (x : ∃ v g, X = some (v, g) ∧ OU b N r h g v τ R) : ∃ v g, (X.bind fun v => if v.1 = 0 then some (0, v.2) else some (1, v.2)) = some (v, g) ∧ OU b N r h g v τ R := by
  obtain ⟨v, g, e, o⟩ := x
  refine ⟨v, g, ?_, o⟩
  rw [e, Option.bind_some]
  rcases ou_01 o with q | q
  · rw [q]; rfl
  · rw [q]; rfl
theorem okC_k : okC [97, 108, 108, 111, 119] 418430873463 ∧ okC [115, 104, 97, 114, 101] 495672455781 ∧ okC [116, 97, 114, 103, 101, 116] 127961880028532 ∧ okC [114, 101, 116, 117, 114, 110] 125780071117422 ∧ okC [105, 110, 100, 101, 120] 452823639416 ∧ okC [119, 101, 97, 114] 2003132786 ∧ okC [98, 97, 99, 107] 1650549611 ∧ okC [116, 105, 108, 116] 1953066100 ∧ okC [108, 111, 103] 7106407 := by decide +kernel
theorem z_ruleM (hK : 3000 ≤ K) (hn : 208 ≤ n) {r : Nat} (hr : r < 4200) {h g : mm_H} (hT : TM b N h) {s : Nat} (S : ST b N r h g s) : ∃ v g2, q_X11_rule K g n 159 (ni r) = some (v, g2) ∧ OU b N r h g2 v (bodyS b N (pkS b N (wds 2) (.inr s)).1 (pkS b N (wds 2) (.inr s)).2).2 (fun g' => BR g' r (pkS b N (wds 2) (.inr s)).1 (bodyS b N (pkS b N (wds 2) (.inr s)).1 (pkS b N (wds 2) (.inr s)).2).1) := by
  obtain ⟨q1, q2, q3, q4, q5, q6, q7, q8, q9⟩ := okC_k
  have pl : ∀ (k lo hi : Nat), 3 ≤ k ∧ k ≤ 8 → lo ≤ 99999 → hi ≤ 99999 → (∀ σ, bodyS b N (ni k) σ = plS_ b N lo hi σ) → ∀ s g, ST b N r h g s → ∃ v g2, q_X11_plain K g n 159 (ni r) (ni k) (ni lo) (ni hi) = some (v, g2) ∧ OU b N r h g2 v (bodyS b N (ni k) (.inr s)).2 (fun g' => BR g' r (ni k) (bodyS b N (ni k) (.inr s)).1) := fun k lo hi hk h1 h2 e s g S => by
    rw [e]
    exact z_plainM hK hn hr S k hk lo hi h1 h2
  have ok : okK b N r h 0 wsK [(418430873463, fun g => (q_X11_allow K g n 159 (ni r)).bind fun v => (ckz v.1).bind fun _ => some (v.1, v.2)), (495672455781, fun g => (q_X11_share K g n 159 (ni r)).bind fun v => (ckz v.1).bind fun _ => some (v.1, v.2)), (127961880028532, fun g => (q_X11_target K g n 159 (ni r)).bind fun v => (ckz v.1).bind fun _ => some (v.1, v.2)), (125780071117422, fun g => (q_X11_plain K g n 159 (ni r) 3 0 500).bind fun v => (ckz v.1).bind fun _ => some (v.1, v.2)), (452823639416, fun g => (q_X11_plain K g n 159 (ni r) 4 50 150).bind fun v => (ckz v.1).bind fun _ => some (v.1, v.2)), (2003132786, fun g => (q_X11_plain K g n 159 (ni r) 5 0 100).bind fun v => (ckz v.1).bind fun _ => some (v.1, v.2)), (1650549611, fun g => (q_X11_plain K g n 159 (ni r) 6 0 100).bind fun v => (ckz v.1).bind fun _ => some (v.1, v.2)), (1953066100, fun g => (q_X11_plain K g n 159 (ni r) 7 0 100).bind fun v => (ckz v.1).bind fun _ => some (v.1, v.2)), (7106407, fun g => (q_X11_plain K g n 159 (ni r) 8 0 100).bind fun v => if v.1 = 0 then some (0, v.2) else some (1, v.2))] :=
    ⟨q1, fun s g S => ou_ckz (z_allowM hK hn hr hT S), q2, fun s g S => ou_ckz (z_shareM hK hn hr hT S), q3, fun s g S => ou_ckz (z_targetM hK hn hr S), q4, fun s g S => ou_ckz (pl 3 0 500 (by omega) (by omega) (by omega) (fun σ => rfl) s g S), q5, fun s g S => ou_ckz (pl 4 50 150 (by omega) (by omega) (by omega) (fun σ => rfl) s g S), q6, fun s g S => ou_ckz (pl 5 0 100 (by omega) (by omega) (by omega) (fun σ => rfl) s g S), q7, fun s g S => ou_ckz (pl 6 0 100 (by omega) (by omega) (by omega) (fun σ => rfl) s g S), q8, fun s g S => ou_ckz (pl 7 0 100 (by omega) (by omega) (by omega) (fun σ => rfl) s g S), q9, fun s g S => ou_log (pl 8 0 100 (by omega) (by omega) (by omega) (fun σ => rfl) s g S), trivial⟩
  obtain ⟨n1, n2⟩ := pkS_e (b := b) (N := N) (ws := wds 2) (s := s)
  unfold q_X11_rule
  rw [gq_159 S.1.1 hn, Option.bind_some]
  have X := z_rlC (K := K) (n := n) (b := b) (N := N) (τ := (bodyS b N (pkS b N (wds 2) (.inr s)).1 (pkS b N (wds 2) (.inr s)).2).2) (R := (fun g' => BR g' r (pkS b N (wds 2) (.inr s)).1 (bodyS b N (pkS b N (wds 2) (.inr s)).1 (pkS b N (wds 2) (.inr s)).2).1)) hK hn wsK _ 0 g (by decide) ok S (fun e => by
    rw [pkS_none (by rw [wds_2]; exact e)]
    rfl) (fun j e => by
    rw [n2 j (by rw [wds_2]; exact e)]
    exact ⟨rfl, rfl⟩)
  exact X
end RULEM

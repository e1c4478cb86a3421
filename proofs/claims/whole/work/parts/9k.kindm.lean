/-! ===== the model reads a rule: its kinds ===== -/
section KINDM
variable {K n : Nat} {b : Nat → Nat} {N : Nat}
def wsO : List (List Nat) := [[114, 117, 110], [112, 105, 112, 101, 115], [112, 111, 119, 101, 114], [111, 116, 104, 101, 114]]
def wsM : List (List Nat) := [[108, 105, 110, 101], [109, 101, 97, 110], [98, 101, 115, 116], [112, 108, 97, 110]]
def wsT : List (List Nat) := [[109, 111, 114, 101], [108, 101, 115, 115]]
theorem wds_3 : wds 3 = wsO := by decide +kernel
theorem wds_5 : wds 5 = wsM := by decide +kernel
theorem wds_6 : wds 6 = wsT := by decide +kernel
theorem wds_7 : wds 7 = [[115, 116, 101, 112]] := by decide +kernel
theorem wds_8 : wds 8 = [[99, 111, 105, 110]] := by decide +kernel
theorem wds_9 : wds 9 = [[100, 101, 97, 100]] := by decide +kernel
theorem wds_10 : wds 10 = [[99, 97, 112]] := by decide +kernel
theorem okC_t : okC [115, 116, 101, 112] 1937007984 ∧ okC [99, 111, 105, 110] 1668245870 ∧ okC [100, 101, 97, 100] 1684365668 ∧ okC [99, 97, 112] 6513008 := by decide +kernel
theorem okL_O : okL 0 wsO [(7501166, 0), (482805310835, 1), (482906432882, 2), (478694368626, 3)] := ⟨by decide +kernel, rfl, by decide +kernel, rfl, by decide +kernel, rfl, by decide +kernel, rfl, trivial⟩
theorem okL_M : okL 0 wsM [(1818848869, 0), (1835360622, 1), (1650815860, 2), (1886151022, 3)] := ⟨by decide +kernel, rfl, by decide +kernel, rfl, by decide +kernel, rfl, by decide +kernel, rfl, trivial⟩
theorem okL_T : okL 0 wsT [(1836020325, 0), (1818588019, 1)] := ⟨by decide +kernel, rfl, by decide +kernel, rfl, trivial⟩
theorem rd_num (hK : 3000 ≤ K) (hn : 208 ≤ n) (lo hi : Nat) (h1 : lo ≤ 99999) (h2 : hi ≤ 99999) : RdN b N lo hi (fun g => q_X11_takesNumber K g n 159 (ni lo) (ni hi)) := fun _ _ c t k => z_tnum hK c hn t k lo hi h1 h2
theorem rd_pl (hK : 3000 ≤ K) (hn : 208 ≤ n) : RdN b N 0 99999 (fun g => q_X11_takesPlain K g n 159) := fun _ _ c t k => z_tplain hK c hn t k
/-- a call of a reader: it fails, or goes on -/
theorem z_clX {r : Nat} {h : mm_H} (hT : TM b N h) {X : Option (Int32 × mm_H)} {τ1 : RSt} {R1 : mm_H → Prop} (x : ∃ v g, X = some (v, g) ∧ OU b N r h g v τ1 R1) : (∃ p g, X = some (0, g) ∧ τ1 = .inl p ∧ ∀ R, OU b N r h g 0 (.inl p) R) ∨ ∃ s g, X = some (1, g) ∧ τ1 = .inr s ∧ ST b N r h g s ∧ R1 g := by
  obtain ⟨v, g, e, w, k, y1, y2⟩ := x
  cases et : τ1 with
  | inl p =>
    rw [et] at k
    exact Or.inl ⟨p, g, by rw [e, y2 p et], rfl, fun R => ⟨w, k, (fun s' z => nomatch z), fun _ _ => rfl⟩⟩
  | inr s =>
    rw [et] at k
    obtain ⟨v1, rr⟩ := y1 s et
    exact Or.inr ⟨s, g, by rw [e, v1], rfl, ⟨w, hT.wf w, k⟩, rr⟩
theorem z_fin {r : Nat} {h g : mm_H} {s : Nat} {τ : RSt} {R : mm_H → Prop} (S : ST b N r h g s) (e : τ = .inr s) (rr : R g) : ∃ v g2, (some (1, g) : Option (Int32 × mm_H)) = some (v, g2) ∧ OU b N r h g2 v τ R := by
  subst e
  exact ⟨1, g, rfl, S.1, S.2.2, fun _ _ => ⟨rfl, rr⟩, fun p z => nomatch z⟩
theorem pkS_e {ws : List (List Nat)} {s : Nat} : (pkW b N s ws 0 = none → (pkS b N ws (.inr s)).2 = .inl s) ∧ ∀ j, pkW b N s ws 0 = some j → pkS b N ws (.inr s) = (ni j, .inr (nx b N s)) := ⟨fun e => by rw [pkS_none e], fun j e => pkS_some e⟩
theorem z_head (hK : 3000 ≤ K) (hn : 208 ≤ n) {r : Nat} (hr : r < 4200) {h g : mm_H} {s : Nat} (S : ST b N r h g s) : ∃ v g2, q_X11_head K g n 159 (ni r) = some (v, g2) ∧ OU b N r h g2 v (pkS b N (wds 3) (.inr s)).2 (fun g' => iA g' 183 r = (pkS b N (wds 3) (.inr s)).1 ∧ rwS r 183 g g') := by
  obtain ⟨e1, e2⟩ := pkS_e (b := b) (N := N) (ws := wds 3) (s := s)
  have x := z_pkC (K := K) (n := n) (b := b) (N := N) hK hn hr (a := 183) (f := 37) (by omega) rfl (g0 := g) (REST := fun h1 => some (1, h1)) (τ := (pkS b N (wds 3) (.inr s)).2) (R := fun g' => iA g' 183 r = (pkS b N (wds 3) (.inr s)).1 ∧ rwS r 183 g g') wsO _ 0 g (by decide) okL_O (by decide) S (fun _ _ _ => rfl) (fun e => e1 (by rw [wds_3]; exact e)) (fun j g' e S' a1 a2 => by
    have e3 := e2 j (by rw [wds_3]; exact e)
    exact z_fin S' (by rw [e3]) ⟨by rw [e3]; exact a1, a2⟩)
  unfold q_X11_head
  rw [g_159_37 S.1.1 hn, Option.bind_some, gq_159 S.1.1 hn, Option.bind_some]
  exact x
theorem alS_2 (σ : RSt) : (alS_ b N σ).2 = if (pkS b N (wds 5) (pkS b N (wds 3) σ).2).1 = 3 then (nmS b N 0 200 (pkS b N (wds 5) (pkS b N (wds 3) σ).2).2).2 else (nmS b N 0 200 (nmS b N 0 2 (pkS b N (wds 5) (pkS b N (wds 3) σ).2).2).2).2 := by
  unfold alS_
  dsimp only
  split <;> rfl
def BR (g : mm_H) (r : Nat) (k : Int32) (v : V9) : Prop := iA g 182 r = k ∧ iA g 183 r = v.1 ∧ (k = 0 → iA g 184 r = v.2.1 ∧ iA g 185 r = v.2.2.1 ∧ iA g 186 r = v.2.2.2.1) ∧ (k = 1 → iA g 185 r = v.2.2.2.1 ∧ iA g 186 r = v.2.2.2.2.1) ∧ (k = 2 → iA g 184 r = v.2.1 ∧ iA g 185 r = v.2.2.2.1 ∧ iA g 186 r = v.2.2.2.2.2.1 ∧ iA g 187 r = v.2.2.2.2.2.2.1 ∧ iA g 188 r = v.2.2.2.2.2.2.2.1 ∧ iA g 189 r = v.2.2.2.2.2.2.2.2) ∧ (k ≠ 0 → k ≠ 1 → k ≠ 2 → iA g 185 r = v.2.2.2.1)
/-- a kind is noted -/
theorem z_kd (hn : 208 ≤ n) {r : Nat} (hr : r < 4200) {h g : mm_H} {s : Nat} (S : ST b N r h g s) (a : Nat) (ha : 182 ≤ a ∧ a ≤ 190) (x : Int32) : stI g n a (ni r) x = some (mm_si g a r x) ∧ ST b N r h (mm_si g a r x) s ∧ iA (mm_si g a r x) a r = x ∧ rwS r a g (mm_si g a r x) := by
  obtain ⟨wf, t, k⟩ := S
  obtain ⟨w2, k2, d2⟩ := WF.si wf.1 ha r x
  exact ⟨st_rw wf.1 hn ha hr x, ⟨wf.trans w2, t.wf w2, k.ml (fI_c k2 28)⟩, by rw [d2, upd_s], fun y h1 h2 h3 => by rw [iA_si_n h3]⟩
theorem z_allowM (hK : 3000 ≤ K) (hn : 208 ≤ n) {r : Nat} (hr : r < 4200) {h g : mm_H} (hT : TM b N h) {s : Nat} (S : ST b N r h g s) : ∃ v g2, q_X11_allow K g n 159 (ni r) = some (v, g2) ∧ OU b N r h g2 v (alS_ b N (.inr s)).2 (fun g' => BR g' r 0 (alS_ b N (.inr s)).1) := by
  obtain ⟨f1, S1, a1, -⟩ := z_kd hn hr S 182 (by omega) 0
  unfold q_X11_allow
  rw [g_159_36 S.1.1 hn, Option.bind_some, Option.bind_some, f1, Option.bind_some, gq_159 S1.1.1 hn, Option.bind_some]
  have e2 := alS_2 (b := b) (N := N) (.inr s)
  rcases z_clX hT (z_head hK hn hr S1) with ⟨p, g3, f3, e3, o3⟩ | ⟨s3, g3, f3, e3, S3, R3⟩
  · rw [f3, Option.bind_some, if_pos rfl, e2, e3]
    refine ⟨0, g3, rfl, ?_⟩
    rw [show pkS b N (wds 5) (.inl p) = (-1, .inl p) from rfl, if_neg (show ¬ (-1 : Int32) = 3 by decide)]
    exact o3 _
  · rw [f3, Option.bind_some, if_neg (show ¬ (1 : Int32) = 0 by decide)]
    obtain ⟨d3, w3⟩ := R3
    rw [e3] at e2
    obtain ⟨n1, n2⟩ := pkS_e (b := b) (N := N) (ws := wds 5) (s := s3)
    rw [g_159_38 S3.1.1 hn, Option.bind_some, gq_159 S3.1.1 hn, Option.bind_some]
    refine z_pkC (K := K) (n := n) (b := b) (N := N) hK hn hr (a := 184) (f := 38) (by omega) rfl (g0 := g3) wsM [(1818848869, 0), (1835360622, 1), (1650815860, 2), (1886151022, 3)] 0 g3 (by decide) okL_M (by decide) S3 (fun _ _ _ => rfl) (fun e => ?_) (fun j g4 ej S4 a4 r4 => ?_)
    · have e5 : pkS b N (wds 5) (.inr s3) = (-1, .inl s3) := pkS_none (by rw [wds_5]; exact e)
      rw [e2, e5]
      exact if_neg (show ¬ (-1 : Int32) = 3 by decide)
    · have e5 := n2 j (by rw [wds_5]; exact ej)
      have hj : j < 4 := by have := pkW_lt _ _ _ _ ej; have : wsM.length = 4 := rfl; omega
      rw [e5] at e2
      dsimp only at e2
      have j3 : (ni j = 3) = (j = 3) := propext (ni_inj (b := 3) (by omega) (by omega))
      obtain ⟨f5, S5, a5, r5⟩ := z_kd hn hr S4 185 (by omega) 0
      rw [g_159_39 S4.1.1 hn, Option.bind_some, Option.bind_some, f5, Option.bind_some, g_159_38 S5.1.1 hn, Option.bind_some, Option.bind_some, ld_rw S5.1.1 hn (by omega) hr, Option.bind_some, r5 184 (by omega) (by omega) (by omega), a4]
      have k182 : iA (mm_si g4 185 r 0) 182 r = 0 := by rw [r5 182 (by omega) (by omega) (by omega), r4 182 (by omega) (by omega) (by omega), w3 182 (by omega) (by omega) (by omega)]; exact a1
      have k183 : iA (mm_si g4 185 r 0) 183 r = (pkS b N (wds 3) (.inr s)).1 := by rw [r5 183 (by omega) (by omega) (by omega), r4 183 (by omega) (by omega) (by omega)]; exact d3
      have k184 : iA (mm_si g4 185 r 0) 184 r = ni j := by rw [r5 184 (by omega) (by omega) (by omega)]; exact a4
      generalize mm_si g4 185 r 0 = g5 at *
      by_cases q : j = 3
      · rw [if_pos (j3.mpr q)] at e2
        rw [if_pos (j3.mpr q)]
        have ev : (alS_ b N (.inr s)).1 = ((pkS b N (wds 3) (.inr s)).1, ni j, 0, (nmS b N 0 200 (.inr (nx b N s3))).1, 0, 0, 0, 0, 0) := by
          unfold alS_
          dsimp only
          rw [e3, e5]
          dsimp only
          rw [if_pos (j3.mpr q)]
        refine z_numC (n := n) hn hr (rd_num hK hn 0 200 (by omega) (by omega)) (a := 186) (f := 40) (by omega) rfl S5 (REST := fun h => some (1, h)) (fun p e => by rw [e2, e]) (fun s6 g6 e6 S6 a6 r6 => z_fin S6 (by rw [e2, e6]) ?_)
        rw [ev]
        exact ⟨by rw [r6 182 (by omega) (by omega) (by omega)]; exact k182, by rw [r6 183 (by omega) (by omega) (by omega)]; exact k183, fun _ => ⟨by rw [r6 184 (by omega) (by omega) (by omega)]; exact k184, by rw [r6 185 (by omega) (by omega) (by omega)]; exact a5, a6⟩, fun z => absurd z (by decide), fun z => absurd z (by decide), fun z => absurd rfl z⟩
      · rw [if_neg (fun z => q (j3.mp z))] at e2
        rw [if_neg (fun z => q (j3.mp z))]
        have ev : (alS_ b N (.inr s)).1 = ((pkS b N (wds 3) (.inr s)).1, ni j, (nmS b N 0 2 (.inr (nx b N s3))).1, (nmS b N 0 200 (nmS b N 0 2 (.inr (nx b N s3))).2).1, 0, 0, 0, 0, 0) := by
          unfold alS_
          dsimp only
          rw [e3, e5]
          dsimp only
          rw [if_neg (fun z => q (j3.mp z))]
        refine z_numC (n := n) hn hr (rd_num hK hn 0 2 (by omega) (by omega)) (a := 185) (f := 39) (by omega) rfl S5 (REST := fun h73 => numC n (fun g => q_X11_takesNumber K g n 159 0 200) 40 (ni r) h73 (fun h => some (1, h))) (fun p e => by rw [e2, e]; rfl) (fun s6 g6 e6 S6 a6 r6 => ?_)
        rw [e6] at e2
        refine z_numC (n := n) hn hr (rd_num hK hn 0 200 (by omega) (by omega)) (a := 186) (f := 40) (by omega) rfl S6 (REST := fun h => some (1, h)) (fun p e => by rw [e2, e]) (fun s7 g7 e7 S7 a7 r7 => z_fin S7 (by rw [e2, e7]) ?_)
        rw [ev, e6]
        exact ⟨by rw [r7 182 (by omega) (by omega) (by omega), r6 182 (by omega) (by omega) (by omega)]; exact k182, by rw [r7 183 (by omega) (by omega) (by omega), r6 183 (by omega) (by omega) (by omega)]; exact k183, fun _ => ⟨by rw [r7 184 (by omega) (by omega) (by omega), r6 184 (by omega) (by omega) (by omega)]; exact k184, by rw [r7 185 (by omega) (by omega) (by omega)]; exact a6, a7⟩, fun z => absurd z (by decide), fun z => absurd z (by decide), fun z => absurd rfl z⟩
theorem z_shareM (hK : 3000 ≤ K) (hn : 208 ≤ n) {r : Nat} (hr : r < 4200) {h g : mm_H} (hT : TM b N h) {s : Nat} (S : ST b N r h g s) : ∃ v g2, q_X11_share K g n 159 (ni r) = some (v, g2) ∧ OU b N r h g2 v (shS_ b N (.inr s)).2 (fun g' => BR g' r 1 (shS_ b N (.inr s)).1) := by
  obtain ⟨f1, S1, a1, -⟩ := z_kd hn hr S 182 (by omega) 1
  unfold q_X11_share
  rw [g_159_36 S.1.1 hn, Option.bind_some, Option.bind_some, f1, Option.bind_some, gq_159 S1.1.1 hn, Option.bind_some]
  have e2 : (shS_ b N (.inr s)).2 = (nmS b N 0 100 (nmS b N 0 100 (pkS b N (wds 3) (.inr s)).2).2).2 := rfl
  have ev : (shS_ b N (.inr s)).1 = ((pkS b N (wds 3) (.inr s)).1, 0, 0, (nmS b N 0 100 (pkS b N (wds 3) (.inr s)).2).1, (nmS b N 0 100 (nmS b N 0 100 (pkS b N (wds 3) (.inr s)).2).2).1, 0, 0, 0, 0) := rfl
  rw [ev, e2]
  rcases z_clX hT (z_head hK hn hr S1) with ⟨p, g3, f3, e3, o3⟩ | ⟨s3, g3, f3, e3, S3, R3⟩
  · rw [f3, Option.bind_some, if_pos rfl, e3]
    exact ⟨0, g3, rfl, o3 _⟩
  rw [f3, Option.bind_some, if_neg (show ¬ (1 : Int32) = 0 by decide)]
  obtain ⟨d3, w3⟩ := R3
  rw [e3]
  refine z_numC (n := n) hn hr (rd_num hK hn 0 100 (by omega) (by omega)) (a := 185) (f := 39) (by omega) rfl S3 (REST := fun h73 => numC n (fun g => q_X11_takesNumber K g n 159 0 100) 40 (ni r) h73 (fun h => some (1, h))) (fun p e => by rw [e]; rfl) (fun s6 g6 e6 S6 a6 r6 => ?_)
  rw [e6]
  refine z_numC (n := n) hn hr (rd_num hK hn 0 100 (by omega) (by omega)) (a := 186) (f := 40) (by omega) rfl S6 (REST := fun h => some (1, h)) (fun p e => by rw [e]) (fun s7 g7 e7 S7 a7 r7 => z_fin S7 (by rw [e7]) ?_)
  exact ⟨by rw [r7 182 (by omega) (by omega) (by omega), r6 182 (by omega) (by omega) (by omega), w3 182 (by omega) (by omega) (by omega)]; exact a1, by rw [r7 183 (by omega) (by omega) (by omega), r6 183 (by omega) (by omega) (by omega)]; exact d3, fun z => absurd z (by decide), fun _ => ⟨by rw [r7 185 (by omega) (by omega) (by omega)]; exact a6, a7⟩, fun z => absurd z (by decide), fun _ z => absurd rfl z⟩
theorem z_plainM (hK : 3000 ≤ K) (hn : 208 ≤ n) {r : Nat} (hr : r < 4200) {h g : mm_H} {s : Nat} (S : ST b N r h g s) (k : Nat) (hk : 3 ≤ k ∧ k ≤ 8) (lo hi : Nat) (h1 : lo ≤ 99999) (h2 : hi ≤ 99999) : ∃ v g2, q_X11_plain K g n 159 (ni r) (ni k) (ni lo) (ni hi) = some (v, g2) ∧ OU b N r h g2 v (plS_ b N lo hi (.inr s)).2 (fun g' => BR g' r (ni k) (plS_ b N lo hi (.inr s)).1) := by
  obtain ⟨f1, S1, a1, -⟩ := z_kd hn hr S 182 (by omega) (ni k)
  obtain ⟨f2, S2, a2, r2⟩ := z_kd hn hr S1 183 (by omega) 0
  unfold q_X11_plain
  rw [g_159_36 S.1.1 hn, Option.bind_some, Option.bind_some, f1, Option.bind_some, g_159_37 S1.1.1 hn, Option.bind_some, Option.bind_some, f2, Option.bind_some]
  have e2 : (plS_ b N lo hi (.inr s)).2 = (nmS b N lo hi (.inr s)).2 := rfl
  have ev : (plS_ b N lo hi (.inr s)).1 = (0, 0, 0, (nmS b N lo hi (.inr s)).1, 0, 0, 0, 0, 0) := rfl
  rw [ev, e2]
  refine z_numC (n := n) hn hr (rd_num hK hn lo hi h1 h2) (a := 185) (f := 39) (by omega) rfl S2 (REST := fun h => some (1, h)) (fun p e => by rw [e]) (fun s7 g7 e7 S7 a7 r7 => z_fin S7 (by rw [e7]) ?_)
  have nk : ∀ j : Nat, j < 3 → ni k = ni j → False := fun j hj z => by have := (ni_inj (by omega) (by omega)).mp z; omega
  exact ⟨by rw [r7 182 (by omega) (by omega) (by omega), r2 182 (by omega) (by omega) (by omega)]; exact a1, by rw [r7 183 (by omega) (by omega) (by omega)]; exact a2, fun z => (nk 0 (by omega) z).elim, fun z => (nk 1 (by omega) z).elim, fun z => (nk 2 (by omega) z).elim, fun _ _ _ => a7⟩
end KINDM

/-! ===== the model reads a test: its loops ===== -/
section EXPRM
variable {K n : Nat} {b : Nat → Nat} {N : Nat}
theorem NF.wk {m m' : Nat} {h g : mm_H} (x : NF m h g) (q : m' ≤ m) : NF m' h g := ⟨x.1, x.2.1, x.2.2.1, x.2.2.2.1, fun a h1 h2 i hi => x.2.2.2.2 a h1 h2 i (by omega)⟩
abbrev FX : Type := mm_H → Nat → Nat → Option (Int32 × mm_H)
/-- what a reader of tests leaves -/
def XO (b : Nat → Nat) (N o c k s m : Nat) (h g : mm_H) (v : Int32) (r : List Int32 × RSt) : Prop := NF m h g ∧ (∀ s', r.2 = .inr s' → ∃ m', v = ni (84500 + m) ∧ iA g 181 13 = ni m' ∧ m < m' ∧ 5 * m' + 2 * o + 4 * s ≤ 4 * s' + 5 * m + c ∧ nodeX g (84500 + m) (84500 + m') k r.1 ∧ iA g 193 (84500 + m) = -1 ∧ Mk b N g (.inr s') ∧ fI g 159 29 = ni o) ∧ ∀ p, r.2 = .inl p → v = -1 ∧ Mk b N g (.inl p)
def XQ (n : Nat) (b : Nat → Nat) (N o c k D : Nat) (f : FX) (e : RSt → List Int32 × RSt) : Prop := ∀ (h : mm_H) (s m : Nat), PS h → TM b N h → Mk b N h (.inr s) → fI h 159 29 = ni o → iA h 181 13 = ni m → 5 * m ≤ 4 * s + D → ∃ v g, f h n 159 = some (v, g) ∧ XO b N o c k s m h g v (e (.inr s))
/-- children under way -/
def JV (h : mm_H) (q0 hi kk e0 y : Nat) (Ly : List Int32) (pre : List (Nat × List Int32)) : Prop := iA h 191 q0 = ni e0 ∧ iA h 193 q0 = -1 ∧ chainN h (iA h 192 q0) ((pre ++ [(y, Ly)]).map Prod.fst) ∧ (∀ m, m ∈ pre → q0 < m.1 ∧ m.1 < y ∧ nodeR h (q0 + 1) y (kk + 1) m.1 m.2) ∧ q0 < y ∧ nodeX h y hi kk Ly ∧ iA h 193 y = -1
theorem JV.done {h : mm_H} {q0 hi kk e0 y : Nat} {Ly : List Int32} {pre : List (Nat × List Int32)} (he : e0 ≤ 1) (j : JV h q0 hi kk e0 y Ly pre) : nodeX h q0 hi (kk + 1) (joinT (if e0 = 0 then -3 else -2) ((pre ++ [(y, Ly)]).map Prod.snd)) := by
  obtain ⟨j1, -, j2, j3, j4, j5, -⟩ := j
  refine ⟨by have := j5.1; omega, Or.inr (Or.inr ⟨e0, he, j1, pre ++ [(y, Ly)], by simp, j2, fun m hm => ?_, rfl⟩)⟩
  rcases List.mem_append.mp hm with q | q
  · obtain ⟨-, -, q3⟩ := j3 m q
    exact nodeR_wk (Nat.le_refl _) (by have := j5.1; omega) _ _ _ _ (Nat.le_refl _) q3
  · rw [List.mem_singleton.mp q]
    exact j5.R (by omega) (Nat.le_refl hi) (Nat.le_refl _)
/-- nothing below hi is changed -/
theorem JV.ag {h g : mm_H} {q0 hi kk e0 y : Nat} {Ly : List Int32} {pre : List (Nat × List Int32)} (e : ∀ a, 191 ≤ a → a ≤ 196 → ∀ i, i < hi → iA g a i = iA h a i) (j : JV h q0 hi kk e0 y Ly pre) : JV g q0 hi kk e0 y Ly pre := by
  obtain ⟨j1, j0, j2, j3, j4, j5, j6⟩ := j
  have hy := j5.1
  refine ⟨by rw [e 191 (by omega) (by omega) q0 (by omega)]; exact j1, by rw [e 193 (by omega) (by omega) q0 (by omega)]; exact j0, ?_, fun m hm => ?_, j4, j5.ag (fun a h1 h2 _ => e a h1 h2 y hy) (fun a h1 h2 i _ h4 => e a h1 h2 i h4), by rw [e 193 (by omega) (by omega) y hy]; exact j6⟩
  · rw [e 192 (by omega) (by omega) q0 (by omega)]
    have go : ∀ (t : List Nat) (x : Int32), (∀ m, m ∈ t → iA g 193 m = iA h 193 m) → chainN h x t → chainN g x t := by
      intro t
      induction t with
      | nil => exact fun _ _ z => z
      | cons y t ih =>
        intro x hy z
        refine ⟨z.1, ?_⟩
        rw [hy y List.mem_cons_self]
        exact ih _ (fun m hm => hy m (List.mem_cons_of_mem _ hm)) z.2
    refine go _ _ (fun m hm => ?_) j2
    obtain ⟨p, hp, rfl⟩ := List.mem_map.mp hm
    rcases List.mem_append.mp hp with q | q
    · have := (j3 p q).2.1
      exact e 193 (by omega) (by omega) _ (by omega)
    · rw [List.mem_singleton.mp q]
      exact e 193 (by omega) (by omega) _ hy
  · obtain ⟨q1, q2, q3⟩ := j3 m hm
    exact ⟨q1, q2, nodeR_ag (fun a h1 h2 i h3 h4 => e a h1 h2 i (by omega)) _ _ _ q3⟩
/-- a child more -/
theorem JV.snoc {h g : mm_H} {q0 hi hi' kk e0 y x : Nat} {Ly Lx : List Int32} {pre : List (Nat × List Int32)} (j : JV h q0 hi kk e0 y Ly pre) (hx : hi ≤ x) (X : nodeX h x hi' kk Lx) (x3 : iA h 193 x = -1) (e : ∀ a, 191 ≤ a → a ≤ 196 → ∀ i, (a = 193 ∧ i = y) ∨ iA g a i = iA h a i) (ey : iA g 193 y = ni x) : JV g q0 hi' kk e0 x Lx (pre ++ [(y, Ly)]) := by
  obtain ⟨j1, j0, j2, j3, j4, j5, j6⟩ := j
  have hy := j5.1
  have e' : ∀ a, 191 ≤ a → a ≤ 196 → a ≠ 193 → ∀ i, iA g a i = iA h a i := fun a h1 h2 h3 i => (e a h1 h2 i).resolve_left (fun z => h3 z.1)
  have e3 : ∀ i, i ≠ y → iA g 193 i = iA h 193 i := fun i hi => (e 193 (by omega) (by omega) i).resolve_left (fun z => hi z.2)
  refine ⟨by rw [e' 191 (by omega) (by omega) (by omega)]; exact j1, by rw [e3 q0 (by omega)]; exact j0, ?_, fun m hm => ?_, by omega, X.ag (fun a h1 h2 h3 => e' a h1 h2 h3 x) (fun a h1 h2 i h3 _ => (e a h1 h2 i).resolve_left (fun z => by omega)), by rw [e3 x (by omega)]; exact x3⟩
  · rw [e' 192 (by omega) (by omega) (by omega)]
    have h1 : ((pre ++ [(y, Ly)]) ++ [(x, Lx)]).map Prod.fst = pre.map Prod.fst ++ [y, x] := by simp
    rw [h1]
    refine chain_snoc ey (by rw [e3 x (by omega)]; exact x3) _ _ (fun z hz => ?_) (by rw [List.map_append] at j2; exact j2)
    obtain ⟨p, hp, rfl⟩ := List.mem_map.mp hz
    exact e3 _ (by have := (j3 p hp).2.1; omega)
  · rcases List.mem_append.mp hm with q | q
    · obtain ⟨q1, q2, q3⟩ := j3 m q
      exact ⟨q1, by omega, nodeR_wk (Nat.le_refl _) (by omega) _ _ _ _ (Nat.le_refl _) (nodeR_ag (fun a h1 h2 i h3 h4 => (e a h1 h2 i).resolve_left (fun z => by omega)) _ _ _ q3)⟩
    · rw [List.mem_singleton.mp q]
      refine ⟨j4, by show y < x; omega, ?_⟩
      have := j5.ag (g := g) (fun a h1 h2 h3 => e' a h1 h2 h3 y) (fun a h1 h2 i h3 _ => (e a h1 h2 i).resolve_left (fun z => by omega))
      exact this.R (by omega) hx (Nat.le_refl _)
/-- what a loop over children leaves -/
def RLM (b : Nat → Nat) (N o cA kk s0 m0 : Nat) (h g : mm_H) (v : Nat) (r : List Int32 × RSt) : Prop := NF m0 h g ∧ (∀ s', r.2 = .inr s' → v = 1 ∧ ∃ m', iA g 181 13 = ni m' ∧ m0 < m' ∧ 5 * m' + 2 * o + 4 * s0 ≤ 4 * s' + 5 * m0 + cA ∧ nodeX g (84500 + m0) (84500 + m') kk r.1 ∧ iA g 193 (84500 + m0) = -1 ∧ Mk b N g (.inr s') ∧ fI g 159 29 = ni o) ∧ ∀ p, r.2 = .inl p → v = 0 ∧ Mk b N g (.inl p)
/-- behind a child -/
theorem z_aft (hK : 3000 ≤ K) (hn : 208 ≤ n) {o cA c1 kk e0 s0 m0 D1 : Nat} {w : List Nat} {wv : Int64} {op : Int32} (he : e0 ≤ 1) (hop : op = if e0 = 0 then -3 else -2) (ok : okC w wv) (h2 : 2 ≤ w.length) {f : FX} {e : RSt → List Int32 × RSt} (hc : c1 ≤ 6) (hc2 : cA ≤ 11) (hD : 5 * m0 + cA ≤ 4 * s0 + D1 + 6) (hD1 : D1 ≤ 28850) (X : XQ n b N o c1 kk D1 f e) (El : ∀ s s', (e (.inr s)).2 = .inr s' → s ≤ N → s ≤ s')
    {lp : Nat → Int32 → mm_H → Option (Nat × mm_H)} (elp : ∀ k l2 h, lp (k + 1) l2 h = (ckq h n 159 10).bind fun _ => (f h n 159).bind fun v8 => if v8.1 = (-1) then some (0, v8.2) else if l2 = (-1) then (rdR v8.2 n 159 10 46).bind fun v11 => v11.bind fun a13 => (stI v8.2 n a13 (ni (84500 + m0)) v8.1).bind fun h15 => (ckq h15 n 159 10).bind fun _ => (q_X11_takes K h15 n 159 wv).bind fun v20 => if v20.1 = 0 then some (1, v20.2) else lp k v8.1 v20.2 else (rdR v8.2 n 159 10 47).bind fun v22 => v22.bind fun a24 => (stI v8.2 n a24 l2 v8.1).bind fun h26 => (ckq h26 n 159 10).bind fun _ => (q_X11_takes K h26 n 159 wv).bind fun v31 => if v31.1 = 0 then some (1, v31.2) else lp k v8.1 v31.2) (hm0 : m0 < 6500) :
    ∀ (j k : Nat) (g : mm_H) (s m : Nat) (pre : List (Nat × List Int32)) (y : Nat) (Ly : List Int32), N - s < j → N - s < k → PS g → TM b N g → Mk b N g (.inr s) → fI g 159 29 = ni o → iA g 181 13 = ni m → 5 * m + 2 * o + 4 * s0 ≤ 4 * s + 5 * m0 + cA → JV g (84500 + m0) (84500 + m) kk e0 y Ly pre → y < 91000 → ∃ v g', ((q_X11_takes K g n 159 wv).bind fun v20 => if v20.1 = 0 then some (1, v20.2) else lp k (ni y) v20.2) = some (v, g') ∧ RLM b N o cA (kk + 1) s0 m0 g g' v (lpO b N w op e j (joinT op ((pre ++ [(y, Ly)]).map Prod.snd)) (.inr s)) := by
  intro j
  induction j with
  | zero => intro k g s m pre y Ly hj; omega
  | succ j ih =>
    intro k g s m pre y Ly hj hk c t mk hd em bu J hy
    obtain ⟨hs, -⟩ := mk.le
    have hym := J.2.2.2.2.2.1.1
    have hqy := J.2.2.2.2.1
    obtain ⟨g1, f1, l1, y1, y2⟩ := z_takes hK c hn t mk ok
    rw [f1, Option.bind_some]
    unfold lpO
    by_cases q : isW b N w s = true
    · have N9 := t.2.1
      have q' : isWS b N w (.inr s) = true := q
      have hsN : s < N := isW_lt (b := b) q'
      rw [if_pos q, if_pos q', if_neg (show ¬ (1 : Int32) = 0 by decide)]
      obtain ⟨k, rfl⟩ : ∃ x, k = x + 1 := ⟨k - 1, by omega⟩
      have hw := (isW_seg hs).mp q
      have hwl := congrArg List.length hw.2
      rw [seg_len] at hwl
      have hsk := sk_ge (b := b) (N := N) (tee b N s)
      have hge := tee_ge (b := b) (N := N) s
      have hnx : s + 2 ≤ nx b N s := by unfold nx; omega
      have hnN := nx_le (b := b) hs
      obtain ⟨v2, g2, f2, X2⟩ := X g1 (nx b N s) m l1.1 (t.ml l1) (y1 q) ((l1.2.2 29 (by decide) (by decide) (by decide)).1.trans hd) (by rw [iA_c (l1.2.1 181 (by decide))]; exact em) (by omega)
      have J1 : JV g1 (84500 + m0) (84500 + m) kk e0 y Ly pre := J.ag (fun a h1 h2 i _ => by rw [iA_c (l1.2.1 a (by omega))])
      rw [elp, gq_159 l1.1 hn, Option.bind_some, f2, Option.bind_some]
      have es : e (stpS b N (.inr s)) = e (.inr (nx b N s)) := rfl
      rw [es]
      obtain ⟨n2, xr, xl⟩ := X2
      have hmm : m0 < m := by omega
      cases er : (e (.inr (nx b N s))).2 with
      | inl p =>
        obtain ⟨rfl, mk2⟩ := xl p er
        rw [if_pos rfl, lpO_l]
        exact ⟨0, g2, rfl, (l1.nf m0).trans (n2.wk (by omega)) (Nat.le_refl _), (fun s' z => nomatch z), fun p' z => by cases z; exact ⟨rfl, mk2⟩⟩
      | inr s3 =>
        obtain ⟨m2, rfl, em2, hm2, bu2, X3, x3, mk3, hd3⟩ := xr s3 er
        have hs3 := El _ _ er hnN
        have ha3 := mk3.le.1
        have ne : ¬ ni (84500 + m) = -1 := ni_n1 (by omega)
        have ney : ¬ ni y = -1 := ni_n1 (by omega)
        rw [if_neg ne, if_neg ney]
        have c2 := n2.1
        have hmb : 84500 + m < 91000 := by omega
        obtain ⟨n4, k4, k41, d4⟩ := NF.si c2 (m := m0) (a := 193) (i := y) ⟨by omega, by omega⟩ (by omega) (ni (84500 + m))
        have J2 : JV g2 (84500 + m0) (84500 + m) kk e0 y Ly pre := J1.ag (fun a h1 h2 i hi => n2.2.2.2.2 a h1 h2 i hi)
        have J4 : JV (mm_si g2 193 y (ni (84500 + m))) (84500 + m0) (84500 + m2) kk e0 (84500 + m) (e (.inr (nx b N s))).1 (pre ++ [(y, Ly)]) := J2.snoc (Nat.le_refl _) X3 x3 (fun a h1 h2 i => by
          by_cases z : a = 193
          · subst z
            by_cases z2 : i = y
            · exact Or.inl ⟨rfl, z2⟩
            · rw [d4, upd_n z2]
              exact Or.inr rfl
          · rw [iA_si_n z]
            exact Or.inr rfl) (by rw [d4, upd_s])
        have t4 : TM b N (mm_si g2 193 y (ni (84500 + m))) := (t.ml l1).nf n2 |>.nf n4
        obtain ⟨v5, g5, f5, r5⟩ := ih k (mm_si g2 193 y (ni (84500 + m))) s3 m2 (pre ++ [(y, Ly)]) (84500 + m) (e (.inr (nx b N s))).1 (by omega) (by omega) n4.1 t4 (mk3.ml (fI_c k4 28)) ((fI_c k4 29).trans hd3) (by rw [iA_c k41]; exact em2) (by omega) J4 hmb
        obtain ⟨n5, r5⟩ := r5
        refine ⟨v5, g5, ?_, (((l1.nf m0).trans (n2.wk (by omega)) (Nat.le_refl _)).trans n4 (Nat.le_refl _)).trans n5 (Nat.le_refl _), ?_⟩
        · rw [g_159_47 c2 hn, Option.bind_some, Option.bind_some, st_nd c2 hn ⟨by omega, by omega⟩ hy, Option.bind_some, gq_159 n4.1 hn, Option.bind_some]
          exact f5
        · have ej : joinT op ((pre ++ [(y, Ly)]).map Prod.snd) ++ ((e (.inr (nx b N s))).1 ++ [op]) = joinT op (((pre ++ [(y, Ly)]) ++ [(84500 + m, (e (.inr (nx b N s))).1)]).map Prod.snd) := by
            rw [List.map_append (l₂ := [(84500 + m, (e (.inr (nx b N s))).1)]), List.map_cons, List.map_nil, joinT_snoc _ _ _ (by simp)]
          rw [ej]
          exact r5
    · have q' : ¬ isWS b N w (.inr s) = true := q
      rw [if_neg q, if_neg q', if_pos rfl]
      have J1 : JV g1 (84500 + m0) (84500 + m) kk e0 y Ly pre := J.ag (fun a h1 h2 i _ => by rw [iA_c (l1.2.1 a (by omega))])
      refine ⟨1, g1, rfl, l1.nf m0, fun s' z => ?_, fun p z => nomatch z⟩
      cases z
      refine ⟨rfl, m, by rw [iA_c (l1.2.1 181 (by decide))]; exact em, by omega, bu, ?_, J1.2.1, (y2 q).1, (l1.2.2 29 (by decide) (by decide) (by decide)).1.trans hd⟩
      rw [hop]
      exact J1.done he
end EXPRM

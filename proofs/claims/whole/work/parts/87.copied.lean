/-! ===== the rows and nodes of a set, put down at another place ===== -/
section COPIED
variable {K n : Nat} {h : mm_H}
theorem sh0 : ∀ z, z < 14 → ∀ z', z' < 14 → ni (6500 * z) + 6500 * (ni z' - ni z) = ni (6500 * z') := by decide
theorem shE {z z' : Nat} (hz : z < 14) (hz' : z' < 14) (t : Nat) : ni (6500 * z + t) + 6500 * (ni z' - ni z) = ni (6500 * z' + t) := by
  rw [← ni_add (6500 * z) t, Int32.add_comm (ni (6500 * z)), Int32.add_assoc, sh0 z hz z' hz', Int32.add_comm, ni_add]
def RC (h : mm_H) (z z' i : Nat) (sh : Int32) (g : mm_H) : Prop := (∀ x, x < 182 ∨ 190 < x → g x = h x) ∧ (∀ x, 182 ≤ x → x ≤ 189 → ∀ t, iA g x t = if 300 * z' ≤ t ∧ t < 300 * z' + i then iA h x (300 * z + (t - 300 * z')) else iA h x t) ∧ ∀ t, iA g 190 t = if 300 * z' ≤ t ∧ t < 300 * z' + i then shV (iA h 190 (300 * z + (t - 300 * z'))) sh else iA h 190 t
def NC (h : mm_H) (z z' i : Nat) (sh : Int32) (g : mm_H) : Prop := (∀ x, x < 191 ∨ 196 < x → g x = h x) ∧ (∀ x, x = 191 ∨ x = 194 ∨ x = 195 ∨ x = 196 → ∀ t, iA g x t = if 6500 * z' ≤ t ∧ t < 6500 * z' + i then iA h x (6500 * z + (t - 6500 * z')) else iA h x t) ∧ ∀ x, x = 192 ∨ x = 193 → ∀ t, iA g x t = if 6500 * z' ≤ t ∧ t < 6500 * z' + i then shV (iA h x (6500 * z + (t - 6500 * z'))) sh else iA h x t
/-- one more is put down -/
theorem put_1 {A B : Nat → Int32} {a b i : Nat} {f : Int32 → Int32} (r : ∀ t, A t = if b ≤ t ∧ t < b + i then f (B (a + (t - b))) else B t) (ne : ∀ j, j ≤ i → ¬ (b ≤ a + i ∧ a + i < b + j)) : ∀ t, upd A (b + i) (f (A (a + i))) t = if b ≤ t ∧ t < b + (i + 1) then f (B (a + (t - b))) else B t := by
  intro t
  have e : A (a + i) = B (a + i) := by rw [r, if_neg (ne i (Nat.le_refl _))]
  by_cases q : t = b + i
  · rw [q, upd_s, if_pos (by omega), e, show b + i - b = i by omega]
  · rw [upd_n q, r]
    by_cases z : b ≤ t ∧ t < b + i
    · rw [if_pos z, if_pos (by omega)]
    · rw [if_neg z, if_neg (by omega)]
theorem z_cp23 (hn : 208 ≤ n) {z z' len : Nat} (hz : z < 14) (hz' : z' < 14) (ne : z ≠ z') (hlen : len ≤ 300) (sh : Int32) (e178 : iA h 178 z = ni len) : ∀ (m i k : Nat) (g : mm_H), i + m = len → m < k → PS g → RC h z z' i sh g → ∃ g', lp_X11_copies_23 K n 159 (ni z) (ni z') sh k (ni i) g = some g' ∧ PS g' ∧ RC h z z' len sh g' := by
  intro m
  induction m with
  | zero =>
    intro i k g hi hk c r
    obtain ⟨k, rfl⟩ : ∃ x, k = x + 1 := ⟨k - 1, by omega⟩
    have : i = len := by omega
    subst this
    have iz : inb (ni z) 14 = true := ni_inb (by omega) hz
    have tz : (ni z).toNatClampNeg = z := ni_tn (by omega)
    have e : iA g 178 z = ni i := by rw [iA_c (r.1 178 (by omega))]; exact e178
    unfold lp_X11_copies_23
    simp only [g_159_32 c hn, ge_178 c hn, iz, tz, if_true, e, Option.bind_some]
    rw [if_pos (Int32.le_refl _)]
    exact ⟨g, rfl, c, r⟩
  | succ m ih =>
    intro i k g hi hk c r
    obtain ⟨k, rfl⟩ : ∃ x, k = x + 1 := ⟨k - 1, by omega⟩
    have iz : inb (ni z) 14 = true := ni_inb (by omega) hz
    have tz : (ni z).toNatClampNeg = z := ni_tn (by omega)
    have e : iA g 178 z = ni len := by rw [iA_c (r.1 178 (by omega))]; exact e178
    have w1 : (300 : Int32) * ni z + ni i = ni (300 * z + i) := by
      show ni 300 * ni z + ni i = _
      rw [ni_mul, ni_add]
    have w2 : (300 : Int32) * ni z' + ni i = ni (300 * z' + i) := by
      show ni 300 * ni z' + ni i = _
      rw [ni_mul, ni_add]
    obtain ⟨g1, f1, c1, o1, a1, b1⟩ := z_shifts (K := K) c hn (a := 300 * z + i) (b := 300 * z' + i) (by omega) (by omega) sh
    have nx : ∀ j, j ≤ i → ¬ (300 * z' ≤ 300 * z + i ∧ 300 * z + i < 300 * z' + j) := fun j hj => by omega
    obtain ⟨g', q1, q2, q3⟩ := ih (i + 1) k g1 (by omega) (by omega) c1 ⟨fun x hx => (o1 x hx).trans (r.1 x hx), fun x h1 h2 t => by
      rw [a1 x h1 h2]
      exact put_1 (f := fun v => v) (r.2.1 x h1 h2) nx t, fun t => by
      rw [b1]
      exact put_1 (f := fun v => shV v sh) r.2.2 nx t⟩
    refine ⟨g', ?_, q2, q3⟩
    unfold lp_X11_copies_23
    simp only [g_159_32 c hn, ge_178 c hn, iz, tz, if_true, e, Option.bind_some]
    rw [if_neg (fun q => by have := (ni_le (by omega) (by omega)).mp q; omega), gq_159 c hn, w1, w2]
    simp only [Option.bind_some, f1, ni_1]
    exact q1
theorem z_cp80 (hn : 208 ≤ n) {z z' N : Nat} (hz : z < 14) (hz' : z' < 14) (ne : z ≠ z') (hN : N ≤ 6500) (e181 : iA h 181 z = ni N) : ∀ (m i k : Nat) (g : mm_H), i + m = N → m < k → PS g → NC h z z' i (6500 * (ni z' - ni z)) g → ∃ g', lp_X11_copies_80 K n 159 (ni z) (6500 * (ni z' - ni z)) k (ni (6500 * z + i)) g = some g' ∧ PS g' ∧ NC h z z' N (6500 * (ni z' - ni z)) g' := by
  have w0 : (6500 : Int32) * ni z + ni N = ni (6500 * z + N) := by
    show ni 6500 * ni z + ni N = _
    rw [ni_mul, ni_add]
  intro m
  induction m with
  | zero =>
    intro i k g hi hk c r
    obtain ⟨k, rfl⟩ : ∃ x, k = x + 1 := ⟨k - 1, by omega⟩
    have : i = N := by omega
    subst this
    have iz : inb (ni z) 14 = true := ni_inb (by omega) hz
    have tz : (ni z).toNatClampNeg = z := ni_tn (by omega)
    have e : iA g 181 z = ni i := by rw [iA_c (r.1 181 (by omega))]; exact e181
    unfold lp_X11_copies_80
    simp only [g_159_35 c hn, ge_181 c hn, iz, tz, if_true, e, Option.bind_some, w0]
    rw [if_pos (Int32.le_refl _)]
    exact ⟨g, rfl, c, r⟩
  | succ m ih =>
    intro i k g hi hk c r
    obtain ⟨k, rfl⟩ : ∃ x, k = x + 1 := ⟨k - 1, by omega⟩
    have e : iA g 181 z = ni N := by rw [iA_c (r.1 181 (by omega))]; exact e181
    obtain ⟨c1, o1, a1, a2, a3, a4, a5, a6⟩ := cpN_1 c (6500 * z + i) (6500 * z' + i) (6500 * (ni z' - ni z))
    have nx : ∀ j, j ≤ i → ¬ (6500 * z' ≤ 6500 * z + i ∧ 6500 * z + i < 6500 * z' + j) := fun j hj => by omega
    have st := z_cpN (K := K) c hn (a := 6500 * z + i) (b := 6500 * z' + i) (by omega) (by omega) (shE hz hz' i) hz rfl e (by
      rw [w0]
      exact fun q => by have := (ni_le (by omega) (by omega)).mp q; omega) k
    rw [st]
    refine ih (i + 1) k _ (by omega) (by omega) c1 ⟨fun x hx => (o1 x hx).trans (r.1 x hx), fun x hx t => ?_, fun x hx t => ?_⟩
    · rcases hx with rfl | rfl | rfl | rfl
      · rw [a1]; exact put_1 (f := fun v => v) (r.2.1 191 (by omega)) nx t
      · rw [a4]; exact put_1 (f := fun v => v) (r.2.1 194 (by omega)) nx t
      · rw [a5]; exact put_1 (f := fun v => v) (r.2.1 195 (by omega)) nx t
      · rw [a6]; exact put_1 (f := fun v => v) (r.2.1 196 (by omega)) nx t
    · rcases hx with rfl | rfl
      · rw [a2]; exact put_1 (f := fun v => shV v (6500 * (ni z' - ni z))) (r.2.2 192 (by omega)) nx t
      · rw [a3]; exact put_1 (f := fun v => shV v (6500 * (ni z' - ni z))) (r.2.2 193 (by omega)) nx t
/-- a set is copied to another place -/
def CPR (h : mm_H) (z z' len N : Nat) (g : mm_H) : Prop := (∀ x, x < 178 ∨ x = 179 ∨ x = 180 ∨ 196 < x → g x = h x) ∧ iA g 178 = upd (iA h 178) z' (ni len) ∧ iA g 181 = upd (iA h 181) z' (ni N) ∧ (∀ x, 182 ≤ x → x ≤ 189 → ∀ t, iA g x t = if 300 * z' ≤ t ∧ t < 300 * z' + len then iA h x (300 * z + (t - 300 * z')) else iA h x t) ∧ (∀ t, iA g 190 t = if 300 * z' ≤ t ∧ t < 300 * z' + len then shV (iA h 190 (300 * z + (t - 300 * z'))) (6500 * (ni z' - ni z)) else iA h 190 t) ∧ (∀ x, x = 191 ∨ x = 194 ∨ x = 195 ∨ x = 196 → ∀ t, iA g x t = if 6500 * z' ≤ t ∧ t < 6500 * z' + N then iA h x (6500 * z + (t - 6500 * z')) else iA h x t) ∧ ∀ x, x = 192 ∨ x = 193 → ∀ t, iA g x t = if 6500 * z' ≤ t ∧ t < 6500 * z' + N then shV (iA h x (6500 * z + (t - 6500 * z'))) (6500 * (ni z' - ni z)) else iA h x t
theorem z_copies (hK : 7000 ≤ K) (c : PS h) (hn : 208 ≤ n) {z z' len N : Nat} (hz : z < 14) (hz' : z' < 14) (ne : z ≠ z') (hlen : len ≤ 300) (hN : N ≤ 6500) (e178 : iA h 178 z = ni len) (e181 : iA h 181 z = ni N) : ∃ g, q_X11_copies K h n 159 (ni z) (ni z') = some g ∧ PS g ∧ CPR h z z' len N g := by
  have iz : inb (ni z) 14 = true := ni_inb (by omega) hz
  have tz : (ni z).toNatClampNeg = z := ni_tn (by omega)
  have iz' : inb (ni z') 14 = true := ni_inb (by omega) hz'
  have tz' : (ni z').toNatClampNeg = z' := ni_tn (by omega)
  have c1 : PS (mm_si h 178 z' (ni len)) := ps_178 c _ _
  have e1 : iA (mm_si h 178 z' (ni len)) 178 z = ni len := by rw [is_178 c, upd_n ne]; exact e178
  obtain ⟨g2, f2, c2, r2⟩ := z_cp23 (K := K) hn hz hz' ne hlen (6500 * (ni z' - ni z)) e1 len 0 K _ (by omega) (by omega) c1 ⟨fun _ _ => rfl, fun x _ _ t => by rw [if_neg (by omega)], fun t => by rw [if_neg (by omega)]⟩
  have f2' : lp_X11_copies_23 K n 159 (ni z) (ni z') (6500 * (ni z' - ni z)) K 0 (mm_si h 178 z' (ni len)) = some g2 := f2
  have e2 : iA g2 181 z = ni N := by rw [iA_c (r2.1 181 (by omega)), iA_si_n (by decide)]; exact e181
  have c3 : PS (mm_si g2 181 z' (ni N)) := ps_181 c2 _ _
  have e3 : iA (mm_si g2 181 z' (ni N)) 181 z = ni N := by rw [is_181 c2, upd_n ne]; exact e2
  obtain ⟨g4, f4, c4, r4⟩ := z_cp80 (K := K) hn hz hz' ne hN e3 N 0 K _ (by omega) (by omega) c3 ⟨fun _ _ => rfl, fun x _ t => by rw [if_neg (by omega)], fun x _ t => by rw [if_neg (by omega)]⟩
  have w0 : (6500 : Int32) * ni z = ni (6500 * z) := ni_mul 6500 z
  have f4' : lp_X11_copies_80 K n 159 (ni z) (6500 * (ni z' - ni z)) K (ni (6500 * z)) (mm_si g2 181 z' (ni N)) = some g4 := f4
  refine ⟨g4, ?_, c4, fun x hx => ?_, ?_, ?_, fun x h1 h2 t => ?_, fun t => ?_, fun x hx t => ?_, fun x hx t => ?_⟩
  · unfold q_X11_copies
    simp only [g_159_32 c hn, ge_178 c hn, pe_178 c hn, iz, tz, iz', tz', if_true, Option.bind_some, e178, f2', g_159_35 c2 hn, ge_181 c2 hn, pe_181 c2 hn, e2, w0, f4']
  · rw [r4.1 x (by omega), mm_si_n (by omega), r2.1 x (by omega), mm_si_n (by omega)]
  · rw [iA_c (r4.1 178 (by omega)), iA_si_n (by decide), iA_c (r2.1 178 (by omega)), is_178 c]
  · rw [iA_c (r4.1 181 (by omega)), is_181 c2, iA_c (r2.1 181 (by omega)), iA_si_n (by decide)]
  · rw [iA_c (r4.1 x (by omega)), iA_si_n (by omega), r2.2.1 x h1 h2 t, iA_si_n (by omega)]
  · rw [iA_c (r4.1 190 (by omega)), iA_si_n (by omega), r2.2.2 t, iA_si_n (by omega)]
  · rw [r4.2.1 x hx t, iA_si_n (by omega), iA_c (r2.1 x (by omega)), iA_si_n (by omega)]
  · rw [r4.2.2 x hx t, iA_si_n (by omega), iA_c (r2.1 x (by omega)), iA_si_n (by omega)]
/-- nodes that are put down at another place say the same there -/
def NS (h g : mm_H) (z z' N : Nat) (sh : Int32) : Prop := ∀ t, t < N → (∀ x, x = 191 ∨ x = 194 ∨ x = 195 ∨ x = 196 → iA g x (6500 * z' + t) = iA h x (6500 * z + t)) ∧ ∀ x, x = 192 ∨ x = 193 → iA g x (6500 * z' + t) = shV (iA h x (6500 * z + t)) sh
theorem NS.at_ {g : mm_H} {z z' N : Nat} {sh : Int32} (s : NS h g z z' N sh) {q : Nat} (h1 : 6500 * z ≤ q) (h2 : q < 6500 * z + N) : (∀ x, x = 191 ∨ x = 194 ∨ x = 195 ∨ x = 196 → iA g x (6500 * z' + (q - 6500 * z)) = iA h x q) ∧ ∀ x, x = 192 ∨ x = 193 → iA g x (6500 * z' + (q - 6500 * z)) = shV (iA h x q) sh := by
  have e := s (q - 6500 * z) (by omega)
  rw [show 6500 * z + (q - 6500 * z) = q by omega] at e
  exact e
theorem shV_ni {z z' N q : Nat} {sh : Int32} (hz : z < 14) (hN : N ≤ 6500) (es : ∀ t, t < N → ni (6500 * z + t) + sh = ni (6500 * z' + t)) (h1 : 6500 * z ≤ q) (h2 : q < 6500 * z + N) : shV (ni q) sh = ni (6500 * z' + (q - 6500 * z)) := by
  unfold shV
  rw [if_neg (ni_n1 (by omega))]
  have e := es (q - 6500 * z) (by omega)
  rw [show 6500 * z + (q - 6500 * z) = q by omega] at e
  exact e
theorem chain_sh {g : mm_H} {z z' N : Nat} {sh : Int32} (hz : z < 14) (hN : N ≤ 6500) (s : NS h g z z' N sh) (es : ∀ t, t < N → ni (6500 * z + t) + sh = ni (6500 * z' + t)) : ∀ (l : List Nat) (x : Int32), (∀ q, q ∈ l → 6500 * z ≤ q ∧ q < 6500 * z + N) → chainN h x l → chainN g (shV x sh) (l.map (fun q => 6500 * z' + (q - 6500 * z)))
  | [], x, _, e => by
    have e' : x = -1 := e
    rw [e']
    rfl
  | y :: t, x, r, e => by
    obtain ⟨e1, e2⟩ : x = ni y ∧ chainN h (iA h 193 y) t := e
    obtain ⟨y1, y2⟩ := r y List.mem_cons_self
    refine ⟨by rw [e1, shV_ni hz hN es y1 y2], ?_⟩
    rw [(s.at_ y1 y2).2 193 (Or.inr rfl)]
    exact chain_sh hz hN s es t _ (fun q hq => r q (List.mem_cons_of_mem _ hq)) e2
theorem nodeR_in {lo hi : Nat} : ∀ {k q : Nat} {L : List Int32}, nodeR h lo hi k q L → lo ≤ q ∧ q < hi
  | 0, _, _, e => by cases e
  | _ + 1, _, _, e => ⟨e.1, e.2.1⟩
theorem nodeR_sh {g : mm_H} {z z' N : Nat} {sh : Int32} (hz : z < 14) (hN : N ≤ 6500) (s : NS h g z z' N sh) (es : ∀ t, t < N → ni (6500 * z + t) + sh = ni (6500 * z' + t)) : ∀ (k q : Nat) (L : List Int32), nodeR h (6500 * z) (6500 * z + N) k q L → nodeR g (6500 * z') (6500 * z' + N) k (6500 * z' + (q - 6500 * z)) L := by
  intro k
  induction k with
  | zero => intro q L e; cases e
  | succ k ih =>
    intro q L e
    obtain ⟨q1, q2, e⟩ := e
    obtain ⟨a1, a2⟩ := s.at_ q1 q2
    refine ⟨by omega, by omega, ?_⟩
    rcases e with ⟨k3, a, s', v, ha, hs, hv, e1, e2, e3, eL⟩ | ⟨k2, x, M, e1, e2, eL⟩ | ⟨e, he, ke, l, l0, lc, lm, eL⟩
    · exact Or.inl ⟨(a1 191 (by omega)).trans k3, a, s', v, ha, hs, hv, (a1 194 (by omega)).trans e1, (a1 195 (by omega)).trans e2, (a1 196 (by omega)).trans e3, eL⟩
    · obtain ⟨x1, x2⟩ := nodeR_in e2
      exact Or.inr (Or.inl ⟨(a1 191 (by omega)).trans k2, _, M, by rw [a2 192 (Or.inl rfl), e1, shV_ni hz hN es x1 x2], ih x M e2, eL⟩)
    · refine Or.inr (Or.inr ⟨e, he, (a1 191 (by omega)).trans ke, l.map (fun m => (6500 * z' + (m.1 - 6500 * z), m.2)), ?_, ?_, ?_, ?_⟩)
      · intro z0
        exact l0 (List.map_eq_nil_iff.mp z0)
      · rw [a2 192 (Or.inl rfl), List.map_map]
        have := chain_sh hz hN s es (l.map Prod.fst) _ (fun q hq => by
          obtain ⟨m, hm, rfl⟩ := List.mem_map.mp hq
          exact nodeR_in (lm m hm)) lc
        rw [List.map_map] at this
        exact this
      · intro m hm
        obtain ⟨m0, hm0, rfl⟩ := List.mem_map.mp hm
        exact ih m0.1 m0.2 (lm m0 hm0)
      · rw [eL, List.map_map]
        rfl
theorem setR_cp {g : mm_H} {z z' N : Nat} {L : List Stm} (hz : z < 14) (hz' : z' < 14) (hN : N ≤ 6500) (hL : L.length ≤ 300) (r : CPR h z z' L.length N g) (R : setR h z L N) : setR g z' L N := by
  obtain ⟨r0, r1, r2, r3, r4, r5, r6⟩ := r
  obtain ⟨s1, s2, s3⟩ := R
  have ns : NS h g z z' N (6500 * (ni z' - ni z)) := fun t ht => ⟨fun x hx => by
    rw [r5 x hx, if_pos (by omega), show 6500 * z' + t - 6500 * z' = t by omega], fun x hx => by
    rw [r6 x hx, if_pos (by omega), show 6500 * z' + t - 6500 * z' = t by omega]⟩
  refine ⟨by rw [r1, upd_s], by rw [r2, upd_s], fun i s es => ?_⟩
  have hi := (List.getElem?_eq_some_iff.mp es).1
  obtain ⟨w1, w2, w3, w4, w5, w6, w7⟩ := s3 i s es
  have at_ : ∀ x, 182 ≤ x → x ≤ 189 → iA g x (300 * z' + i) = iA h x (300 * z + i) := fun x h1 h2 => by
    rw [r3 x h1 h2, if_pos (by omega), show 300 * z' + i - 300 * z' = i by omega]
  have at9 : iA g 190 (300 * z' + i) = shV (iA h 190 (300 * z + i)) (6500 * (ni z' - ni z)) := by
    rw [r4, if_pos (by omega), show 300 * z' + i - 300 * z' = i by omega]
  unfold rowR
  rw [at_ 182 (by omega) (by omega), at_ 183 (by omega) (by omega), at_ 184 (by omega) (by omega), at_ 185 (by omega) (by omega), at_ 186 (by omega) (by omega), at_ 187 (by omega) (by omega), at_ 188 (by omega) (by omega), at_ 189 (by omega) (by omega), at9]
  refine ⟨w1, w2, w3, w4, w5, w6, ?_⟩
  rcases w7 with ⟨t0, e⟩ | ⟨t0, q, e, nd⟩
  · refine Or.inl ⟨t0, ?_⟩
    rw [e]
    rfl
  · obtain ⟨q1, q2⟩ := nodeR_in nd
    refine Or.inr ⟨t0, _, ?_, nodeR_sh hz hN ns (fun t _ => shE hz hz' t) 40 q _ nd⟩
    rw [e, shV_ni hz hN (fun t _ => shE hz hz' t) q1 q2]
theorem shV_0 (v : Int32) : shV v 0 = v := by
  unfold shV
  by_cases q : v = -1
  · rw [if_pos q, q]
  · rw [if_neg q, Int32.add_zero]
theorem setR_ot {g : mm_H} {z z' w len N N' : Nat} {L : List Stm} (hw : w < 14) (hwz : w ≠ z') (hlen : len ≤ 300) (hN : N ≤ 6500) (hN' : N' ≤ 6500) (hL : L.length ≤ 300) (r : CPR h z z' len N g) (R : setR h w L N') : setR g w L N' := by
  obtain ⟨r0, r1, r2, r3, r4, r5, r6⟩ := r
  obtain ⟨s1, s2, s3⟩ := R
  have ns : NS h g w w N' 0 := fun t ht => ⟨fun x hx => by
    rw [r5 x hx, if_neg (by omega)], fun x hx => by
    rw [r6 x hx, if_neg (by omega), shV_0]⟩
  refine ⟨by rw [r1, upd_n hwz]; exact s1, by rw [r2, upd_n hwz]; exact s2, fun i s es => ?_⟩
  have hi := (List.getElem?_eq_some_iff.mp es).1
  obtain ⟨w1, w2, w3, w4, w5, w6, w7⟩ := s3 i s es
  have at_ : ∀ x, 182 ≤ x → x ≤ 189 → iA g x (300 * w + i) = iA h x (300 * w + i) := fun x h1 h2 => by
    rw [r3 x h1 h2, if_neg (by omega)]
  have at9 : iA g 190 (300 * w + i) = iA h 190 (300 * w + i) := by
    rw [r4, if_neg (by omega)]
  unfold rowR
  rw [at_ 182 (by omega) (by omega), at_ 183 (by omega) (by omega), at_ 184 (by omega) (by omega), at_ 185 (by omega) (by omega), at_ 186 (by omega) (by omega), at_ 187 (by omega) (by omega), at_ 188 (by omega) (by omega), at_ 189 (by omega) (by omega), at9]
  refine ⟨w1, w2, w3, w4, w5, w6, ?_⟩
  rcases w7 with q | ⟨t0, q, e, nd⟩
  · exact Or.inl q
  · obtain ⟨q1, q2⟩ := nodeR_in nd
    have nd' := nodeR_sh hw hN' ns (fun t _ => by rw [Int32.add_zero]) 40 q _ nd
    rw [show 6500 * w + (q - 6500 * w) = q by omega] at nd'
    exact Or.inr ⟨t0, q, e, nd'⟩
end COPIED

/-! ===== the best of those put by, the class's side ===== -/
section BESTC
variable {K n : Nat} {h : mm_H}
def rySum (h : mm_H) (F f : Nat) (Ls : Nat → List Stm) (r : Nat) (a : Int64) : Nat → Int64
  | 0 => a
  | i + 1 => rySum h F f Ls r a i + rvS h F f Ls (fI h 49 6) (5 * r + i) 15
/-- all revenues of a review, of the first firms -/
def raSum (h : mm_H) (F : Nat) (Ls : Nat → List Stm) (r : Nat) : Nat → Int64
  | 0 => 0
  | f + 1 => rySum h F f Ls r (raSum h F Ls r f) 5
/-- whether the first firms bear no more than a bound -/
def wiB (h : mm_H) (F : Nat) (Ls : Nat → List Stm) (r : Nat) (bd : Int32) : Nat → Bool
  | 0 => true
  | f + 1 => wiB h F Ls r bd f && decide (boY h F f Ls (fI h 49 6) r 5 ≤ bd.toInt64)
theorem wiB_mono {F r : Nat} {Ls : Nat → List Stm} {bd : Int32} {i : Nat} (q : wiB h F Ls r bd i = false) : ∀ m, wiB h F Ls r bd (i + m) = false
  | 0 => q
  | m + 1 => by
    show (wiB h F Ls r bd (i + m) && _) = false
    rw [wiB_mono q m, Bool.false_and]
theorem z_bw (hK : 3000 ≤ K) (hn : 208 ≤ n) (j : JR h) (jk : JK h n) {Ls : Nat → List Stm} {F r : Nat} (uF : fI h 49 5 = ni F) (hF : F ≤ 11) (hr : r ≤ 2) (bd : Int32) : ∀ (m i k : Nat) (g : mm_H), i + m = F → m < k → CB n h Ls g → wiB h F Ls r bd i = true → ∃ g', lp_X10_isBorneWithin_2 K n 48 (ni r) bd k (ni i) g = some (if wiB h F Ls r bd F = true then 1 else 0, g') ∧ CB n h Ls g' := by
  intro m
  induction m with
  | zero =>
    intro i k g hi hk u w
    obtain ⟨k, rfl⟩ : ∃ x, k = x + 1 := ⟨k - 1, by omega⟩
    have : i = F := by omega
    subst this
    have f49 : fI g 49 5 = ni i := (fI_c (u.2.1.1 49 (by omega)) 5).trans uF
    unfold lp_X10_isBorneWithin_2
    simp only [g_48_0 u.1 hn, g_49_5 u.1 hn, f49, Option.bind_some]
    rw [if_pos (Int32.le_refl _), if_pos w]
    exact ⟨g, rfl, u⟩
  | succ m ih =>
    intro i k g hi hk u w
    obtain ⟨k, rfl⟩ : ∃ x, k = x + 1 := ⟨k - 1, by omega⟩
    have f49 : fI g 49 5 = ni F := (fI_c (u.2.1.1 49 (by omega)) 5).trans uF
    have t49 : fI g 49 6 = fI h 49 6 := fI_c (u.2.1.1 49 (by omega)) 6
    obtain ⟨g1, e1, u1, c1⟩ := z_openBy hK hn j jk u uF hF (f := i) (ly := 5 * r + 4) (by omega) (by omega) (fI h 49 6)
    obtain ⟨g2, e2, u2, s2⟩ := u1.borneAll hK hn (r := r) (by omega) (by omega)
    have c2 := c1.cs u2.1 s2
    have er5 : ni r * 5 = ni (5 * r) := by
      rw [Nat.mul_comm 5 r]
      exact ni_mul r 5
    unfold lp_X10_isBorneWithin_2
    simp only [g_48_0 u.1 hn, g_49_5 u.1 hn, f49, Option.bind_some]
    rw [if_neg (fun q => by have := (ni_le (by omega) (by omega)).mp q; omega)]
    simp only [g_48_1 u.1 hn, z_lastYear (K := K) (h := g) (n := n) hr, g_49_6 u.1 hn, t49, gq_73 u.1 hn, Option.bind_some, e1, g_48_1 u1.1 hn, gq_73 u1.1 hn, er5, e2, lg_cmp_le, ni_1]
    have eW : wiB h F Ls r bd (i + 1) = (wiB h F Ls r bd i && decide (boY h F i Ls (fI h 49 6) r 5 ≤ bd.toInt64)) := rfl
    by_cases q : boY h F i Ls (fI h 49 6) r 5 ≤ bd.toInt64
    · rw [if_pos q]
      exact ih (i + 1) k g2 (by omega) (by omega) c2 (by rw [eW, w, decide_eq_true q]; rfl)
    · rw [if_neg q]
      have wF : wiB h F Ls r bd F = false := by
        have := wiB_mono (h := h) (F := F) (r := r) (Ls := Ls) (bd := bd) (i := i + 1) (by rw [eW, w, decide_eq_false q]; rfl) m
        rw [show i + 1 + m = F by omega] at this
        exact this
      rw [wF]
      exact ⟨g2, rfl, c2⟩
theorem CB.within (hK : 3000 ≤ K) (hn : 208 ≤ n) (j : JR h) (jk : JK h n) {Ls : Nat → List Stm} {F r : Nat} {g : mm_H} (u : CB n h Ls g) (uF : fI h 49 5 = ni F) (hF : F ≤ 11) (hr : r ≤ 2) (bd : Int32) : ∃ g', q_X10_isBorneWithin K g n 48 (ni r) bd = some (if wiB h F Ls r bd F = true then 1 else 0, g') ∧ CB n h Ls g' := by
  obtain ⟨g', e, u'⟩ := z_bw hK hn j jk uF hF hr bd F 0 K g (by omega) (by omega) u rfl
  have e' : lp_X10_isBorneWithin_2 K n 48 (ni r) bd K 0 g = some (if wiB h F Ls r bd F = true then 1 else 0, g') := e
  refine ⟨g', ?_, u'⟩
  unfold q_X10_isBorneWithin
  rw [e', Option.bind_some]
  by_cases q : wiB h F Ls r bd F = true
  · rw [if_pos q, if_pos q]
    rfl
  · rw [if_neg q, if_neg q]
    rfl
theorem z_ry {g : mm_H} (hK : 3000 ≤ K) (c : PS g) (hn : 208 ≤ n) {F f r : Nat} {Ls : Nat → List Stm} (hr : r ≤ 2) (l4 : Int32) (a : Int64) (rw_ : ∀ z, 5 * r ≤ z → z ≤ 5 * r + 4 → ∀ i, i < 15 → jA g (125 + z) i = lnS h F f Ls (fI h 49 6) z i) : ∀ (m i k : Nat), i + m = 5 → m < k → lp_X10_allRevenues_56 K g n 48 (ni r) l4 k (rySum h F f Ls r a i) (ni (5 * r + i)) = some (rySum h F f Ls r a 5) := by
  intro m
  induction m with
  | zero =>
    intro i k hi hk
    obtain ⟨k, rfl⟩ : ∃ x, k = x + 1 := ⟨k - 1, by omega⟩
    have : i = 5 := by omega
    subst this
    unfold lp_X10_allRevenues_56
    rw [z_lastYear hr, Option.bind_some, if_pos ((ni_lt (by omega) (by omega)).mpr (by omega))]
  | succ m ih =>
    intro i k hi hk
    obtain ⟨k, rfl⟩ : ∃ x, k = x + 1 := ⟨k - 1, by omega⟩
    have al := z_allLines hK c hn (y := 5 * r + i) (by omega) (rw_ (5 * r + i) (by omega) (by omega))
    unfold lp_X10_allRevenues_56
    rw [z_lastYear hr, Option.bind_some, if_neg (fun q => by have := (ni_lt (by omega) (by omega)).mp q; omega)]
    simp only [g_48_1 c hn, gq_73 c hn, Option.bind_some, al, ni_1]
    exact ih (i + 1) k (by omega) (by omega)
theorem z_ra (hK : 3000 ≤ K) (hn : 208 ≤ n) (j : JR h) (jk : JK h n) {Ls : Nat → List Stm} {F r : Nat} (uF : fI h 49 5 = ni F) (hF : F ≤ 11) (hr : r ≤ 2) : ∀ (m i k : Nat) (g : mm_H), i + m = F → m < k → CB n h Ls g → ∃ g', lp_X10_allRevenues_5 K n 48 (ni r) k (raSum h F Ls r i) (ni i) g = some (raSum h F Ls r F, g') ∧ CB n h Ls g' := by
  intro m
  induction m with
  | zero =>
    intro i k g hi hk u
    obtain ⟨k, rfl⟩ : ∃ x, k = x + 1 := ⟨k - 1, by omega⟩
    have : i = F := by omega
    subst this
    have f49 : fI g 49 5 = ni i := (fI_c (u.2.1.1 49 (by omega)) 5).trans uF
    unfold lp_X10_allRevenues_5
    simp only [g_48_0 u.1 hn, g_49_5 u.1 hn, f49, Option.bind_some]
    rw [if_pos (Int32.le_refl _)]
    exact ⟨g, rfl, u⟩
  | succ m ih =>
    intro i k g hi hk u
    obtain ⟨k, rfl⟩ : ∃ x, k = x + 1 := ⟨k - 1, by omega⟩
    have f49 : fI g 49 5 = ni F := (fI_c (u.2.1.1 49 (by omega)) 5).trans uF
    have t49 : fI g 49 6 = fI h 49 6 := fI_c (u.2.1.1 49 (by omega)) 6
    obtain ⟨g1, e1, u1, c1⟩ := z_openBy hK hn j jk u uF hF (f := i) (ly := 5 * r + 4) (by omega) (by omega) (fI h 49 6)
    obtain ⟨g2, e2, u2, s2, r2⟩ := u1.fill hK hn (a := 5 * r) (b := 5 * r + 4) (by omega) (by omega) (by omega)
    have c2 := c1.cs u2.1 s2
    have er5 : ni r * 5 = ni (5 * r) := by
      rw [Nat.mul_comm 5 r]
      exact ni_mul r 5
    have ry := z_ry hK u2.1 hn hr (ni i) (raSum h F Ls r i) r2 5 0 K rfl (by omega)
    have ry' : lp_X10_allRevenues_56 K g2 n 48 (ni r) (ni i) K (raSum h F Ls r i) (ni (5 * r)) = some (raSum h F Ls r (i + 1)) := ry
    unfold lp_X10_allRevenues_5
    simp only [g_48_0 u.1 hn, g_49_5 u.1 hn, f49, Option.bind_some]
    rw [if_neg (fun q => by have := (ni_le (by omega) (by omega)).mp q; omega)]
    simp only [g_48_1 u.1 hn, z_lastYear (K := K) (h := g) (n := n) hr, z_lastYear (K := K) (h := g1) (n := n) hr, g_49_6 u.1 hn, t49, gq_73 u.1 hn, Option.bind_some, e1, g_48_1 u1.1 hn, gq_73 u1.1 hn, er5, e2, ry', ni_1]
    exact ih (i + 1) k g2 (by omega) (by omega) c2
theorem CB.revs (hK : 3000 ≤ K) (hn : 208 ≤ n) (j : JR h) (jk : JK h n) {Ls : Nat → List Stm} {F r : Nat} {g : mm_H} (u : CB n h Ls g) (uF : fI h 49 5 = ni F) (hF : F ≤ 11) (hr : r ≤ 2) : ∃ g', q_X10_allRevenues K g n 48 (ni r) = some (raSum h F Ls r F, g') ∧ CB n h Ls g' := by
  obtain ⟨g', e, u'⟩ := z_ra hK hn j jk uF hF hr F 0 K g (by omega) (by omega) u
  have e' : lp_X10_allRevenues_5 K n 48 (ni r) K 0 0 g = some (raSum h F Ls r F, g') := e
  refine ⟨g', ?_, u'⟩
  unfold q_X10_allRevenues
  rw [e']
  rfl
/-- the best of the first ones -/
def bsS (h : mm_H) (F : Nat) (Ls : Nat → List Stm) (r : Nat) (bd : Int32) (Lp : Nat → List Stm) : Nat → Int32 × Int64
  | 0 => (-1, 0)
  | p + 1 => if wiB h F (LsI Ls r (Lp p)) r bd F = true then (if (bsS h F Ls r bd Lp p).1 = -1 then (ni p, raSum h F (LsI Ls r (Lp p)) r F) else if (bsS h F Ls r bd Lp p).2 ≤ raSum h F (LsI Ls r (Lp p)) r F then bsS h F Ls r bd Lp p else (ni p, raSum h F (LsI Ls r (Lp p)) r F)) else bsS h F Ls r bd Lp p
/-- those put by -/
def PB (n : Nat) (h : mm_H) (Lp : Nat → List Stm) (m : Nat) : Prop := ∀ i, i < m → ∃ p a b, rA h 157 i = some p ∧ bothR h n p (9 + i) 9 (Lp i) a b
theorem JK.pb (jk : JK h n) : ∃ (m : Nat) (Lp : Nat → List Stm), fI h 48 10 = ni m ∧ m ≤ 4 ∧ PB n h Lp m := by
  obtain ⟨m, e, hm, H⟩ := jk.2.2.2
  have ex : ∀ i, ∃ L : List Stm, i < m → ∃ p a b, rA h 157 i = some p ∧ bothR h n p (9 + i) 9 L a b := fun i => by
    by_cases q : i < m
    · obtain ⟨p, L, a, b, r1, r2⟩ := H i q
      exact ⟨L, fun _ => ⟨p, a, b, r1, r2⟩⟩
    · exact ⟨[], fun z => absurd z q⟩
  exact ⟨m, fun i => Classical.choose (ex i), e, hm, fun i hi => Classical.choose_spec (ex i) hi⟩
theorem z_bestC (hK : 3000 ≤ K) (hn : 208 ≤ n) (j : JR h) (jk : JK h n) {Ls : Nat → List Stm} {F r M : Nat} {Lp : Nat → List Stm} (uF : fI h 49 5 = ni F) (hF : F ≤ 11) (hr : r ≤ 2) (bd : Int32) (e10 : fI h 48 10 = ni M) (hM : M ≤ 4) (pb : PB n h Lp M) : ∀ (m p k : Nat) (g : mm_H), p + m = M → m < k → PS g → SW h g → (∀ r', r' < 3 → r' ≠ r → ∃ z, RS g n (rA g 74 r') z (Ls r')) → ∃ g', lp_X10_best_31 K n 48 (ni r) bd k (bsS h F Ls r bd Lp p).1 (bsS h F Ls r bd Lp p).2 (ni p) g = some ((bsS h F Ls r bd Lp M).1, g') ∧ PS g' ∧ SW h g' := by
  intro m
  induction m with
  | zero =>
    intro p k g hi hk c s R
    obtain ⟨k, rfl⟩ : ∃ x, k = x + 1 := ⟨k - 1, by omega⟩
    have : p = M := by omega
    subst this
    have f48 : fI g 48 10 = ni p := (fI_c (s.1 48 (by omega)) 10).trans e10
    unfold lp_X10_best_31
    simp only [g_48_10 c hn, f48, Option.bind_some]
    rw [if_pos (Int32.le_refl _)]
    exact ⟨g, rfl, c, s⟩
  | succ m ih =>
    intro p k g hi hk c s R
    obtain ⟨k, rfl⟩ : ∃ x, k = x + 1 := ⟨k - 1, by omega⟩
    have f48 : fI g 48 10 = ni M := (fI_c (s.1 48 (by omega)) 10).trans e10
    obtain ⟨q, a, b, e157, bR⟩ := pb p (by omega)
    have g157 : rA g 157 p = some q := by rw [rA_c (s.1 157 (by omega))]; exact e157
    have Rb : RS g n (some q) (ni (9 + p)) (Lp p) := Or.inr ⟨q, 9 + p, 9, a, b, rfl, rfl, by omega, by omega, bothR_c (fun x hx => s.1 x (by omega)) bR⟩
    have us := z_useRules (K := K) c hn (r := r) (by omega) Rb
    have i4 : inb (ni p) 4 = true := ni_inb (by omega) (by omega)
    have t4 : (ni p).toNatClampNeg = p := ni_tn (by omega)
    have c1 : PS (mm_sr g 74 r (some q)) := ps_74 c _ _
    have o1 : ∀ a, a ≠ 74 → mm_sr g 74 r (some q) a = g a := fun a z => mm_sr_n z
    have s1 : SW g (mm_sr g 74 r (some q)) := ⟨fun a z => o1 a (by omega), fun k _ _ _ _ => fI_c (o1 159 (by omega)) k⟩
    have cb : CB n h (LsI Ls r (Lp p)) (mm_sr g 74 r (some q)) := ⟨c1, s.trans s1, fun r' hr' => by
      rw [is_74 c]
      unfold LsI
      by_cases z : r' = r
      · rw [z, vup_s, if_pos rfl]
        exact ⟨_, RS_c (fun a z => o1 a (by omega)) Rb⟩
      · rw [vup_n z, if_neg z]
        obtain ⟨y, r1⟩ := R r' hr' z
        exact ⟨y, RS_c (fun a z => o1 a (by omega)) r1⟩⟩
    have Rn : ∀ g2, CB n h (LsI Ls r (Lp p)) g2 → ∀ r', r' < 3 → r' ≠ r → ∃ z, RS g2 n (rA g2 74 r') z (Ls r') := fun g2 cb2 r' hr' z => by
      obtain ⟨y, r1⟩ := cb2.2.2 r' hr'
      unfold LsI at r1
      rw [if_neg z] at r1
      exact ⟨y, r1⟩
    obtain ⟨g2, e2, cb2⟩ := cb.within hK hn j jk uF hF hr bd
    have eB : bsS h F Ls r bd Lp (p + 1) = if wiB h F (LsI Ls r (Lp p)) r bd F = true then (if (bsS h F Ls r bd Lp p).1 = -1 then (ni p, raSum h F (LsI Ls r (Lp p)) r F) else if (bsS h F Ls r bd Lp p).2 ≤ raSum h F (LsI Ls r (Lp p)) r F then bsS h F Ls r bd Lp p else (ni p, raSum h F (LsI Ls r (Lp p)) r F)) else bsS h F Ls r bd Lp p := rfl
    unfold lp_X10_best_31
    simp only [g_48_10 c hn, f48, Option.bind_some]
    rw [if_neg (fun q => by have := (ni_le (by omega) (by omega)).mp q; omega)]
    simp only [g_48_1 c hn, g_48_9 c hn, ge_157 c hn, i4, t4, if_true, g157, gq_73 c hn, Option.bind_some, us, gq_48 c1 hn, e2, ni_1]
    by_cases wi : wiB h F (LsI Ls r (Lp p)) r bd F = true
    · rw [if_pos wi] at eB
      have v1 : ¬ (if wiB h F (LsI Ls r (Lp p)) r bd F = true then (1 : Int32) else 0) = 0 := by rw [if_pos wi]; decide
      rw [if_neg v1]
      obtain ⟨g3, e3, cb3⟩ := cb2.revs hK hn j jk uF hF hr
      simp only [gq_48 cb2.1 hn, Option.bind_some, e3, lg_cmp_ge]
      have nx := ih (p + 1) k g3 (by omega) (by omega) cb3.1 cb3.2.1 (Rn g3 cb3)
      by_cases z1 : (bsS h F Ls r bd Lp p).1 = -1
      · rw [if_pos z1] at eB ⊢
        rw [eB] at nx
        exact nx
      rw [if_neg z1] at eB ⊢
      by_cases z2 : (bsS h F Ls r bd Lp p).2 ≤ raSum h F (LsI Ls r (Lp p)) r F
      · rw [if_pos z2] at eB ⊢
        rw [eB] at nx
        exact nx
      · rw [if_neg z2] at eB ⊢
        rw [eB] at nx
        exact nx
    · rw [if_neg wi] at eB
      have v0 : (if wiB h F (LsI Ls r (Lp p)) r bd F = true then (1 : Int32) else 0) = 0 := if_neg wi
      rw [if_pos v0]
      have nx := ih (p + 1) k g2 (by omega) (by omega) cb2.1 cb2.2.1 (Rn g2 cb2)
      rw [eB] at nx
      exact nx
end BESTC

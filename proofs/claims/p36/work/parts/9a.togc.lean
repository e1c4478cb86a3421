/-! ===== the class puts a set together ===== -/
section TOGC
variable {K : Nat} {b : Nat → Nat} {N : Nat}
theorem bind_pr {X : Option (mm_H × Nat)} {p : mm_H × Nat} (e : X.bind (fun (a, m) => some (a, m)) = some p) : X = some p := by
  cases X with
  | none => cases e
  | some y => exact e
theorem bookC_up {g f : mm_H} {n m p x y : Nat} {L : List Stm} (B : bookC g n p L x y) (hm : n ≤ m) (o : ∀ a, 159 ≤ a → a < n → f a = g a) : bookC f m p L x y := by
  obtain ⟨h1, h2, q, w, e1, h3, h4, e2, e3⟩ := B
  refine ⟨h1, by omega, q, w, (o p h1 h2).trans e1, h3, by omega, (o q h3 h4).trans e2, fun j s ej => ?_⟩
  obtain ⟨r, e4, e5⟩ := e3 j s ej
  exact ⟨r, e4, ruleC_up e5 hm o⟩
theorem z_rd (hK : 3000 ≤ K) {n0 : Nat} {h : mm_H} (hn0 : 159 ≤ n0) (hn9 : n0 + 200 < 1000000) (T : TXT h) (t : TX b N h) {L : List Stm} (hL : L.length ≤ 270) {l : Option Nat} (B : baC h n0 l L) {am : Bool} (hA : am = false → L = []) : ∀ (m i k : Nat) (x : X3S) (g : mm_H) (n : Nat), i + m = 30 → (∀ s, x.1 = .inr s → m < k ∨ N - s < k) → 0 < k → LI b N L n0 h i x g n → ∃ g' n', lp_X3_read_89 K 151 (if am = true then 1 else 0) l k (ni i) g n = some (g', n') ∧ LI b N L n0 h 30 (rdS b N am L.length m x) g' n' := by
  intro m
  induction m with
  | zero =>
    intro i k x g n hi hk h0 I
    obtain ⟨k, rfl⟩ : ∃ y, k = y + 1 := ⟨k - 1, by omega⟩
    have : i = 30 := by omega
    subst this
    unfold lp_X3_read_89
    rw [if_pos (by decide)]
    exact ⟨g, n, rfl, I⟩
  | succ m ih =>
    intro i k x g n hi hk h0 I
    obtain ⟨k, rfl⟩ : ∃ y, k = y + 1 := ⟨k - 1, by omega⟩
    have c := I.1
    have hn : 159 ≤ n := by have := I.2.1; omega
    have kk := I.2.2.2.2.2.1
    have done : LI b N L n0 h 30 x g n := by
      obtain ⟨a1, a2, a3, a4, a5, a6, a7, a8, a9, aa, ab⟩ := I
      exact ⟨a1, a2, by omega, a4, a5, a6, a7, a8, a9, by omega, ab⟩
    unfold lp_X3_read_89 rdS
    rw [if_neg (show ¬ (30 : Int32) ≤ ni i from fun z => by have := (ni_le (a := 30) (by omega) (by omega)).mp z; omega)]
    have one := z_one hK hn0 hn9 T t hL B (am := am) hA (i := i) (by omega) I
    have inv := @one_inv b N t.2.2.1 am L.length x
    rcases x with ⟨σ, M, S⟩
    cases σ with
    | inl p =>
      have k' : Tk b N g (.inl p) := kk
      rw [if_pos (show isE N (Sum.inl p) = true from rfl), g_151_2 c hn, k'.2.1, Option.bind_some, if_neg (by decide), g_151_5 c hn, k'.2.2, Option.bind_some, if_neg (ni_n1 (by have := k'.1; have := t.2.2.1; omega))]
      exact ⟨g, n, rfl, done⟩
    | inr s =>
      have k' : Tk b N g (.inr s) := kk
      rw [g_151_2 c hn, k'.2.1, Option.bind_some]
      by_cases q : s = N
      · rw [if_pos (show isE N (Sum.inr s) = true from decide_eq_true q), if_pos (by unfold tkk; rw [if_pos (by omega)]; rfl)]
        exact ⟨g, n, rfl, done⟩
      · have hs : s < N := by have := k'.1; omega
        have tk : 1 ≤ tkk b N s ∧ tkk b N s ≤ 5 := by
          unfold tkk
          rw [if_neg (by omega)]
          exact kd_le _
        rw [if_neg (show ¬ isE N (Sum.inr s) = true from fun z => q (of_decide_eq_true z)), if_neg (show ¬ ni (tkk b N s) = 0 from fun z => by have := (ni_inj (b := 0) (by omega) (by omega)).mp z; omega), g_151_5 c hn, k'.2.2.2.2, Option.bind_some, if_pos rfl]
        obtain ⟨g', n', e, I'⟩ := one
        obtain ⟨g2, n2, e2, I2⟩ := ih (i + 1) k _ g' n' (by omega) (fun s' es => by
          obtain ⟨s0, h1, h2, h3⟩ := inv es
          have h4 : s = s0 := Sum.inr.inj h1
          have := hk s rfl
          omega) (by have := hk s rfl; omega) I'
        refine ⟨g2, n2, ?_, I2⟩
        by_cases z : (if am = true then (1 : Int32) else 0) = 0
        · rw [if_pos z] at e ⊢
          rw [gq_151 c hn, Option.bind_some, bind_pr e, ← e2, ← ni_1]
          rfl
        · rw [if_neg z] at e ⊢
          rw [gq_151 c hn, Option.bind_some]
          cases ew : q_X3_isWord K g n 151 (some 4) with
          | none => rw [ew] at e; cases e
          | some v =>
            rw [ew, Option.bind_some] at e
            rw [Option.bind_some]
            by_cases zv : v = 0
            · rw [if_pos zv] at e ⊢
              rw [Option.bind_some, bind_pr e, ← e2, ← ni_1]
              rfl
            · rw [if_neg zv] at e ⊢
              rw [Option.bind_some]
              cases es : q_X3_strike K g n 151 l with
              | none => rw [es] at e; cases e
              | some v2 =>
                rw [es] at e
                cases e
                rw [Option.bind_some, ← e2, ← ni_1]
/-- a set under way -/
def BK (n C : Nat) (h g : mm_H) (A : List Stm) : Prop := PS g ∧ (∀ a, a < n → g a = h a) ∧ g n = .inr (6, [.ref (n + 1), .int (ni A.length), .int 0, .int 0]) ∧ ∃ f, g (n + 1) = .inl (.object "WaterReview$Rule", C, .inr (.inr (.inr (.inr f)))) ∧ ∀ i s, A[i]? = some s → ∃ r, f i = some r ∧ ruleC h n r s
theorem z_addX {n C : Nat} {h g : mm_H} {A : List Stm} (hn : 159 ≤ n) (I : BK n C h g A) (hC : C ≤ 300) (hA : A.length < C) {r : Nat} {s : Stm} (R : ruleC h n r s) : ∃ g', q_X6_add K g (n + 2) n (some r) = some g' ∧ BK n C h g' (A ++ [s]) := by
  obtain ⟨c, o, e1, f, e2, e3⟩ := I
  obtain ⟨r1, r2, u, r3, r4⟩ := id R
  have ck : ckr g (n + 2) r 5 = true := ckr_o ⟨by omega, by omega⟩ ((o r r2).trans r3)
  have d0 : rdR g (n + 2) n 6 0 = some (some (n + 1)) := rdR_o ⟨by omega, by omega⟩ e1 rfl
  have d1 : rdI g (n + 2) n 6 1 = some (ni A.length) := rdI_o ⟨by omega, by omega⟩ e1 rfl
  have ln : lenA g (n + 2) (n + 1) 4 = some (ni C) := by
    unfold lenA
    rw [if_pos ⟨by omega, by omega⟩, e2]
    show (if mm_tys[4]? = some (.object "WaterReview$Rule") then some (Int32.ofNat C) else none) = _
    exact if_pos ty4
  have st : stR g (n + 2) (n + 1) 4 5 (ni A.length) r = some (mm_sr g (n + 1) A.length (some r)) := by
    unfold stR
    rw [if_pos ⟨by omega, by omega⟩, e2]
    show (if mm_tys[4]? = some (.object "WaterReview$Rule") ∧ inb (ni A.length) C = true ∧ ckr g (n + 2) r 5 = true then some (mm_sr g (n + 1) (ni A.length).toNatClampNeg (some r)) else none) = _
    rw [if_pos ⟨rfl, ni_inb (by omega) hA, ck⟩, ni_tn (by omega)]
  have em : mm_sr g (n + 1) A.length (some r) = mm_up g (n + 1) (.inl (.object "WaterReview$Rule", C, .inr (.inr (.inr (.inr (va_up f A.length (some r))))))) := by
    unfold mm_sr
    rw [e2]
  have c2 : PS (mm_up g (n + 1) (.inl (.object "WaterReview$Rule", C, .inr (.inr (.inr (.inr (va_up f A.length (some r)))))))) := c.top (by omega) _
  have e1' : mm_up g (n + 1) (.inl (.object "WaterReview$Rule", C, .inr (.inr (.inr (.inr (va_up f A.length (some r))))))) n = .inr (6, [.ref (n + 1), .int (ni A.length), .int 0, .int 0]) := (mm_up_n (by omega)).trans e1
  have d1' := rdI_o (n := n + 2) (k := 1) (x := ni A.length) ⟨by omega, by omega⟩ e1' rfl
  have w1 := wrF_o (m := n + 2) (k := 1) (.int (ni A.length + 1)) ⟨by omega, by omega⟩ e1' (by decide : 1 < 4)
  refine ⟨mm_up (mm_up g (n + 1) (.inl (.object "WaterReview$Rule", C, .inr (.inr (.inr (.inr (va_up f A.length (some r)))))))) n (.inr (6, [.ref (n + 1), .int (ni A.length + 1), .int 0, .int 0])), ?_, c2.top hn _, fun a ha => ?_, mm_up_s.trans ?_, va_up f A.length (some r), ?_, fun i s' ei => ?_⟩
  · unfold q_X6_add
    rw [d1, Option.bind_some, d0, Option.bind_some, Option.bind_some, ln, Option.bind_some, if_neg (fun z => by have := (ni_le (by omega) (by omega)).mp z; omega)]
    simp only [Option.bind_some, st, em, d1', w1]
    rfl
  · rw [mm_up_n (by omega), mm_up_n (by omega)]
    exact o a ha
  · rw [ni_1, List.length_append, List.length_singleton]
  · rw [mm_up_n (by omega), mm_up_s]
  · by_cases hi : i < A.length
    · rw [List.getElem?_append_left hi] at ei
      rw [va_up_ne _ _ (by omega)]
      exact e3 i s' ei
    · rw [List.getElem?_append_right (by omega)] at ei
      have h2 := (List.getElem?_eq_some_iff.mp ei).1
      rw [List.length_singleton] at h2
      have h3 : i = A.length := by omega
      subst h3
      rw [Nat.sub_self] at ei
      cases ei
      exact ⟨r, va_up_self _ _ _, R⟩
theorem z_tg35 {n C : Nat} {h : mm_H} (hn : 159 ≤ n) (hC : C ≤ 300) {L : List Stm} (hL : L.length ≤ 270) {l : Option Nat} (B : baC h n l L) {S : Nat → Bool} (eS : ∀ v, v < 270 → iA h 152 v = if S v = true then 1 else 0) : ∀ (rest : List Stm) (i k : Nat) (g : mm_H) (A : List Stm), (∀ j s, rest[j]? = some s → L[i + j]? = some s) → i + rest.length = L.length → rest.length < k → A.length + (kptS S rest i).length ≤ C → BK n C h g A → ∃ g', lp_X3_together_35 K (n + 2) 151 l (ni L.length) n k (ni i) g = some g' ∧ BK n C h g' (A ++ kptS S rest i) := by
  intro rest
  induction rest with
  | nil =>
    intro i k g A hr hi hk hA I
    obtain ⟨k, rfl⟩ : ∃ y, k = y + 1 := ⟨k - 1, by omega⟩
    unfold lp_X3_together_35
    simp only [List.length_nil] at hi
    rw [if_pos ((ni_le (by omega) (by omega)).mpr (by omega))]
    refine ⟨g, rfl, ?_⟩
    show BK n C h g (A ++ [])
    rw [List.append_nil]
    exact I
  | cons s rest ih =>
    intro i k g A hr hi hk hA I
    obtain ⟨k, rfl⟩ : ∃ y, k = y + 1 := ⟨k - 1, by omega⟩
    simp only [List.length_cons] at hi hk
    have c := I.1
    have hn2 : 159 ≤ n + 2 := by omega
    have es : L[i]? = some s := hr 0 s rfl
    have hr' : ∀ j s', rest[j]? = some s' → L[i + 1 + j]? = some s' := fun j s' e => by
      rw [show i + 1 + j = i + (j + 1) by omega]
      exact hr (j + 1) s' e
    rcases B with ⟨-, rfl⟩ | ⟨p, x, y, rfl, B⟩
    · cases es
    have Bg : bookC g (n + 2) p L x y := bookC_up B (by omega) (fun a _ h2 => I.2.1 a h2)
    have Bg' := Bg
    obtain ⟨h1, h2, qq, f, e1, -⟩ := Bg'
    obtain ⟨r, er, R⟩ := book_at (K := K) Bg (by omega) es
    have ha : iA g 152 i = if S i = true then 1 else 0 := by rw [iA_c (I.2.1 152 (by omega))]; exact eS i (by omega)
    obtain ⟨r', er', R'⟩ := book_at (K := K) B (by omega) es
    have rr : r = r' := by
      have h3 : q_X6_at K g (n + 2) p (ni i) = q_X6_at K h n p (ni i) := by
        obtain ⟨b1, b2, bq, bf, be1, b3, b4, be2, be3⟩ := B
        obtain ⟨rz, ez, -⟩ := be3 i s es
        have k1 : q_X6_at K h n p (ni i) = some (some rz) := by
          unfold q_X6_at
          rw [if_neg (ni_pos (by omega)), rdI_o (x := ni L.length) ⟨by omega, b2⟩ be1 rfl]
          show (if ni L.length ≤ ni i then some none else _) = _
          rw [if_neg (fun q => by have := (ni_le (by omega) (by omega)).mp q; omega), rdR_o (r := bq) ⟨by omega, b2⟩ be1 rfl]
          show (ldR h n bq 4 (ni i)).bind _ = _
          rw [ldR_o (by omega) be2 ty4 rfl (by omega) (by omega), ez]
          rfl
        have k2 : q_X6_at K g (n + 2) p (ni i) = some (some rz) := by
          unfold q_X6_at
          rw [if_neg (ni_pos (by omega)), rdI_o (x := ni L.length) ⟨by omega, by omega⟩ ((I.2.1 p b2).trans be1) rfl]
          show (if ni L.length ≤ ni i then some none else _) = _
          rw [if_neg (fun q => by have := (ni_le (by omega) (by omega)).mp q; omega), rdR_o (r := bq) ⟨by omega, by omega⟩ ((I.2.1 p b2).trans be1) rfl]
          show (ldR g (n + 2) bq 4 (ni i)).bind _ = _
          rw [ldR_o (by omega) ((I.2.1 bq b4).trans be2) ty4 rfl (by omega) (by omega), ez]
          rfl
        rw [k1, k2]
      rw [h3, er'] at er
      exact (Option.some.inj (Option.some.inj er)).symm
    subst rr
    have R := R'
    have i2 : inb (ni i) 270 = true := ni_inb (by omega) (by omega)
    have ti : (ni i).toNatClampNeg = i := ni_tn (by omega)
    have cp : ckq g (n + 2) p 6 = some () := ckq_o ⟨by omega, h2⟩ e1
    have cn : ckq g (n + 2) n 6 = some () := ckq_o ⟨by omega, by omega⟩ I.2.2.1
    unfold lp_X3_together_35
    rw [if_neg (fun z => by have := (ni_le (by omega) (by omega)).mp z; omega)]
    simp only [g_151_6 c hn2, Option.bind_some, gl_152 c hn2, ge_152 c hn2, i2, ti, if_true, ha]
    rw [if_neg (show ¬ (270 : Int32) ≤ ni i from fun z => by have := (ni_le (a := 270) (by omega) (by omega)).mp z; omega)]
    unfold kptS at hA ⊢
    by_cases q : S i = true
    · rw [if_pos q] at hA
      rw [if_neg (by rw [if_pos q]; decide), if_pos q, ni_1]
      exact ih (i + 1) k g A hr' (by omega) (by omega) hA I
    · rw [if_neg q] at hA
      rw [if_pos (by rw [if_neg q]), if_neg q]
      simp only [List.length_cons] at hA
      obtain ⟨g1, f1, I1⟩ := z_addX (K := K) hn I hC (by omega) R
      obtain ⟨g2, f2, I2⟩ := ih (i + 1) k g1 (A ++ [s]) hr' (by omega) (by omega) (by rw [List.length_append, List.length_singleton]; omega) I1
      refine ⟨g2, ?_, by rw [List.append_assoc] at I2; exact I2⟩
      rw [cp, Option.bind_some, er, Option.bind_some, cn, Option.bind_some, f1, Option.bind_some, ni_1]
      exact f2
theorem z_tg80 {n C : Nat} {h : mm_H} (hn : 159 ≤ n) (hC : C ≤ 300) {M : List Stm} (hM : M.length ≤ 30) (e9 : fI h 151 9 = ni M.length) (eM : ∀ j s, M[j]? = some s → ∃ r, rA h 153 j = some r ∧ ruleC h n r s) : ∀ (rest : List Stm) (i k : Nat) (g : mm_H) (A : List Stm), (∀ j s, rest[j]? = some s → M[i + j]? = some s) → i + rest.length = M.length → rest.length < k → A.length + rest.length ≤ C → BK n C h g A → ∃ g', lp_X3_together_80 K (n + 2) 151 n k (ni i) g = some g' ∧ BK n C h g' (A ++ rest) := by
  intro rest
  induction rest with
  | nil =>
    intro i k g A hr hi hk hA I
    obtain ⟨k, rfl⟩ : ∃ y, k = y + 1 := ⟨k - 1, by omega⟩
    unfold lp_X3_together_80
    simp only [List.length_nil] at hi
    rw [g_151_9 I.1 (by omega), fI_c (I.2.1 151 (by omega)), e9, Option.bind_some, if_pos ((ni_le (by omega) (by omega)).mpr (by omega))]
    exact ⟨g, rfl, by rw [List.append_nil]; exact I⟩
  | cons s rest ih =>
    intro i k g A hr hi hk hA I
    obtain ⟨k, rfl⟩ : ∃ y, k = y + 1 := ⟨k - 1, by omega⟩
    simp only [List.length_cons] at hi hk hA
    have c := I.1
    have hn2 : 159 ≤ n + 2 := by omega
    have es : M[i]? = some s := hr 0 s rfl
    have hr' : ∀ j s', rest[j]? = some s' → M[i + 1 + j]? = some s' := fun j s' e => by
      rw [show i + 1 + j = i + (j + 1) by omega]
      exact hr (j + 1) s' e
    obtain ⟨r, er, R⟩ := eM i s es
    have er' : rA g 153 i = some r := by rw [rA_c (I.2.1 153 (by omega))]; exact er
    have i2 : inb (ni i) 30 = true := ni_inb (by omega) (by omega)
    have ti : (ni i).toNatClampNeg = i := ni_tn (by omega)
    have cn : ckq g (n + 2) n 6 = some () := ckq_o ⟨by omega, by omega⟩ I.2.2.1
    obtain ⟨g1, f1, I1⟩ := z_addX (K := K) hn I hC (by omega) R
    obtain ⟨g2, f2, I2⟩ := ih (i + 1) k g1 (A ++ [s]) hr' (by omega) (by omega) (by rw [List.length_append, List.length_singleton]; omega) I1
    refine ⟨g2, ?_, by rw [List.append_assoc] at I2; exact I2⟩
    unfold lp_X3_together_80
    rw [g_151_9 c hn2, fI_c (I.2.1 151 (by omega)), e9, Option.bind_some, if_neg (fun z => by have := (ni_le (by omega) (by omega)).mp z; omega)]
    simp only [g_151_8 c hn2, Option.bind_some, gl_153 c hn2, ge_153 c hn2, i2, ti, if_true, er', cn, f1, ni_1]
    rw [if_neg (show ¬ (30 : Int32) ≤ ni i from fun z => by have := (ni_le (a := 30) (by omega) (by omega)).mp z; omega)]
    exact f2
end TOGC

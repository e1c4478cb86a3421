/-! ===== the model reads a text: its loops ===== -/
section LOOPM
variable {K n : Nat} {b : Nat → Nat} {N : Nat}
def bT (v : Int32) : Nat := v.toBitVec.toNat % 256
theorem bT_lt (v : Int32) : bT v < 256 := Nat.mod_lt _ (by decide)
theorem bT_and (v : Int32) : v &&& 255 = ni (bT v) := by
  refine Int32.toBitVec_inj.mp (BitVec.eq_of_toNat_eq ?_)
  rw [Int32.toBitVec_and, BitVec.toNat_and]
  show v.toBitVec.toNat &&& 255 = (v.toBitVec.toNat % 256) % 2 ^ 32
  rw [show (255 : Nat) = 2 ^ 8 - 1 by decide, Nat.and_two_pow_sub_one_eq_mod]
  omega
theorem bT_nar (v : Int32) : vp_nar .byte v = sb (bT v) := by
  rw [← sb_nar (bT v) (bT_lt v)]
  have e : v.toInt8 = Int8.ofBitVec (BitVec.ofNat 8 (bT v)) := by
    refine Int8.toBitVec_inj.mp (BitVec.eq_of_toNat_eq ?_)
    show (v.toBitVec.signExtend 8).toNat = (bT v) % 2 ^ 8
    rw [BitVec.signExtend_eq_setWidth_of_le _ (by decide), BitVec.toNat_setWidth]
    unfold bT
    omega
  show v.toInt8.toInt32 = _
  rw [e]
theorem z_copyT (hn : 208 ≤ n) (l2 : Int32) (hN : N ≤ 900) : ∀ (m i k : Nat) (g : mm_H), i + m = N → m < k → PS g → ∃ g', lp_X11_reads_2 K n 159 (ni N) l2 k (ni i) g = some g' ∧ PS g' ∧ (∀ a, a ≠ 199 → g' a = g a) ∧ (∀ j, j < i → iA g' 199 j = iA g 199 j) ∧ ∀ j, i ≤ j → j < N → iA g' 199 j = sb (bT (iA g 198 j)) := by
  intro m
  induction m with
  | zero =>
    intro i k g hi hk c
    obtain ⟨k, rfl⟩ : ∃ y, k = y + 1 := ⟨k - 1, by omega⟩
    unfold lp_X11_reads_2
    rw [if_pos ((ni_le (by omega) (by omega)).mpr (by omega))]
    exact ⟨g, rfl, c, fun _ _ => rfl, fun _ _ => rfl, fun j h1 h2 => by omega⟩
  | succ m ih =>
    intro i k g hi hk c
    obtain ⟨k, rfl⟩ : ∃ y, k = y + 1 := ⟨k - 1, by omega⟩
    have i9 : inb (ni i) 900 = true := ni_inb (by omega) (by omega)
    have ti : (ni i).toNatClampNeg = i := ni_tn (by omega)
    have c1 : PS (mm_si g 199 i (vp_nar .byte (iA g 198 i))) := ps_199 c _ _
    obtain ⟨g', f, c', o', lo, hi'⟩ := ih (i + 1) k _ (by omega) (by omega) c1
    refine ⟨g', ?_, c', fun a ha => (o' a ha).trans (mm_si_n ha), fun j hj => ?_, fun j h1 h2 => ?_⟩
    · unfold lp_X11_reads_2
      rw [if_neg (fun z => by have := (ni_le (by omega) (by omega)).mp z; omega)]
      simp only [g_159_53 c hn, g_159_52 c hn, Option.bind_some, ge_198 c hn, i9, ti, if_true, pe_199 c hn, ni_1]
      exact f
    · rw [lo j (by omega), is_199 c, upd_n (by omega)]
    · by_cases q : j = i
      · subst q
        rw [lo j (by omega), is_199 c, upd_s, bT_nar]
      · rw [hi' j (by omega) h2, iA_si_n (by decide)]
theorem z_clear (hn : 208 ≤ n) (l3 l4 l5 : Int32) : ∀ (m i k : Nat) (g : mm_H), i + m = 300 → m < k → PS g → (∀ j, j < i → iA g 197 j = 0) → ∃ g', lp_X11_reads_116 K n 159 l3 l4 l5 k (ni i) g = some g' ∧ PS g' ∧ (∀ a, a ≠ 197 → g' a = g a) ∧ ∀ j, j < 300 → iA g' 197 j = 0 := by
  intro m
  induction m with
  | zero =>
    intro i k g hi hk c e
    obtain ⟨k, rfl⟩ : ∃ y, k = y + 1 := ⟨k - 1, by omega⟩
    unfold lp_X11_reads_116
    rw [if_pos (show (300 : Int32) ≤ ni i from (ni_le (a := 300) (by omega) (by omega)).mpr (by omega))]
    exact ⟨g, rfl, c, fun _ _ => rfl, fun j hj => e j (by omega)⟩
  | succ m ih =>
    intro i k g hi hk c e
    obtain ⟨k, rfl⟩ : ∃ y, k = y + 1 := ⟨k - 1, by omega⟩
    have i9 : inb (ni i) 300 = true := ni_inb (by omega) (by omega)
    have ti : (ni i).toNatClampNeg = i := ni_tn (by omega)
    have nr : vp_nar .boolean (0 : Int32) = 0 := by decide
    have c1 : PS (mm_si g 197 i 0) := ps_197 c _ _
    obtain ⟨g', f, c', o', r⟩ := ih (i + 1) k _ (by omega) (by omega) c1 (fun j hj => by
      rw [is_197 c]
      by_cases q : j = i
      · subst q; rw [upd_s]
      · rw [upd_n q]; exact e j (by omega))
    refine ⟨g', ?_, c', fun a ha => (o' a ha).trans (mm_si_n ha), r⟩
    unfold lp_X11_reads_116
    rw [if_neg (show ¬ (300 : Int32) ≤ ni i from fun z => by have := (ni_le (a := 300) (by omega) (by omega)).mp z; omega)]
    simp only [g_159_51 c hn, Option.bind_some, pe_197 c hn, i9, ti, if_true, nr, ni_1]
    exact f
theorem row_mv {h g : mm_H} {lo hi a b' : Nat} {st : Stm} (e1 : ∀ x, 182 ≤ x → x ≤ 190 → iA g x b' = iA h x a) (e2 : ∀ x, 191 ≤ x → x ≤ 196 → iA g x = iA h x) (R : rowR h lo hi a st) : rowR g lo hi b' st := by
  unfold rowR at R ⊢
  rw [e1 182 (by omega) (by omega), e1 183 (by omega) (by omega), e1 184 (by omega) (by omega), e1 185 (by omega) (by omega), e1 186 (by omega) (by omega), e1 187 (by omega) (by omega), e1 188 (by omega) (by omega), e1 189 (by omega) (by omega), e1 190 (by omega) (by omega)]
  obtain ⟨r1, r2, r3, r4, r5, r6, r7⟩ := R
  refine ⟨r1, r2, r3, r4, r5, r6, ?_⟩
  rcases r7 with r7 | ⟨z1, q, z2, z3⟩
  · exact Or.inl r7
  · exact Or.inr ⟨z1, q, z2, nodeR_ag (fun x h1 h2 i _ _ => by rw [e2 x h1 h2]) _ _ _ z3⟩
/-- the rows are put together -/
def CQ (h g : mm_H) : Prop := PS g ∧ (∀ a, a < 182 ∨ 190 < a → g a = h a) ∧ ∀ a, 182 ≤ a → a ≤ 190 → ∀ i, i < 3900 → iA g a i = iA h a i
theorem z_cl4 (hn : 208 ≤ n) {base tot : Nat} (hb : base ≤ 300) (ht : tot ≤ 300) {hi : Nat} {S : Nat → Bool} (hS : ∀ v, base ≤ v → S v = false) : ∀ (rest A : List Stm) (i k : Nat) (g : mm_H), i + rest.length = tot → A.length ≤ i → rest.length < k → PS g → iA g 178 13 = ni tot → (∀ v, v < 300 → iA g 197 v = if S v = true then 1 else 0) → (∀ t st, A[t]? = some st → rowR g 84500 hi (3900 + t) st) → (∀ t st, rest[t]? = some st → rowR g 84500 hi (3900 + (i + t)) st) → ∃ g', lp_X11_closes_4 K n 159 (ni base) k (ni A.length) (ni i) g = some (ni (A ++ kptS S rest i).length, g') ∧ CQ g g' ∧ ∀ t st, (A ++ kptS S rest i)[t]? = some st → rowR g' 84500 hi (3900 + t) st := by
  have i13 : inb (13 : Int32) 14 = true := by decide
  have t13 : (13 : Int32).toNatClampNeg = 13 := by decide
  intro rest
  induction rest with
  | nil =>
    intro A i k g hit hA hk c e178 e197 rA rr
    obtain ⟨k, rfl⟩ : ∃ y, k = y + 1 := ⟨k - 1, by omega⟩
    simp only [List.length_nil] at hit
    unfold lp_X11_closes_4
    simp only [g_159_32 c hn, Option.bind_some, ge_178 c hn, i13, t13, if_true, e178]
    rw [if_pos ((ni_le (by omega) (by omega)).mpr (by omega))]
    refine ⟨g, ?_, ⟨c, fun _ _ => rfl, fun _ _ _ _ _ => rfl⟩, ?_⟩
    · show some (ni A.length, g) = some (ni (A ++ []).length, g)
      rw [List.append_nil]
    · show ∀ t st, (A ++ [])[t]? = some st → _
      rw [List.append_nil]
      exact rA
  | cons st rest ih =>
    intro A i k g hit hA hk c e178 e197 rA rr
    obtain ⟨k, rfl⟩ : ∃ y, k = y + 1 := ⟨k - 1, by omega⟩
    simp only [List.length_cons] at hit hk
    have i3 : inb (ni i) 300 = true := ni_inb (by omega) (by omega)
    have ti : (ni i).toNatClampNeg = i := ni_tn (by omega)
    have ad1 : (3900 : Int32) + ni i = ni (3900 + i) := ni_add 3900 i
    have ad2 : (3900 : Int32) + ni A.length = ni (3900 + A.length) := ni_add 3900 A.length
    have R : rowR g 84500 hi (3900 + i) st := rr 0 st rfl
    unfold lp_X11_closes_4
    simp only [g_159_32 c hn, Option.bind_some, ge_178 c hn, i13, t13, if_true, e178]
    rw [if_neg (fun z => by have := (ni_le (by omega) (by omega)).mp z; omega)]
    -- it is kept
    have keep : S i = false → ∃ g', ((ckq g n 159 10).bind fun _ => (q_X11_shifts K g n 159 (3900 + ni i) (3900 + ni A.length) 0).bind fun v9 => lp_X11_closes_4 K n 159 (ni base) k (ni A.length + 1) (ni i + 1) v9) = some (ni (A ++ kptS S (st :: rest) i).length, g') ∧ CQ g g' ∧ ∀ t st', (A ++ kptS S (st :: rest) i)[t]? = some st' → rowR g' 84500 hi (3900 + t) st' := fun q => by
      obtain ⟨g1, f1, c1, o1, w1, w2⟩ := z_shifts (K := K) c hn (a := 3900 + i) (b := 3900 + A.length) (by omega) (by omega) 0
      have w : ∀ x, 182 ≤ x → x ≤ 190 → iA g1 x = upd (iA g x) (3900 + A.length) (iA g x (3900 + i)) := fun x h1 h2 => by
        by_cases z : x = 190
        · subst z
          rw [w2]
          congr 1
          unfold shV
          split
          · rename_i z; exact z.symm
          · exact Int32.add_zero _
        · exact w1 x h1 (by omega)
      have eq : kptS S (st :: rest) i = st :: kptS S rest (i + 1) := by
        conv => lhs; unfold kptS
        rw [if_neg (by rw [q]; decide)]
      have en : ∀ x, 191 ≤ x → x ≤ 196 → iA g1 x = iA g x := fun x h1 h2 => iA_c (o1 x (by omega))
      have rA' : ∀ t st', (A ++ [st])[t]? = some st' → rowR g1 84500 hi (3900 + t) st' := fun t st' e => by
        by_cases z : t < A.length
        · rw [List.getElem?_append_left z] at e
          exact row_mv (fun x h1 h2 => by rw [w x h1 h2, upd_n (by omega)]) en (rA t st' e)
        · rw [List.getElem?_append_right (by omega)] at e
          have h2 := (List.getElem?_eq_some_iff.mp e).1
          rw [List.length_singleton] at h2
          have h3 : t = A.length := by omega
          subst h3
          rw [Nat.sub_self] at e
          cases e
          exact row_mv (fun x h1 h2 => by rw [w x h1 h2, upd_s]) en R
      have rr' : ∀ t st', rest[t]? = some st' → rowR g1 84500 hi (3900 + (i + 1 + t)) st' := fun t st' e => by
        have h1 := rr (t + 1) st' e
        rw [show i + (t + 1) = i + 1 + t by omega] at h1
        exact row_mv (fun x h1 h2 => by rw [w x h1 h2, upd_n (by omega)]) en h1
      obtain ⟨g2, f2, cq, r2⟩ := ih (A ++ [st]) (i + 1) k g1 (by omega) (by rw [List.length_append, List.length_singleton]; omega) (by omega) c1 (by rw [iA_c (o1 178 (by omega))]; exact e178) (fun v hv => by rw [iA_c (o1 197 (by omega))]; exact e197 v hv) rA' rr'
      have el : (A ++ [st]) ++ kptS S rest (i + 1) = A ++ kptS S (st :: rest) i := by rw [eq, List.append_assoc]; rfl
      rw [el] at f2 r2
      rw [List.length_append, List.length_singleton] at f2
      refine ⟨g2, ?_, ⟨cq.1, fun a h => (cq.2.1 a h).trans (o1 a (by omega)), fun a h1 h2 j hj => (cq.2.2 a h1 h2 j hj).trans (by rw [w a h1 h2, upd_n (by omega)])⟩, r2⟩
      rw [gq_159 c hn, Option.bind_some, ad1, ad2, f1, Option.bind_some, ni_1, ni_1]
      exact f2
    by_cases q : base ≤ i
    · rw [if_pos ((ni_le (by omega) (by omega)).mpr q)]
      exact keep (hS i q)
    · rw [if_neg (fun z => q ((ni_le (by omega) (by omega)).mp z))]
      simp only [g_159_51 c hn, Option.bind_some, ge_197 c hn, i3, ti, if_true, e197 i (by omega)]
      by_cases z : S i = true
      · have eq : kptS S (st :: rest) i = kptS S rest (i + 1) := by
          conv => lhs; unfold kptS
          rw [if_pos z]
        rw [if_neg (by rw [if_pos z]; decide), ni_1, eq]
        exact ih A (i + 1) k g (by omega) (by omega) (by omega) c e178 e197 rA (fun t st' e => by
          have := rr (t + 1) st' e
          rw [show i + 1 + t = i + (t + 1) by omega]
          exact this)
      · rw [if_pos (by rw [if_neg z])]
        exact keep (by
          cases hh : S i with
          | true => exact absurd hh z
          | false => rfl)
theorem kptS_fr {S : Nat → Bool} : ∀ (M : List Stm) (i : Nat), (∀ v, i ≤ v → S v = false) → kptS S M i = M
  | [], _, _ => rfl
  | s :: M, i, h => by
    unfold kptS
    rw [if_neg (by rw [h i (Nat.le_refl _)]; decide), kptS_fr M (i + 1) (fun v hv => h v (by omega))]
theorem kptS_app {S : Nat → Bool} : ∀ (L M : List Stm) (i : Nat), kptS S (L ++ M) i = kptS S L i ++ kptS S M (i + L.length)
  | [], M, i => rfl
  | s :: L, M, i => by
    have ih := kptS_app L M (i + 1) (S := S)
    show (if S i = true then kptS S (L ++ M) (i + 1) else s :: kptS S (L ++ M) (i + 1)) = (if S i = true then kptS S L (i + 1) else s :: kptS S L (i + 1)) ++ kptS S M (i + (L.length + 1))
    rw [show i + (L.length + 1) = i + 1 + L.length by omega, ih]
    split <;> rfl
theorem z_closes (hK : 3000 ≤ K) (hn : 208 ≤ n) {L M : List Stm} (hL : L.length ≤ 270) (hM : M.length ≤ 30) {hi : Nat} {S : Nat → Bool} (hS : ∀ v, L.length ≤ v → S v = false) {g : mm_H} (c : PS g) (e178 : iA g 178 13 = ni (L.length + M.length)) (e197 : ∀ v, v < 300 → iA g 197 v = if S v = true then 1 else 0) (rL : ∀ j st, L[j]? = some st → rowR g 84500 hi (3900 + j) st) (rM : ∀ j st, M[j]? = some st → rowR g 84500 hi (3900 + (L.length + j)) st) : ∃ g', q_X11_closes K g n 159 (ni L.length) = some g' ∧ PS g' ∧ (∀ a, a ≠ 178 → a < 182 ∨ 190 < a → g' a = g a) ∧ (∀ i, i ≠ 13 → iA g' 178 i = iA g 178 i) ∧ iA g' 178 13 = ni (kptS S L 0 ++ M).length ∧ (∀ a, 182 ≤ a → a ≤ 190 → ∀ i, i < 3900 → iA g' a i = iA g a i) ∧ ∀ t st, (kptS S L 0 ++ M)[t]? = some st → rowR g' 84500 hi (3900 + t) st := by
  have i13 : inb (13 : Int32) 14 = true := by decide
  have t13 : (13 : Int32).toNatClampNeg = 13 := by decide
  have ek : kptS S (L ++ M) 0 = kptS S L 0 ++ M := by
    rw [kptS_app, kptS_fr M _ (fun v hv => hS v (by omega))]
  obtain ⟨g1, f1, ⟨c1, o1, w1⟩, r1⟩ := z_cl4 (K := K) hn (base := L.length) (tot := L.length + M.length) (by omega) (by omega) (hi := hi) hS (L ++ M) [] 0 K g (by rw [List.length_append]; omega) (Nat.zero_le _) (by rw [List.length_append]; omega) c e178 e197 (fun t st e => by cases e) (fun t st e => by
    rw [Nat.zero_add]
    by_cases q : t < L.length
    · rw [List.getElem?_append_left q] at e
      exact rL t st e
    · rw [List.getElem?_append_right (by omega)] at e
      have := rM (t - L.length) st e
      rw [show L.length + (t - L.length) = t by omega] at this
      exact this)
  rw [List.nil_append, ek] at f1 r1
  have f1' : lp_X11_closes_4 K n 159 (ni L.length) K 0 0 g = some (ni (kptS S L 0 ++ M).length, g1) := f1
  have c2 : PS (mm_si g1 178 13 (ni (kptS S L 0 ++ M).length)) := ps_178 c1 _ _
  have e2 : iA (mm_si g1 178 13 (ni (kptS S L 0 ++ M).length)) 178 = upd (iA g1 178) 13 (ni (kptS S L 0 ++ M).length) := is_178 c1 _ _
  refine ⟨mm_si g1 178 13 (ni (kptS S L 0 ++ M).length), ?_, c2, fun a h1 h2 => (mm_si_n h1).trans (o1 a h2), fun i hi => by rw [e2, upd_n hi, iA_c (o1 178 (by omega))], by rw [e2, upd_s], fun a h1 h2 i hi => by rw [iA_si_n (by omega)]; exact w1 a h1 h2 i hi, fun t st e => row_mv (fun x h1 h2 => by rw [iA_si_n (by omega)]) (fun x h1 h2 => by rw [iA_si_n (by omega)]) (r1 t st e)⟩
  unfold q_X11_closes
  simp only [f1', Option.bind_some, g_159_32 c1 hn, pe_178 c1 hn, i13, t13, if_true]
end LOOPM

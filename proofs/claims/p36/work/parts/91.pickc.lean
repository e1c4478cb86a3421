/-! ===== the class's words, numbers, signs ===== -/
section PICKC
variable {K n : Nat} {h : mm_H} {b : Nat → Nat} {N : Nat}
theorem tx_small : ∀ i, i < 15 → (txN i).length < 100 ∧ (∀ j, j < (txN i).length → (txN i).getD j 0 < 128) ∧ ni (txN i).length >>> ((0 : Int32) &&& 31) = ni (txN i).length := by decide +kernel
theorem ch_small : ∀ c, c < 128 → ((Int32.toUInt32 (ni c &&& 255)) % 65536).toInt32 = ni c := by decide +kernel
theorem ckn_b : ckn .byte 0 = some () := rfl
theorem ckn_c {c : Nat} (hc : c < 128) : ckn .char (ni c) = some () := by
  have e : ∀ c, c < 128 → vp_nar .char (ni c) = ni c := by decide +kernel
  have e' := e c hc
  unfold ckn
  refine if_pos ?_
  unfold vp_nar at e'
  show narrow .char (.int (ni c)) = .int (ni c)
  unfold narrow at e' ⊢
  exact congrArg Value.int e'
theorem z_slen (hn : 159 ≤ n) (T : TXT h) {i : Nat} (hi : i < 15) : q_J0_length_8abf5 K h n (3 + i) = some (ni (txN i).length) := by
  have e1 : strV h n (3 + i) = some (18 + i) := by
    unfold strV
    rw [if_pos (by omega)]
    exact congrArg some (by omega)
  have e2 : strC h n (3 + i) = some 0 := if_pos (by omega)
  have e3 : ckS h n (3 + i) = some () := if_pos (by omega)
  have e4 : lenA h n (18 + i) 2 = some (ni (txN i).length) := by
    unfold lenA
    rw [if_neg (by omega), if_pos (by omega), T i hi]
  unfold q_J0_length_8abf5 q_J0_coder_7d493
  simp only [e1, e2, e3, e4, Option.bind_some, ckn_b, (tx_small i hi).2.2]
theorem z_char (hn : 159 ≤ n) (T : TXT h) {i j c : Nat} (hi : i < 15) (hj : (txN i)[j]? = some c) : q_J0_charAt_5068e K h n (3 + i) (ni j) = some (ni c) := by
  have hjl : j < (txN i).length := (List.getElem?_eq_some_iff.mp hj).1
  obtain ⟨t1, t2, -⟩ := tx_small i hi
  have ec : (txN i).getD j 0 = c := by rw [List.getD_eq_getElem?_getD, hj]; rfl
  have hc : c < 128 := by rw [← ec]; exact t2 j hjl
  have e1 : strV h n (3 + i) = some (18 + i) := by
    unfold strV
    rw [if_pos (by omega)]
    exact congrArg some (by omega)
  have e2 : strC h n (3 + i) = some 0 := if_pos (by omega)
  have e3 : ckS h n (3 + i) = some () := if_pos (by omega)
  have e4 : lenA h n (18 + i) 2 = some (ni (txN i).length) := by
    unfold lenA
    rw [if_neg (by omega), if_pos (by omega), T i hi]
  have e5 : ldB h n (18 + i) (ni j) = some (ni c) := by
    unfold ldB
    rw [if_pos (by omega), T i hi]
    show (if inb (ni j) (txN i).length = true then some (ni ((txN i).getD (ni j).toNatClampNeg 0)) else none) = _
    rw [if_pos (ni_inb (by omega) hjl), ni_tn (by omega), ec]
  have e6 : q_J0_checkIndex_df160 K h n (ni j) (ni (txN i).length) = some () := by
    unfold q_J0_checkIndex_df160 q_J3_checkIndex_8e157
    rw [if_neg (ni_pos (by omega)), if_pos ((ni_lt (by omega) (by omega)).mpr hjl)]
    rfl
  unfold q_J0_charAt_5068e q_J0_isLatin1_aae02 q_J1_charAt_3b067
  simp only [e1, e2, e3, e4, e5, e6, Option.bind_some, if_true, ch_small c hc, ckn_c hc]
  rw [if_neg (by decide)]
def paF (b : Nat → Nat) (N s e : Nat) : Nat → Nat → List Nat → Nat × Nat
  | pl, p, [] => if p = e then (0, pl) else (1, pl + 1)
  | pl, p, c :: r => if c = 32 then (if p = e then (0, pl) else paF b N s e (pl + 1) s r) else paF b N s e pl (if p < e ∧ b p = c then p + 1 else N + 1) r
theorem z_pa (c : PS h) (hn : 159 ≤ n) (T : TXT h) (t : TX b N h) {s e i : Nat} (e3 : fI h 151 3 = ni s) (e4 : fI h 151 4 = ni e) (hs : s ≤ e) (he : e ≤ N) (hi : i < 15) : ∀ (rest pre : List Nat) (pl p k : Nat), txN i = pre ++ rest → rest.length + 1 < k → p ≤ N + 1 → lp_X3_placeAmong_20 K h n 151 (some (3 + i)) k (ni pl) (ni p) (ni pre.length) = some ((paF b N s e pl p rest).1, ni (paF b N s e pl p rest).2) := by
  have sl := z_slen (K := K) hn T hi
  have e5 : ckS h n (3 + i) = some () := if_pos (by omega)
  have t1 := (tx_small i hi).1
  obtain ⟨-, t2, t3, t4⟩ := id t
  intro rest
  induction rest with
  | nil =>
    intro pre pl p k hL hk hp
    obtain ⟨k, rfl⟩ : ∃ x, k = x + 2 := ⟨k - 2, by omega⟩
    rw [List.append_nil] at hL
    unfold lp_X3_placeAmong_20 paF
    simp only [Option.bind_some, e5, sl, ← hL]
    rw [if_neg Int32.lt_irrefl, if_pos (Int32.le_refl _)]
    simp only [g_151_4 c hn, e4, g_151_3 c hn, e3, Option.bind_some, ni_1]
    by_cases q : p = e
    · rw [if_pos q, if_pos (by rw [q])]
    · rw [if_neg q, if_neg (fun z => q ((ni_inj (by omega) (by omega)).mp z))]
      unfold lp_X3_placeAmong_20
      simp only [Option.bind_some, e5, sl]
      rw [if_pos ((ni_lt (by omega) (by omega)).mpr (by omega))]
  | cons x rest ih =>
    intro pre pl p k hL hk hp
    obtain ⟨k, rfl⟩ : ∃ y, k = y + 1 := ⟨k - 1, by omega⟩
    rw [List.length_cons] at hk
    have hlen : (txN i).length = pre.length + (rest.length + 1) := by rw [hL, List.length_append, List.length_cons]
    have hget : (txN i)[pre.length]? = some x := by rw [hL, List.getElem?_append_right (Nat.le_refl _), Nat.sub_self]; rfl
    have hL2 : txN i = (pre ++ [x]) ++ rest := by rw [hL, List.append_assoc]; rfl
    have hpl : (pre ++ [x]).length = pre.length + 1 := by rw [List.length_append]; rfl
    have ch := z_char (K := K) hn T hi hget
    have hx : x < 128 := by
      have := (tx_small i hi).2.1 pre.length (by omega)
      rw [List.getD_eq_getElem?_getD, hget] at this
      exact this
    have x32 : (ni x = 32) = (x = 32) := propext (ni_inj (b := 32) (by omega) (by omega))
    have nx := fun pl p hp => ih (pre ++ [x]) pl p k hL2 (by omega) hp
    rw [hpl] at nx
    unfold lp_X3_placeAmong_20 paF
    simp only [Option.bind_some, e5, sl]
    rw [if_neg (fun q => by have := (ni_lt (by omega) (by omega)).mp q; omega), if_neg (fun q => by have := (ni_le (by omega) (by omega)).mp q; omega)]
    simp only [ch, Option.bind_some, x32, g_151_4 c hn, e4, g_151_3 c hn, e3, ni_1, g_151_1 c hn, t2, gq_151 c hn]
    by_cases q32 : x = 32
    · rw [if_pos q32, if_pos q32]
      by_cases q : p = e
      · rw [if_pos q, if_pos (by rw [q])]
      · rw [if_neg q, if_neg (fun z => q ((ni_inj (by omega) (by omega)).mp z))]
        exact nx (pl + 1) s (by omega)
    · rw [if_neg q32, if_neg q32]
      by_cases q : e ≤ p
      · rw [if_pos ((ni_le (by omega) (by omega)).mpr q), if_neg (fun z => by omega)]
        exact nx pl (N + 1) (by omega)
      · rw [if_neg (fun z => q ((ni_le (by omega) (by omega)).mp z)), z_byteAt (K := K) c hn t (show p < N by omega), Option.bind_some]
        have hb := (t4 p (by omega)).2
        have eb : (ni (b p) = ni x) = (b p = x) := propext (ni_inj (by omega) (by omega))
        simp only [eb]
        by_cases q2 : b p = x
        · rw [if_pos q2, if_pos ⟨by omega, q2⟩]
          exact nx pl (p + 1) (by omega)
        · rw [if_neg q2, if_neg (fun z => q2 z.2)]
          exact nx pl (N + 1) (by omega)
/-- words that stand a blank apart -/
def spl : List Nat → List (List Nat)
  | [] => [[]]
  | c :: r => if c = 32 then [] :: spl r else match spl r with
    | [] => [[c]]
    | w :: ws => (c :: w) :: ws
def pkL (b : Nat → Nat) (N s e : Nat) : Nat → List (List Nat) → Nat × Nat
  | pl, [] => (1, pl)
  | pl, w :: ws => if mt b N e s w = e then (0, pl) else pkL b N s e (pl + 1) ws
theorem spl_ne (l : List Nat) : spl l ≠ [] := by
  cases l with
  | nil => exact fun q => by cases q
  | cons c r =>
    unfold spl
    split
    · exact fun q => by cases q
    · split
      · exact fun q => by cases q
      · exact fun q => by cases q
theorem paF_spl (s e : Nat) : ∀ (l : List Nat) (pl p : Nat), paF b N s e pl p l = match spl l with
    | [] => (1, pl)
    | w :: ws => if mt b N e p w = e then (0, pl) else pkL b N s e (pl + 1) ws
  | [], pl, p => rfl
  | c :: r, pl, p => by
    unfold paF spl
    by_cases q : c = 32
    · rw [if_pos q, if_pos q]
      show (if p = e then _ else _) = (if p = e then _ else _)
      by_cases z : p = e
      · rw [if_pos z, if_pos z]
      · rw [if_neg z, if_neg z, paF_spl s e r]
        cases hr : spl r with
        | nil => exact absurd hr (spl_ne r)
        | cons w ws => rfl
    · rw [if_neg q, if_neg q, paF_spl s e r]
      cases hr : spl r with
      | nil => exact absurd hr (spl_ne r)
      | cons w ws => rfl
theorem pkL_W {s : Nat} (hk : tkk b N s = 1) : ∀ (ws : List (List Nat)) (i : Nat), pkW b N s ws i = if (pkL b N s (tee b N s) i ws).1 = 0 then some (pkL b N s (tee b N s) i ws).2 else none
  | [], i => rfl
  | w :: ws, i => by
    unfold pkW pkL isW
    rw [decide_eq_true hk, Bool.true_and]
    by_cases q : mt b N (tee b N s) s w = tee b N s
    · rw [if_pos (decide_eq_true q), if_pos q]
      rfl
    · rw [if_neg (by rw [decide_eq_false q]; decide), if_neg q]
      exact pkL_W hk ws (i + 1)
theorem pkW_no {s : Nat} (hk : tkk b N s ≠ 1) : ∀ (ws : List (List Nat)) (i : Nat), pkW b N s ws i = none
  | [], _ => rfl
  | w :: ws, i => by
    unfold pkW isW
    rw [decide_eq_false hk, Bool.false_and, if_neg Bool.false_ne_true]
    exact pkW_no hk ws (i + 1)
theorem pkL_01 (s e : Nat) : ∀ (ws : List (List Nat)) (i : Nat), (pkL b N s e i ws).1 = 0 ∨ (pkL b N s e i ws).1 = 1
  | [], _ => Or.inr rfl
  | w :: ws, i => by
    unfold pkL
    split
    · exact Or.inl rfl
    · exact pkL_01 s e ws (i + 1)
def wds (i : Nat) : List (List Nat) := spl (txN i)
def opI : Option Nat → Int32
  | none => -1
  | some i => ni i
theorem z_place (hK : 3000 ≤ K) (c : PS h) (hn : 159 ≤ n) (T : TXT h) (t : TX b N h) {s i : Nat} (hi : i < 15) (k : Tk b N h (.inr s)) : q_X3_placeAmong K h n 151 (some (3 + i)) = some (opI (pkW b N s (wds i) 0)) := by
  obtain ⟨k0, k1, k2, k3, k4⟩ := k
  have t3 := t.2.2.1
  have t1 := (tx_small i hi).1
  unfold q_X3_placeAmong
  rw [g_151_2 c hn, k1, Option.bind_some]
  have hkl : tkk b N s ≤ 5 := by
    unfold tkk
    split
    · omega
    · exact (kd_le _).2
  by_cases q : tkk b N s = 1
  · rw [if_pos (by rw [q]; rfl), g_151_3 c hn, k2, Option.bind_some]
    have lp := z_pa (K := K) c hn T t k2 k3 (tee_ge s) (tee_le k0) hi (txN i) [] 0 s K rfl (by omega) (by omega)
    have lp' : lp_X3_placeAmong_20 K h n 151 (some (3 + i)) K 0 (ni s) 0 = some ((paF b N s (tee b N s) 0 s (txN i)).1, ni (paF b N s (tee b N s) 0 s (txN i)).2) := lp
    rw [lp', Option.bind_some, pkL_W q]
    have e : paF b N s (tee b N s) 0 s (txN i) = pkL b N s (tee b N s) 0 (wds i) := by
      rw [paF_spl]
      unfold wds
      cases hr : spl (txN i) with
      | nil => exact absurd hr (spl_ne _)
      | cons w ws => rfl
    rw [e]
    rcases pkL_01 (b := b) (N := N) s (tee b N s) (wds i) 0 with z | z
    · rw [if_pos z, if_pos z]
      rfl
    · rw [if_neg (show ¬ (pkL b N s (tee b N s) 0 (wds i)).1 = 0 by omega), if_pos z, if_neg (show ¬ (pkL b N s (tee b N s) 0 (wds i)).1 = 0 by omega)]
      rfl
  · rw [if_neg (show ¬ ni (tkk b N s) = (1 : Int32) from fun z => q ((ni_inj (b := 1) (by omega) (by omega)).mp z)), pkW_no q]
    rfl
theorem z_placeF (c : PS h) (hn : 159 ≤ n) {p i : Nat} (k : Tk b N h (.inl p)) : q_X3_placeAmong K h n 151 (some i) = some (-1) := by
  obtain ⟨k0, k1, k2⟩ := k
  unfold q_X3_placeAmong
  rw [g_151_2 c hn, k1, Option.bind_some, if_neg (by decide)]
theorem pkW_lt (s : Nat) : ∀ (ws : List (List Nat)) (i j : Nat), pkW b N s ws i = some j → i ≤ j ∧ j < i + ws.length
  | [], i, j, e => by cases e
  | w :: ws, i, j, e => by
    unfold pkW at e
    rw [List.length_cons]
    split at e
    · cases e; omega
    · have := pkW_lt s ws (i + 1) j e
      omega
theorem wds_len : ∀ i, i < 15 → (wds i).length ≤ 9 := by decide +kernel
theorem pkS_some {s i : Nat} {ws : List (List Nat)} (q : pkW b N s ws 0 = some i) : pkS b N ws (.inr s) = (ni i, .inr (nx b N s)) := by
  show (match pkW b N s ws 0 with | some i => (ni i, (Sum.inr (nx b N s) : RSt)) | none => (-1, Sum.inl s)) = _
  rw [q]
theorem pkS_none {s : Nat} {ws : List (List Nat)} (q : pkW b N s ws 0 = none) : pkS b N ws (.inr s) = (-1, .inl s) := by
  show (match pkW b N s ws 0 with | some i => (ni i, (Sum.inr (nx b N s) : RSt)) | none => (-1, Sum.inl s)) = _
  rw [q]
theorem nmS_yes {s lo hi : Nat} (q : tkk b N s = 2 ∧ tee b N s - s ≤ 5 ∧ lo ≤ vl b N s ∧ vl b N s ≤ hi) : nmS b N lo hi (.inr s) = (ni (vl b N s), .inr (nx b N s)) := if_pos q
theorem nmS_no {s lo hi : Nat} (q : ¬ (tkk b N s = 2 ∧ tee b N s - s ≤ 5 ∧ lo ≤ vl b N s ∧ vl b N s ≤ hi)) : nmS b N lo hi (.inr s) = (-1, .inl s) := if_neg q
/-- a word is picked -/
theorem z_pick (hK : 3000 ≤ K) (c : PS h) (hn : 159 ≤ n) (T : TXT h) (t : TX b N h) {σ : RSt} {i : Nat} (hi : i < 15) (k : Tk b N h σ) : ∃ g, q_X3_pick K h n 151 (some (3 + i)) = some ((pkS b N (wds i) σ).1, g) ∧ LF h g ∧ Tk b N g (pkS b N (wds i) σ).2 := by
  unfold q_X3_pick
  rw [gq_151 c hn, Option.bind_some]
  cases σ with
  | inl p =>
    obtain ⟨g, f1, f2, f3⟩ := z_fail (K := K) c hn t k
    rw [z_placeF c hn k, Option.bind_some, if_pos rfl, Option.bind_some, f1]
    exact ⟨g, rfl, f2, f3⟩
  | inr s =>
    rw [z_place hK c hn T t hi k, Option.bind_some]
    cases q : pkW b N s (wds i) 0 with
    | none =>
      obtain ⟨g, f1, f2, f3⟩ := z_fail (K := K) c hn t k
      rw [pkS_none q]
      rw [if_pos (show opI none = -1 from rfl), Option.bind_some, f1]
      exact ⟨g, rfl, f2, f3⟩
    | some j =>
      obtain ⟨g, f1, f2, f3⟩ := z_step hK c hn t k
      rw [pkS_some q]
      have hj := pkW_lt s (wds i) 0 j q
      have hl := wds_len i hi
      rw [if_neg (show ¬ opI (some j) = -1 from ni_n1 (by omega)), Option.bind_some, f1]
      exact ⟨g, rfl, f2, f3⟩
theorem z_isWord (hK : 3000 ≤ K) (c : PS h) (hn : 159 ≤ n) (T : TXT h) (t : TX b N h) {σ : RSt} {i : Nat} {w : List Nat} (hi : i < 15) (hw : wds i = [w]) (k : Tk b N h σ) : q_X3_isWord K h n 151 (some (3 + i)) = some (if isWS b N w σ = true then 1 else 0) := by
  unfold q_X3_isWord
  rw [gq_151 c hn, Option.bind_some]
  cases σ with
  | inl p =>
    rw [z_placeF c hn k, Option.bind_some, if_neg (by decide), if_neg (fun q => by cases q)]
  | inr s =>
    rw [z_place hK c hn T t hi k, Option.bind_some, hw]
    show (if opI (if isW b N w s = true then some 0 else none) = 0 then _ else _) = some (if isW b N w s = true then 1 else 0)
    by_cases q : isW b N w s = true
    · rw [if_pos q, if_pos q, if_pos (show opI (some 0) = 0 from rfl)]
    · rw [if_neg q, if_neg q, if_neg (show ¬ opI none = 0 from by decide)]
theorem z_isSign (c : PS h) (hn : 159 ≤ n) (t : TX b N h) {σ : RSt} {v : Nat} (hv : v < 256) (k : Tk b N h σ) : q_X3_isSign K h n 151 (ni v) = some (if isG b N v σ = true then 1 else 0) := by
  unfold q_X3_isSign
  cases σ with
  | inl p =>
    obtain ⟨k0, k1, k2⟩ := k
    rw [g_151_2 c hn, k1, Option.bind_some, if_neg (by decide), if_neg (fun q => by cases q)]
  | inr s =>
    obtain ⟨k0, k1, k2, k3, k4⟩ := k
    have t3 := t.2.2.1
    rw [g_151_2 c hn, k1, Option.bind_some]
    have hkl : tkk b N s ≤ 5 := by
      unfold tkk
      split
      · omega
      · exact (kd_le _).2
    show _ = some (if (decide (tkk b N s = 3) && decide (b s = v)) = true then 1 else 0)
    by_cases q : tkk b N s = 3
    · have hsN : s < N := by
        refine Nat.not_le.mp fun z => ?_
        unfold tkk at q
        rw [if_pos z] at q
        omega
      have hb := (t.2.2.2 s hsN).2
      rw [if_pos (by rw [q]; rfl), g_151_3 c hn, k2, Option.bind_some, gq_151 c hn, Option.bind_some, z_byteAt (K := K) c hn t hsN, Option.bind_some, decide_eq_true q, Bool.true_and]
      by_cases z : b s = v
      · rw [if_pos (by rw [z]), if_pos (decide_eq_true z)]
      · rw [if_neg (fun y => z ((ni_inj (by omega) (by omega)).mp y)), if_neg (by rw [decide_eq_false z]; decide)]
    · rw [if_neg (show ¬ ni (tkk b N s) = (3 : Int32) from fun z => q ((ni_inj (b := 3) (by omega) (by omega)).mp z)), decide_eq_false q, Bool.false_and, if_neg Bool.false_ne_true]
theorem z_sign (hK : 3000 ≤ K) (c : PS h) (hn : 159 ≤ n) (t : TX b N h) {σ : RSt} {v : Nat} (hv : v < 256) (k : Tk b N h σ) : ∃ g, q_X3_sign K h n 151 (ni v) = some g ∧ LF h g ∧ Tk b N g (sgS b N v σ) := by
  unfold q_X3_sign sgS
  rw [gq_151 c hn, Option.bind_some, z_isSign (K := K) c hn t hv k, Option.bind_some]
  by_cases q : isG b N v σ = true
  · obtain ⟨g, f1, f2, f3⟩ := z_step hK c hn t k
    rw [if_pos q, if_neg (by decide), Option.bind_some, f1]
    refine ⟨g, rfl, f2, ?_⟩
    rw [if_pos q]
    exact f3
  · obtain ⟨g, f1, f2, f3⟩ := z_fail (K := K) c hn t k
    rw [if_neg q, if_pos rfl, Option.bind_some, f1]
    refine ⟨g, rfl, f2, ?_⟩
    rw [if_neg q]
    exact f3
/-- the bytes of digits -/
theorem dig {s : Nat} (q : tkk b N s = 2) : s < N ∧ ∀ i, s ≤ i → i < tee b N s → kd (b i) = 2 ∧ 48 ≤ b i ∧ b i ≤ 57 := by
  have hsN : s < N := by
    refine Nat.not_le.mp fun z => ?_
    unfold tkk at q
    rw [if_pos z] at q
    omega
  have ks : kd (b s) = 2 := by
    unfold tkk at q
    rw [if_neg (by omega)] at q
    exact q
  refine ⟨hsN, fun i h1 h2 => ?_⟩
  have k2 : kd (b i) = 2 := by
    unfold tee at h2
    rw [if_neg (by omega), if_pos (Or.inr ks), ks] at h2
    by_cases e : i = s
    · rw [e]; exact ks
    · exact rn_in 2 _ (s + 1) i rfl (by omega) h2
  refine ⟨k2, ?_⟩
  unfold kd at k2
  by_cases q1 : 97 ≤ b i ∧ b i ≤ 122
  · rw [if_pos q1] at k2; omega
  rw [if_neg q1] at k2
  by_cases q2 : 48 ≤ b i ∧ b i ≤ 57
  · exact q2
  rw [if_neg q2] at k2
  by_cases q3 : b i = 32 ∨ b i = 10
  · rw [if_pos q3] at k2; omega
  rw [if_neg q3] at k2
  split at k2 <;> omega
theorem vl_lt {s : Nat} (q : tkk b N s = 2) (h5 : tee b N s - s ≤ 5) : ∀ m, m ≤ tee b N s - s → vlF b s m < 100000 := fun m hm => by
  have := vlF_lt (b := b) s m (fun i hi => ((dig q).2 (s + i) (by omega) (by omega)).1)
  have p : 10 ^ m ≤ 10 ^ 5 := Nat.pow_le_pow_right (by omega) (by omega)
  omega
theorem z_value (hK : 3000 ≤ K) (c : PS h) (hn : 159 ≤ n) (t : TX b N h) {s : Nat} (k : Tk b N h (.inr s)) (q : tkk b N s = 2) : q_X3_value K h n 151 = some (if tee b N s - s ≤ 5 then ni (vl b N s) else -1) := by
  obtain ⟨k0, k1, k2, k3, k4⟩ := k
  have t3 := t.2.2.1
  have hl := tee_le (b := b) k0
  have hg := tee_ge (b := b) (N := N) s
  unfold q_X3_value
  rw [g_151_4 c hn, k3, Option.bind_some, g_151_3 c hn, k2, Option.bind_some, ni_sub hg]
  by_cases h5 : tee b N s - s ≤ 5
  · rw [if_pos (show ni (tee b N s - s) ≤ 5 from (ni_le (b := 5) (by omega) (by omega)).mpr h5), if_pos h5, Option.bind_some]
    have lp : ∀ (m i k : Nat), i + m = tee b N s - s → m < k → lp_X3_value_22 K h n 151 k (ni (vlF b s i)) (ni (s + i)) = some (ni (vl b N s)) := by
      intro m
      induction m with
      | zero =>
        intro i k hi hk
        obtain ⟨k, rfl⟩ : ∃ x, k = x + 1 := ⟨k - 1, by omega⟩
        unfold lp_X3_value_22 vl
        rw [g_151_4 c hn, k3, Option.bind_some, if_pos ((ni_le (by omega) (by omega)).mpr (by omega)), show tee b N s - s = i by omega]
      | succ m ih =>
        intro i k hi hk
        obtain ⟨k, rfl⟩ : ∃ x, k = x + 1 := ⟨k - 1, by omega⟩
        have d := (dig q).2 (s + i) (by omega) (by omega)
        unfold lp_X3_value_22
        rw [g_151_4 c hn, k3, Option.bind_some, if_neg (fun z => by have := (ni_le (by omega) (by omega)).mp z; omega), gq_151 c hn, Option.bind_some, z_byteAt (K := K) c hn t (show s + i < N by omega), Option.bind_some]
        have e : ni (vlF b s i) * 10 + ni (b (s + i)) - 48 = ni (vlF b s (i + 1)) := by
          show ni (vlF b s i) * ni 10 + ni (b (s + i)) - ni 48 = _
          rw [ni_mul, ni_add, ni_sub (by omega)]
          congr 1
          show _ = vlF b s i * 10 + (b (s + i) - 48)
          omega
        rw [e, ni_1]
        exact ih (i + 1) k (by omega) (by omega)
    have := lp (tee b N s - s) 0 K (by omega) (by omega)
    have e0 : lp_X3_value_22 K h n 151 K 0 (ni s) = some (ni (vl b N s)) := this
    rw [e0]
    rfl
  · rw [if_neg (show ¬ ni (tee b N s - s) ≤ 5 from fun z => h5 ((ni_le (b := 5) (by omega) (by omega)).mp z)), if_neg h5]
theorem z_number (hK : 3000 ≤ K) (c : PS h) (hn : 159 ≤ n) (t : TX b N h) {σ : RSt} {lo hi : Nat} (hlo : lo ≤ 99999) (hhi : hi ≤ 99999) (k : Tk b N h σ) : ∃ g, q_X3_number K h n 151 (ni lo) (ni hi) = some ((nmS b N lo hi σ).1, g) ∧ LF h g ∧ Tk b N g (nmS b N lo hi σ).2 := by
  obtain ⟨gf, f1, f2, f3⟩ := z_fail (K := K) c hn t k
  unfold q_X3_number
  cases σ with
  | inl p =>
    obtain ⟨k0, k1, k2⟩ := k
    rw [g_151_2 c hn, k1, Option.bind_some, if_neg (by decide), gq_151 c hn, Option.bind_some, f1]
    exact ⟨gf, rfl, f2, f3⟩
  | inr s =>
    have k' := k
    obtain ⟨k0, k1, k2, k3, k4⟩ := k'
    have hkl : tkk b N s ≤ 5 := by
      unfold tkk
      split
      · omega
      · exact (kd_le _).2
    rw [g_151_2 c hn, k1, Option.bind_some]
    by_cases q : tkk b N s = 2
    · rw [if_pos (by rw [q]; rfl), gq_151 c hn, Option.bind_some, z_value hK c hn t k q, Option.bind_some]
      by_cases h5 : tee b N s - s ≤ 5
      · have hv : vl b N s < 100000 := vl_lt q h5 _ (Nat.le_refl _)
        rw [if_pos h5, if_neg (ni_n1 (by omega))]
        by_cases h1 : vl b N s < lo
        · rw [if_pos ((ni_lt (by omega) (by omega)).mpr h1), Option.bind_some, f1, nmS_no (fun z => by omega)]
          exact ⟨gf, rfl, f2, f3⟩
        · rw [if_neg (fun z => h1 ((ni_lt (by omega) (by omega)).mp z))]
          by_cases h2 : vl b N s ≤ hi
          · obtain ⟨g, s1, s2, s3⟩ := z_step hK c hn t k
            rw [if_pos ((ni_le (by omega) (by omega)).mpr h2), Option.bind_some, s1, nmS_yes ⟨q, h5, by omega, h2⟩]
            exact ⟨g, rfl, s2, s3⟩
          · rw [if_neg (fun z => h2 ((ni_le (by omega) (by omega)).mp z)), Option.bind_some, f1, nmS_no (fun z => h2 z.2.2.2)]
            exact ⟨gf, rfl, f2, f3⟩
      · rw [if_neg h5, if_pos rfl, Option.bind_some, f1, nmS_no (fun z => h5 z.2.1)]
        exact ⟨gf, rfl, f2, f3⟩
    · rw [if_neg (show ¬ ni (tkk b N s) = (2 : Int32) from fun z => q ((ni_inj (b := 2) (by omega) (by omega)).mp z)), gq_151 c hn, Option.bind_some, f1, nmS_no (fun z => q z.1)]
      exact ⟨gf, rfl, f2, f3⟩
end PICKC

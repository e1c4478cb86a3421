/-! ===== which set is in force; the call review ===== -/
section FORCE
variable {K n : Nat} {h : mm_H}
theorem JK.one (j : JK h n) {i : Nat} (hi : ni i < fI h 48 7) (hi8 : i < 2147483648) : i < 8 ∧ ∃ p L a b, rA h 156 i = some p ∧ bothR h n p i (i + 1) L a b ∧ iA h 179 i = ni a ∧ iA h 180 i = ni b ∧ a ≤ 2 ∧ b ≤ 1499 := by
  obtain ⟨-, ⟨m, hm, hm8, H⟩, -⟩ := j
  rw [hm] at hi
  have := (ni_lt hi8 (by omega)).mp hi
  exact ⟨by omega, H i this⟩
theorem z_takenAt (c : PS h) (hn : 208 ≤ n) (j : JK h n) {i : Nat} {m : Nat} (hm : fI h 48 7 = ni m) (hm8 : m ≤ 8) (hi : i < m) : q_X10_takenAt K h n 48 (ni i) = some (rA h 156 i) := by
  unfold q_X10_takenAt
  rw [if_neg (ni_pos (by omega)), g_48_7 c hn, hm]
  show (if ni m ≤ ni i then some none else _) = _
  rw [if_neg (fun q => by have := (ni_le (by omega) (by omega)).mp q; omega), if_neg (fun q => by have := (ni_le (a := 8) (by omega) (by omega)).mp q; omega), g_48_6 c hn]
  show (ldR h n 156 5 (ni i)).bind _ = _
  rw [ge_156 c hn, if_pos (ni_inb (by omega) (by omega)), ni_tn (by omega)]
  rfl
theorem z_takenNo : q_X10_takenAt K h n 48 (-1) = some none := by
  unfold q_X10_takenAt
  rw [if_pos (by decide)]
/-- the class's and the model's walk through the sets that are taken -/
theorem z_force (c : PS h) (hn : 208 ≤ n) (j : JK h n) (jn : fI h 159 24 = fI h 48 7) (r d : Int32) {m : Nat} (hm : fI h 48 7 = ni m) (hm8 : m ≤ 8) : ∀ (k i : Nat) (v l : Int32), i ≤ m → m - i < k → ((v = -1 ∧ l = -1) ∨ ∃ w a, w < m ∧ v = ni w ∧ iA h 179 w = ni a ∧ l = ni a ∧ a ≤ 2) → ∃ u, lp_X10_takenOf_8 K h n 48 r d k v l (ni i) = some u ∧ lp_X11_inForce_5 K h n 159 r d k v (ni i) = some u ∧ (u = -1 ∨ ∃ w, w < m ∧ u = ni w) := by
  intro k
  induction k with
  | zero => intro i v l _ q; omega
  | succ k ih =>
    intro i v l hi hk hv
    unfold lp_X10_takenOf_8 lp_X11_inForce_5
    simp only [g_48_7 c hn, g_159_24 c hn, jn, hm, Option.bind_some, gq_48 c hn, g_159_34 c hn, g_159_33 c hn]
    by_cases him : i = m
    · subst him
      rw [if_pos (Int32.le_refl _), if_pos (Int32.le_refl _)]
      refine ⟨v, rfl, rfl, ?_⟩
      rcases hv with ⟨e, -⟩ | ⟨w, a, hw, e, -⟩
      · exact Or.inl e
      · exact Or.inr ⟨w, hw, e⟩
    · have lt : i < m := by omega
      rw [if_neg (fun q => by have := (ni_le (by omega) (by omega)).mp q; omega), if_neg (fun q => by have := (ni_le (by omega) (by omega)).mp q; omega)]
      obtain ⟨-, p, L, a, b, e1, e2, e3, e4, ha, hb⟩ := j.one (i := i) (by rw [hm]; exact (ni_lt (by omega) (by omega)).mpr lt) (by omega)
      obtain ⟨⟨hp, hpn, q, f, e5, -⟩, -⟩ := e2
      have iw : inb (ni i) 14 = true := ni_inb (by omega) (by omega)
      have tw : (ni i).toNatClampNeg = i := ni_tn (by omega)
      have r3 : rdI h n p 6 3 = some (ni b) := rdI_o (by omega) e5 rfl
      have r2 : rdI h n p 6 2 = some (ni a) := rdI_o (by omega) e5 rfl
      simp only [z_takenAt c hn j hm hm8 lt, e1, Option.bind_some, r3, r2, ge_180 c hn, ge_179 c hn, iw, tw, if_true, e3, e4, ni_1]
      by_cases c1 : d < ni b
      · rw [if_pos c1, if_pos c1]
        exact ih (i + 1) v l (by omega) (by omega) hv
      rw [if_neg c1, if_neg c1]
      by_cases c2 : r < ni a
      · rw [if_pos c2, if_pos c2]
        exact ih (i + 1) v l (by omega) (by omega) hv
      rw [if_neg c2, if_neg c2]
      rcases hv with ⟨e, e'⟩ | ⟨w, a', hw, e, ea, e', ha'⟩
      · subst e e'
        rw [if_pos rfl, if_neg (fun q => by have h1 : (ni a).toInt < (-1 : Int32).toInt := Int32.lt_iff_toInt_lt.mp q
                                            rw [ni_int (by omega)] at h1
                                            have e : (-1 : Int32).toInt = -1 := by decide
                                            omega)]
        exact ih (i + 1) (ni i) (ni a) (by omega) (by omega) (Or.inr ⟨i, a, lt, rfl, e3, rfl, ha⟩)
      · subst e e'
        have iw' : inb (ni w) 14 = true := ni_inb (by omega) (by omega)
        have tw' : (ni w).toNatClampNeg = w := ni_tn (by omega)
        rw [if_neg (ni_n1 (a := w) (by omega))]
        simp only [iw', tw', if_true, Option.bind_some, ea]
        by_cases c3 : ni a < ni a'
        · rw [if_pos c3, if_pos c3]
          exact ih (i + 1) _ _ (by omega) (by omega) (Or.inr ⟨w, a', hw, rfl, ea, rfl, ha'⟩)
        · rw [if_neg c3, if_neg c3]
          exact ih (i + 1) (ni i) (ni a) (by omega) (by omega) (Or.inr ⟨i, a, lt, rfl, e3, rfl, ha⟩)
theorem z_takenOf (hK : 3000 ≤ K) (c : PS h) (hn : 208 ≤ n) (j : JK h n) (jn : fI h 159 24 = fI h 48 7) (r d : Int32) : ∃ u, q_X10_takenOf K h n 48 r d = some u ∧ q_X11_inForce K h n 159 r d = some u ∧ ((u = -1 ∧ q_X10_takenAt K h n 48 u = some none) ∨ ∃ w p L a b, u = ni w ∧ w < 8 ∧ q_X10_takenAt K h n 48 u = some (some p) ∧ bothR h n p w (w + 1) L a b) := by
  obtain ⟨-, ⟨m, hm, hm8, H⟩, -⟩ := id j
  obtain ⟨u, e1, e2, e3⟩ := z_force (K := K) c hn j jn r d hm hm8 K 0 (-1) (-1) (Nat.zero_le _) (by omega) (Or.inl ⟨rfl, rfl⟩)
  refine ⟨u, ?_, ?_, ?_⟩
  · unfold q_X10_takenOf
    rw [show lp_X10_takenOf_8 K h n 48 r d K (-1) (-1) 0 = some u from e1]
    rfl
  · unfold q_X11_inForce
    rw [show lp_X11_inForce_5 K h n 159 r d K (-1) 0 = some u from e2]
    rfl
  · rcases e3 with rfl | ⟨w, hw, rfl⟩
    · exact Or.inl ⟨rfl, z_takenNo⟩
    · obtain ⟨p, L, a, b, q1, q2, -⟩ := H w hw
      exact Or.inr ⟨w, p, L, a, b, rfl, by omega, by rw [z_takenAt c hn j hm hm8 hw, q1], q2⟩
theorem row_k {lo hi r : Nat} {s : Stm} (R : rowR h lo hi r s) (hh : hi ≤ 100000) : (iA h 190 r = -1) = (sT s = []) := by
  obtain ⟨-, -, -, -, -, -, q⟩ := R
  rcases q with ⟨e1, e2⟩ | ⟨e1, x, e2, e3⟩
  · rw [e2]
    exact propext ⟨fun _ => e1, fun _ => rfl⟩
  · refine propext ⟨fun e => ?_, fun e => absurd e e1⟩
    rw [e2] at e
    have hx : x < hi := e3.2.1
    exact absurd e (ni_n1 (by omega))
theorem z_alike (c : PS h) (hn : 208 ≤ n) {lo hi r t : Nat} {s u : Stm} (hr : r < 4200) (ht : t < 4200) (R : rowR h lo hi r s) (S : rowR h lo hi t u) (a : sOk s) (b : sOk u) : q_X11_isAlike K h n 159 (ni r) (ni t) = some (if ni (slotN s) = ni (slotN u) then 1 else 0) := by
  obtain ⟨r1, r2, -⟩ := R
  obtain ⟨t1, t2, -⟩ := S
  have ir : inb (ni r) 4200 = true := ni_inb (by omega) hr
  have it : inb (ni t) 4200 = true := ni_inb (by omega) ht
  have nr : (ni r).toNatClampNeg = r := ni_tn (by omega)
  have nt : (ni t).toNatClampNeg = t := ni_tn (by omega)
  have sl := slot_eq a b
  have la := slot_lt a
  have lb := slot_lt b
  have os : sO s ≤ 3 := by
    obtain ⟨a0, a1, a2, a3, a4, -⟩ := a
    omega
  have ou : sO u ≤ 3 := by
    obtain ⟨a0, a1, a2, a3, a4, -⟩ := b
    omega
  have ks : sK s ≤ 8 := a.1
  have ku : sK u ≤ 8 := b.1
  have e0 : (ni (slotN s) = ni (slotN u)) = (sK s = sK u ∧ sO s = sO u) := propext ((ni_inj (by omega) (by omega)).trans sl)
  have e1 : (ni (sK s) = ni (sK u)) = (sK s = sK u) := propext (ni_inj (by omega) (by omega))
  have e2 : (ni (sO s) = ni (sO u)) = (sO s = sO u) := propext (ni_inj (by omega) (by omega))
  unfold q_X11_isAlike
  simp only [g_159_36 c hn, g_159_37 c hn, ge_182 c hn, ge_183 c hn, ir, it, nr, nt, if_true, Option.bind_some, r1, r2, t1, t2, e0, e1, e2]
  by_cases h1 : sK s = sK u
  · by_cases h2 : sO s = sO u
    · rw [if_pos h1, if_pos h2, if_pos ⟨h1, h2⟩]
    · rw [if_pos h1, if_neg h2, if_neg (fun q => h2 q.2)]
  · rw [if_neg h1, if_neg (fun q => h1 q.1)]
/-- the first one behind a place that says another thing of the same -/
theorem z_with (c : PS h) (hn : 208 ≤ n) (z2 : ∃ f, h 2 = .inl (.int, 0, .inl f)) {p z B a b : Nat} {L : List Stm} (hz : z < 14) (hB : B ≤ 9) (R : bothR h n p z B L a b) {i : Nat} {s : Stm} (es : L[i]? = some s) (hs : sT s = []) {r : Nat} (er : ruleC h n r s) (what : Int32) : ∀ (k t : Nat), t ≤ L.length → L.length - t < k → ∃ v, lp_X6_quarrelWith_23 K h n p r k (ni t) = some v ∧ lp_X11_review_69 K h n 159 what (ni z) (ni i) k (ni t) = some v ∧ ((v.1 = 0 ∧ v.2 ≠ -1) ∨ v.1 = 1) := by
  obtain ⟨bk, hL, ok, N, hN, st1, st2, st3⟩ := R
  have hi : i < L.length := (List.getElem?_eq_some_iff.mp es).1
  have os : sOk s := ok s (List.mem_of_getElem? es)
  intro k
  induction k with
  | zero => intro t _ q; omega
  | succ k ih =>
    intro t ht hk
    obtain ⟨hp, hpn, q, f, e5, -⟩ := id bk
    have r1 : rdI h n p 6 1 = some (ni L.length) := rdI_o (by omega) e5 rfl
    have cp : ckq h n p 6 = some () := ckq_o (by omega) e5
    have iz : inb (ni z) 14 = true := ni_inb (by omega) (by omega)
    have tz : (ni z).toNatClampNeg = z := ni_tn (by omega)
    unfold lp_X6_quarrelWith_23 lp_X11_review_69
    simp only [r1, Option.bind_some, g_159_32 c hn, ge_178 c hn, iz, tz, if_true, st1]
    by_cases htl : t = L.length
    · rw [if_pos (by rw [htl]; exact Int32.le_refl _), if_pos (by rw [htl]; exact Int32.le_refl _)]
      exact ⟨_, rfl, rfl, Or.inr rfl⟩
    · have lt : t < L.length := by omega
      rw [if_neg (fun q => by have := (ni_le (by omega) (by omega)).mp q; omega), if_neg (fun q => by have := (ni_le (by omega) (by omega)).mp q; omega)]
      obtain ⟨u, eu⟩ : ∃ u, L[t]? = some u := ⟨L[t], List.getElem?_eq_getElem lt⟩
      have ou : sOk u := ok u (List.mem_of_getElem? eu)
      obtain ⟨x, ex, rx⟩ := book_at (K := K) bk (by omega) eu
      have w1 : (300 : Int32) * ni z + ni i = ni (300 * z + i) := by
        show ni 300 * ni z + ni i = _
        rw [ni_mul, ni_add]
      have w2 : (300 : Int32) * ni z + ni t = ni (300 * z + t) := by
        show ni 300 * ni z + ni t = _
        rw [ni_mul, ni_add]
      have q1 : inb (ni (300 * z + i)) 4200 = true := ni_inb (by omega) (by omega)
      have q2 : inb (ni (300 * z + t)) 4200 = true := ni_inb (by omega) (by omega)
      have n1 : (ni (300 * z + i)).toNatClampNeg = 300 * z + i := ni_tn (by omega)
      have n2 : (ni (300 * z + t)).toNatClampNeg = 300 * z + t := ni_tn (by omega)
      have k1 : (iA h 190 (300 * z + i) = -1) = (sT s = []) := row_k (st3 i s es) (by omega)
      have k2 : (iA h 190 (300 * z + t) = -1) = (sT u = []) := row_k (st3 t u eu) (by omega)
      have cx : ckq h n x 5 = some () := by
        obtain ⟨y1, y2, y3, y4, -⟩ := rx
        exact ckq_o (by omega) y4
      have cr : ckq h n r 5 = some () := by
        obtain ⟨y1, y2, y3, y4, -⟩ := er
        exact ckq_o (by omega) y4
      simp only [cp, ex, Option.bind_some, w1, w2, g_159_44 c hn, ge_190 c hn, q1, q2, n1, n2, if_true, k1, k2, hs, cx, cr, rule_has rx z2 ou, rule_slot rx ou, rule_slot er os, gq_159 c hn, z_alike (K := K) c hn (by omega) (by omega) (st3 i s es) (st3 t u eu) os ou, ni_1]
      have n10 : ¬ (1 : Int32) = 0 := by decide
      by_cases hu : sT u = []
      · simp only [hu, if_true]
        by_cases hq : ni (slotN u) = ni (slotN s)
        · rw [if_pos hq, if_pos hq.symm, if_neg n10]
          exact ⟨_, rfl, rfl, Or.inl ⟨rfl, ni_n1 (by omega)⟩⟩
        · rw [if_neg hq, if_neg (fun e : ni (slotN s) = ni (slotN u) => hq e.symm), if_pos rfl]
          exact ih (t + 1) (by omega) (by omega)
      · simp only [hu, if_false, n10]
        exact ih (t + 1) (by omega) (by omega)
theorem z_without (c : PS h) (hn : 208 ≤ n) {z B : Nat} {L : List Stm} {N : Nat} (hz : z < 14) (hB : B ≤ 9) (hL : L.length ≤ 30 * B) (hN : N ≤ 720 * B) (R : setR h z L N) {i : Nat} {s : Stm} (es : L[i]? = some s) (hs : sT s ≠ []) (what : Int32) : ∀ (k t : Nat), t ≤ L.length → L.length - t < k → ∃ v, lp_X11_review_69 K h n 159 what (ni z) (ni i) k (ni t) = some v ∧ v.1 = 1 := by
  obtain ⟨st1, st2, st3⟩ := R
  have hi : i < L.length := (List.getElem?_eq_some_iff.mp es).1
  intro k
  induction k with
  | zero => intro t _ q; omega
  | succ k ih =>
    intro t ht hk
    have iz : inb (ni z) 14 = true := ni_inb (by omega) (by omega)
    have tz : (ni z).toNatClampNeg = z := ni_tn (by omega)
    unfold lp_X11_review_69
    simp only [Option.bind_some, g_159_32 c hn, ge_178 c hn, iz, tz, if_true, st1]
    by_cases htl : t = L.length
    · rw [if_pos (by rw [htl]; exact Int32.le_refl _)]
      exact ⟨_, rfl, rfl⟩
    · rw [if_neg (fun q => by have := (ni_le (by omega) (by omega)).mp q; omega)]
      have w1 : (300 : Int32) * ni z + ni i = ni (300 * z + i) := by
        show ni 300 * ni z + ni i = _
        rw [ni_mul, ni_add]
      have q1 : inb (ni (300 * z + i)) 4200 = true := ni_inb (by omega) (by omega)
      have n1 : (ni (300 * z + i)).toNatClampNeg = 300 * z + i := ni_tn (by omega)
      have k1 : (iA h 190 (300 * z + i) = -1) = (sT s = []) := row_k (st3 i s es) (by omega)
      simp only [Option.bind_some, w1, g_159_44 c hn, ge_190 c hn, q1, n1, if_true, k1, hs, if_false, ni_1]
      exact ih (t + 1) (by omega) (by omega)
/-- where the first quarrel is, and with which -/
theorem z_first (hK : 3000 ≤ K) (c : PS h) (hn : 208 ≤ n) (z2 : ∃ f, h 2 = .inl (.int, 0, .inl f)) {p z B a b : Nat} {L : List Stm} (hz : z < 14) (hB : B ≤ 9) (R : bothR h n p z B L a b) (what : Int32) : ∀ (k i : Nat), i ≤ L.length → L.length - i < k → (∃ j w, i ≤ j ∧ j < L.length ∧ lp_X6_quarrelFirst_2 K h n p k (ni i) = some (0, ni j) ∧ w ≠ -1 ∧ q_X6_quarrelWith K h n p (ni j) = some w ∧ lp_X11_review_52 K h n 159 what (ni z) k (ni i) = some (0, ni j, w)) ∨ (∃ x y, lp_X6_quarrelFirst_2 K h n p k (ni i) = some (1, x) ∧ lp_X11_review_52 K h n 159 what (ni z) k (ni i) = some (1, y)) := by
  obtain ⟨bk, hL, ok, N, hN, st⟩ := id R
  obtain ⟨st1, st2, st3⟩ := id st
  intro k
  induction k with
  | zero => intro t _ q; omega
  | succ k ih =>
    intro t ht hk
    obtain ⟨hp, hpn, q, f, e5, -⟩ := id bk
    have r1 : rdI h n p 6 1 = some (ni L.length) := rdI_o (by omega) e5 rfl
    have cp : ckq h n p 6 = some () := ckq_o (by omega) e5
    have iz : inb (ni z) 14 = true := ni_inb (by omega) (by omega)
    have tz : (ni z).toNatClampNeg = z := ni_tn (by omega)
    unfold lp_X6_quarrelFirst_2 lp_X11_review_52
    simp only [r1, Option.bind_some, g_159_32 c hn, ge_178 c hn, iz, tz, if_true, st1]
    by_cases htl : t = L.length
    · rw [if_pos (by rw [htl]; exact Int32.le_refl _), if_pos (by rw [htl]; exact Int32.le_refl _)]
      exact Or.inr ⟨_, _, rfl, rfl⟩
    · have lt : t < L.length := by omega
      rw [if_neg (fun q => by have := (ni_le (by omega) (by omega)).mp q; omega), if_neg (fun q => by have := (ni_le (by omega) (by omega)).mp q; omega)]
      obtain ⟨u, eu⟩ : ∃ u, L[t]? = some u := ⟨L[t], List.getElem?_eq_getElem lt⟩
      have ou : sOk u := ok u (List.mem_of_getElem? eu)
      obtain ⟨x, ex, rx⟩ := book_at (K := K) bk (by omega) eu
      have cx : ckq h n x 5 = some () := by
        obtain ⟨y1, y2, y3, y4, -⟩ := rx
        exact ckq_o (by omega) y4
      have n10 : ¬ (1 : Int32) = 0 := by decide
      have D : (∃ v, v ≠ -1 ∧ q_X6_quarrelWith K h n p (ni t) = some v ∧ lp_X11_review_69 K h n 159 what (ni z) (ni t) K (ni (t + 1)) = some (0, v)) ∨ (q_X6_quarrelWith K h n p (ni t) = some (-1) ∧ ∃ y, lp_X11_review_69 K h n 159 what (ni z) (ni t) K (ni (t + 1)) = some (1, y)) := by
        by_cases hu : sT u = []
        · obtain ⟨⟨va, vb⟩, v1, v2, v3⟩ := z_with (K := K) c hn z2 hz hB R eu hu rx what K (t + 1) (by omega) (by omega)
          have w1 : q_X6_quarrelWith K h n p (ni t) = some (if va = 0 then vb else -1) := by
            unfold q_X6_quarrelWith
            simp only [cp, Option.bind_some, ex, cx, rule_has rx z2 ou, hu, if_true, ni_1, v1]
            rcases v3 with ⟨v3, -⟩ | v3
            · have v3' : va = 0 := v3
              rw [if_pos v3', if_pos v3']
            · have v3' : va = 1 := v3
              rw [v3', if_neg (by decide), if_pos rfl, if_neg (by decide)]
          rcases v3 with ⟨v3, v4⟩ | v3
          · have v3' : va = 0 := v3
            subst v3'
            exact Or.inl ⟨vb, v4, w1, v2⟩
          · have v3' : va = 1 := v3
            subst v3'
            exact Or.inr ⟨w1, vb, v2⟩
        · obtain ⟨⟨va, vb⟩, v2, v3⟩ := z_without (K := K) c hn hz hB hL hN st eu hu what K (t + 1) (by omega) (by omega)
          have v3' : va = 1 := v3
          subst v3'
          refine Or.inr ⟨?_, vb, v2⟩
          unfold q_X6_quarrelWith
          simp only [cp, Option.bind_some, ex, cx, rule_has rx z2 ou, hu, if_false, n10]
      rcases D with ⟨v, v1, v2, v3⟩ | ⟨v2, y, v3⟩
      · left
        refine ⟨t, v, Nat.le_refl _, lt, ?_, v1, v2, ?_⟩
        · simp only [cp, Option.bind_some, v2]
          rw [if_neg v1]
        · simp only [ni_1, v3, Option.bind_some, if_true]
      · simp only [cp, Option.bind_some, v2, ni_1, v3, if_true, Nat.one_ne_zero, if_false]
        rcases ih (t + 1) (by omega) (by omega) with ⟨j, w, q1, q2, q3⟩ | q3
        · exact Or.inl ⟨j, w, by omega, q2, q3⟩
        · exact Or.inr q3
theorem S_12 (hK : 3000 ≤ K) {l3 : Int32} {kc ks : Nat} {x : Nat → Int32} (c : PS h) (hn : 208 ≤ n) (jn : JN h) (j : JK h n) (sc : SCR (h 0) n l3 x) : st_law_12 K h n l3 kc ks = some (h, n, kc, ks) := by
  obtain ⟨s1, s2, -⟩ := sc h rfl
  have n10 : ¬ (1 : Int32) = 0 := by decide
  have key : ∃ v, q_X10_review K h n 48 (x 1) (x 2) = some v ∧ q_X11_review K h n 159 (x 1) (x 2) = some v := by
    unfold q_X10_review q_X11_review
    simp only [z_X10_isReview, z_X11_isReview, Option.bind_some, gq_48 c hn, gq_159 c hn, z_X11_isIn]
    by_cases h1 : mm_in (x 1) 0 2 = 0
    · simp only [h1, if_true, z_takenNo, Option.bind_some]
      exact ⟨_, rfl, rfl⟩
    · rw [if_neg h1, if_neg h1]
      obtain ⟨r, hr, er⟩ := mm_in_nat (N := 2) (by omega) h1
      have e500 : x 1 * 500 = 500 * x 1 := Int32.mul_comm _ _
      obtain ⟨u, u1, u2, u3⟩ := z_takenOf hK c hn j jn.2.1 (x 1) (500 * x 1)
      have sO : q_X11_setOf K h n 159 (x 1) = some u := by
        unfold q_X11_setOf
        rw [g_159_56 c hn, jn.2.2.2.2.2.2]
        show (if x 1 = -1 then _ else _) = _
        rw [if_neg (by rw [er]; exact ni_n1 (by omega)), gq_159 c hn]
        show (q_X11_inForce K h n 159 (x 1) (500 * x 1)).bind _ = _
        rw [u2]
        rfl
      simp only [e500, u1, Option.bind_some, sO]
      rcases u3 with ⟨e, u3⟩ | ⟨w, p, L, a, b, e, hw, u3, R⟩
      · subst e
        simp only [u3, Option.bind_some]
        refine ⟨-1, rfl, ?_⟩
        by_cases h3 : mm_in (x 2) 0 3 = 0
        · rw [if_pos h3]
        · rw [if_neg h3, if_pos trivial]
      · subst e
        simp only [u3, Option.bind_some]
        obtain ⟨bk, hL, ok, N, hN, st1, st2, st3⟩ := id R
        obtain ⟨hp, hpn, q, f, e5, -⟩ := id bk
        have r1 : rdI h n p 6 1 = some (ni L.length) := rdI_o (by omega) e5 rfl
        have cp : ckq h n p 6 = some () := ckq_o (by omega) e5
        have iw : inb (ni w) 14 = true := ni_inb (by omega) (by omega)
        have tw : (ni w).toNatClampNeg = w := ni_tn (by omega)
        by_cases h3 : mm_in (x 2) 0 3 = 0
        · rw [if_pos h3]
          have no : ∀ y : Nat, y ≤ 3 → x 2 ≠ ni y := fun y hy e => by
            rw [e] at h3
            have : mm_in (ni y) 0 3 = 1 := mm_in_iff.mpr ⟨ni_pos (by omega), fun q => by have := (ni_lt (a := 3) (by omega) (by omega)).mp q; omega⟩
            rw [this] at h3
            exact absurd h3 (by decide)
          have n0 : x 2 ≠ 0 := no 0 (by omega)
          have n1 : x 2 ≠ 1 := no 1 (by omega)
          have n2 : x 2 ≠ 2 := no 2 (by omega)
          have n3 : x 2 ≠ 3 := no 3 (by omega)
          rw [if_neg n0, if_neg n1, if_neg n2, if_neg n3]
          exact ⟨_, rfl, rfl⟩
        · obtain ⟨y, hy, ey⟩ := mm_in_nat (N := 3) (by omega) h3
          rw [if_neg h3, if_neg (ni_n1 (a := w) (by omega))]
          have hF := z_first hK c hn j.1 (by omega) (by omega) R (x 2) K 0 (Nat.zero_le _) (by omega)
          simp only [r1, cp, Option.bind_some, g_159_32 c hn, ge_178 c hn, iw, tw, if_true, st1]
          by_cases y0 : x 2 = 0
          · rw [if_pos y0, if_pos y0]; exact ⟨_, rfl, rfl⟩
          rw [if_neg y0, if_neg y0]
          by_cases y1 : x 2 = 1
          · rw [if_pos y1, if_pos y1]; exact ⟨_, rfl, rfl⟩
          rw [if_neg y1, if_neg y1]
          rcases hF with ⟨i, v, -, hi, f1, f2, f3, f4⟩ | ⟨v, v', f1, f2⟩
          · have f1' : lp_X6_quarrelFirst_2 K h n p K 0 = some (0, ni i) := f1
            have f4' : lp_X11_review_52 K h n 159 (x 2) (ni w) K 0 = some (0, ni i, v) := f4
            have g1 : q_X6_quarrelFirst K h n p = some (ni i) := by
              unfold q_X6_quarrelFirst
              rw [f1']
              rfl
            simp only [g1, Option.bind_some, f3, f4', if_true]
            by_cases y2 : x 2 = 2
            · rw [if_pos y2, if_pos y2]; exact ⟨_, rfl, rfl⟩
            rw [if_neg y2, if_neg y2]
            by_cases y3 : x 2 = 3
            · rw [if_pos y3]; exact ⟨_, rfl, rfl⟩
            · exfalso
              rcases (by omega : y = 0 ∨ y = 1 ∨ y = 2 ∨ y = 3) with q | q | q | q
              · exact y0 (ey.trans (by rw [q]; rfl))
              · exact y1 (ey.trans (by rw [q]; rfl))
              · exact y2 (ey.trans (by rw [q]; rfl))
              · exact y3 (ey.trans (by rw [q]; rfl))
          · have f1' : lp_X6_quarrelFirst_2 K h n p K 0 = some (1, v) := f1
            have f2' : lp_X11_review_52 K h n 159 (x 2) (ni w) K 0 = some (1, v') := f2
            have g1 : q_X6_quarrelFirst K h n p = some (-1) := by
              unfold q_X6_quarrelFirst
              rw [f1']
              rfl
            have g2 : q_X6_quarrelWith K h n p (-1) = some (-1) := by
              have qa : q_X6_at K h n p (-1) = some none := by
                unfold q_X6_at
                rw [if_pos (by decide)]
              unfold q_X6_quarrelWith
              simp only [cp, qa, Option.bind_some]
            simp only [g1, Option.bind_some, g2, f2', if_true, Nat.one_ne_zero, if_false]
            refine ⟨-1, ?_, rfl⟩
            by_cases y2 : x 2 = 2
            · rw [if_pos y2]
            rw [if_neg y2]
            by_cases y3 : x 2 = 3
            · rw [if_pos y3]
            · rw [if_neg y3]
  obtain ⟨v, k1, k2⟩ := key
  unfold st_law_12
  simp only [s1, s2, gq_48 c hn, gq_159 c hn, Option.bind_some, k1, k2, if_true]
end FORCE

/-! ===== the best of the points; a bench word on the class's side ===== -/
section BEST
variable {K n : Nat} {h : mm_H}
/-- the point that costs least by its driver, the first of such -/
def bestS : List Pt → Option Pt → Option Pt
  | [], b => b
  | p :: L, b => if p.2.1 ≤ 0 then bestS L b else match b with
    | none => bestS L (some p)
    | some q => if q.2.2.toInt64 * p.2.1.toInt64 ≤ p.2.2.toInt64 * q.2.1.toInt64 then bestS L (some q) else bestS L (some p)
def bestV (L : List Pt) (x : Int64) : Int64 := match bestS L none with
  | none => 0
  | some q => heldM (q.2.2.toInt64 * x) q.2.1.toInt64
/-- where it stands -/
def atB (L : List Pt) (b : Option Pt) (v : Int32) : Prop := (b = none ∧ v = -1) ∨ ∃ i q, i < 50 ∧ b = some q ∧ v = ni i ∧ L[i]? = some q ∧ ¬ q.2.1 ≤ 0
theorem z_bestLp143 (c : PS h) (hn : 159 ≤ n) {L : List Pt} (q : PtC 143 h L) {x : Int64} : ∀ (rest pre : List Pt) (k : Nat) (b : Option Pt) (v : Int32), L = pre ++ rest → rest.length < k → atB L b v → ∃ v', lp_X2_bestTells_5 K h n 143 x k v (ni pre.length) = some v' ∧ atB L (bestS rest b) v' := by
  intro rest
  induction rest with
  | nil =>
    intro pre k b v hL hk hb
    obtain ⟨k, rfl⟩ : ∃ z, k = z + 1 := ⟨k - 1, by omega⟩
    rw [List.append_nil] at hL
    subst hL
    unfold lp_X2_bestTells_5
    simp only [g_143_4 c hn, q.1, Option.bind_some]
    rw [if_pos (Int32.le_refl _)]
    exact ⟨v, rfl, hb⟩
  | cons p rest ih =>
    intro pre k b v hL hk hb
    obtain ⟨k, rfl⟩ : ∃ z, k = z + 1 := ⟨k - 1, by omega⟩
    rw [List.length_cons] at hk
    have hlen : L.length = pre.length + (rest.length + 1) := by rw [hL, List.length_append, List.length_cons]
    have h50 := q.2.1
    have n1 : ¬ ni L.length ≤ ni pre.length := fun z => by have := (ni_le (by omega) (by omega)).mp z; omega
    have n2 : ¬ (50 : Int32) ≤ ni pre.length := fun z => by have := (ni_le (a := 50) (by omega) (by omega)).mp z; omega
    have hget : L[pre.length]? = some p := by rw [hL, List.getElem?_append_right (Nat.le_refl _), Nat.sub_self]; rfl
    have hL2 : L = (pre ++ [p]) ++ rest := by rw [hL, List.append_assoc]; rfl
    have hpl : ni (pre.length + 1) = ni (pre ++ [p]).length := by rw [List.length_append]; rfl
    have i9 : inb (ni pre.length) 50 = true := ni_inb (by omega) (by omega)
    have t9 : (ni pre.length).toNatClampNeg = pre.length := ni_tn (by omega)
    obtain ⟨o1, o2, o3⟩ := q.2.2 _ _ hget
    have o2' : iA h 145 pre.length = p.2.1 := o2
    have o3' : iA h 146 pre.length = p.2.2 := o3
    unfold lp_X2_bestTells_5 bestS
    simp only [g_143_4 c hn, g_143_2 c hn, g_143_3 c hn, ge_145 c hn, ge_146 c hn, q.1, Option.bind_some, n1, n2, if_false, i9, t9, if_true, o2', o3', ni_1, hpl, lg_cmp_ge]
    by_cases p0 : p.2.1 ≤ 0
    · rw [if_pos p0, if_pos p0]
      exact ih _ k b v hL2 (by omega) hb
    rw [if_neg p0, if_neg p0]
    rcases hb with ⟨rfl, rfl⟩ | ⟨i, w, hi, rfl, rfl, ei, wi⟩
    · rw [if_pos rfl]
      exact ih _ k (some p) _ hL2 (by omega) (Or.inr ⟨pre.length, p, by omega, rfl, rfl, hget, p0⟩)
    · rw [if_neg (ni_n1 (by omega))]
      have ib : inb (ni i) 50 = true := ni_inb (by omega) (by omega)
      have tb : (ni i).toNatClampNeg = i := ni_tn (by omega)
      obtain ⟨u1, u2, u3⟩ := q.2.2 _ _ ei
      have u2' : iA h 145 i = w.2.1 := u2
      have u3' : iA h 146 i = w.2.2 := u3
      simp only [ib, tb, if_true, Option.bind_some, u2', u3']
      by_cases hc : w.2.2.toInt64 * p.2.1.toInt64 ≤ p.2.2.toInt64 * w.2.1.toInt64
      · rw [if_pos hc, if_pos hc]
        exact ih _ k (some w) _ hL2 (by omega) (Or.inr ⟨i, w, hi, rfl, rfl, ei, wi⟩)
      · rw [if_neg hc, if_neg hc]
        exact ih _ k (some p) _ hL2 (by omega) (Or.inr ⟨pre.length, p, by omega, rfl, rfl, hget, p0⟩)
theorem z_best143 (hK : 3000 ≤ K) (c : PS h) (hn : 159 ≤ n) {L : List Pt} (q : PtC 143 h L) (x : Int64) : q_X2_bestTells K h n 143 x = some (bestV L x) := by
  have h50 := q.2.1
  obtain ⟨v, e1, e2⟩ := z_bestLp143 (K := K) (x := x) c hn q L [] K none (-1) rfl (by omega) (Or.inl ⟨rfl, rfl⟩)
  have e1' : lp_X2_bestTells_5 K h n 143 x K (-1) 0 = some v := e1
  unfold q_X2_bestTells bestV
  rw [e1']
  simp only [Option.bind_some]
  rcases e2 with ⟨e, rfl⟩ | ⟨i, w, hi, e, rfl, ei, wi⟩
  · rw [if_pos rfl, e]
  · have ib : inb (ni i) 50 = true := ni_inb (by omega) (by omega)
    have tb : (ni i).toNatClampNeg = i := ni_tn (by omega)
    obtain ⟨u1, u2, u3⟩ := q.2.2 _ _ ei
    have u2' : iA h 145 i = w.2.1 := u2
    have u3' : iA h 146 i = w.2.2 := u3
    rw [if_neg (ni_n1 (by omega)), e]
    simp only [g_143_2 c hn, g_143_3 c hn, ge_145 c hn, ge_146 c hn, ib, tb, if_true, Option.bind_some, u2', u3', z_X8_held]
def bnV (h : mm_H) : Option Nat → Int32
  | none => -1
  | some i => iA h 65 i
theorem z_bnC (c : PS h) (hn : 159 ≤ n) {m : Nat} (hm : fI h 61 5 = ni m) (hm20 : m ≤ 20) (f hd y d : Int32) : ∀ (k i : Nat), i ≤ m → m - i < k → lp_X1_lastKnown_6 K h n 61 f hd y d k (bnV h (bnS h f hd y d i)) (ni i) = some (bnV h (bnS h f hd y d m)) := by
  intro k
  induction k with
  | zero => intro i _ q; omega
  | succ k ih =>
    intro i hi hk
    unfold lp_X1_lastKnown_6
    simp only [g_61_5 c hn, hm, Option.bind_some]
    by_cases him : i = m
    · rw [if_pos (by rw [him]; exact Int32.le_refl _), him]
    · rw [if_neg (fun q => by have := (ni_le (by omega) (by omega)).mp q; omega), if_neg (fun q => by have := (ni_le (a := 20) (by omega) (by omega)).mp q; omega), gq_61 c hn]
      have i20 : inb (ni i) 20 = true := ni_inb (by omega) (by omega)
      have ti : (ni i).toNatClampNeg = i := ni_tn (by omega)
      have n10 : ¬ (1 : Int32) = 0 := by decide
      have nx := ih (i + 1) (by omega) (by omega)
      have eS : bnS h f hd y d (i + 1) = if iA h 62 i = f ∧ iA h 63 i = hd ∧ iA h 64 i = y ∧ ¬ d < iA h 66 i then some i else bnS h f hd y d i := rfl
      have isOf : q_X1_isOf K h n 61 (ni i) f hd y = some (if iA h 62 i = f ∧ iA h 63 i = hd ∧ iA h 64 i = y then 1 else 0) := by
        unfold q_X1_isOf
        rw [if_neg (ni_pos (by omega)), if_neg (fun q => by have := (ni_le (a := 20) (by omega) (by omega)).mp q; omega)]
        simp only [g_61_0 c hn, g_61_1 c hn, g_61_2 c hn, ge_62 c hn, ge_63 c hn, ge_64 c hn, i20, ti, if_true, Option.bind_some]
        by_cases h1 : iA h 62 i = f
        · by_cases h2 : iA h 63 i = hd
          · by_cases h3 : iA h 64 i = y
            · rw [if_pos h1, if_pos h2, if_pos h3, if_pos ⟨h1, h2, h3⟩]
            · rw [if_pos h1, if_pos h2, if_neg h3, if_neg (fun z => h3 z.2.2)]
          · rw [if_pos h1, if_neg h2, if_neg (fun z => h2 z.2.1)]
        · rw [if_neg h1, if_neg (fun z => h1 z.1)]
      simp only [Option.bind_some, isOf, g_61_3 c hn, g_61_4 c hn, ge_65 c hn, ge_66 c hn, i20, ti, if_true, ni_1]
      by_cases hq : iA h 62 i = f ∧ iA h 63 i = hd ∧ iA h 64 i = y
      · rw [if_pos hq, if_neg n10]
        by_cases h4 : d < iA h 66 i
        · rw [if_neg (fun z => z.2.2.2 h4)] at eS
          rw [if_pos h4, ← eS]
          exact nx
        · rw [if_pos ⟨hq.1, hq.2.1, hq.2.2, h4⟩] at eS
          rw [if_neg h4]
          rw [eS] at nx
          exact nx
      · rw [if_neg (fun z => hq ⟨z.1, z.2.1, z.2.2.1⟩)] at eS
        rw [if_neg hq, if_pos rfl, ← eS]
        exact nx
theorem z_lastKnown (hK : 3000 ≤ K) (c : PS h) (hn : 159 ≤ n) {m : Nat} (hm : fI h 61 5 = ni m) (hm20 : m ≤ 20) (f hd y d : Int32) : q_X1_lastKnown K h n 61 f hd y d = some (bnV h (bnS h f hd y d m)) := by
  have e : lp_X1_lastKnown_6 K h n 61 f hd y d K (-1) 0 = some (bnV h (bnS h f hd y d m)) := z_bnC c hn hm hm20 f hd y d K 0 (Nat.zero_le _) (by omega)
  unfold q_X1_lastKnown
  rw [e]
  rfl
end BEST

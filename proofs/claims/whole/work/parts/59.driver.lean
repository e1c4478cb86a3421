/-! ===== the driver of the latest year; the bench's last word ===== -/
section DRIVER
variable {K n : Nat} {h : mm_H}
/-- the driver of the latest year below one that tells it -/
def drS (h : mm_H) (f dr : Nat) (d : Int32) : Nat → Int32
  | 0 => 0
  | y + 1 => if kn h f y dr d = -1 then drS h f dr d y else kn h f y dr d
theorem z_drLp (hK : 3000 ≤ K) (c : PS h) (hn : 208 ≤ n) (u : JA h) {f dr : Nat} (hf : f ≤ 10) (hdr : dr ≤ 16) (d : Int32) : ∀ (y k : Nat), y ≤ 15 → y < k → (∃ v, lp_X0_latestUpTo_3 K h n 51 (ni f) (ni dr) d k (ni y + (-1)) = some v ∧ ((v.1 = 0 ∧ v.2 = drS h f dr d y) ∨ (v.1 = 1 ∧ drS h f dr d y = 0))) ∧ ∃ v, lp_X11_driverOf_12 K h n 159 (ni f) (ni dr) d k (ni y + (-1)) = some v ∧ ((v.1 = 0 ∧ ∃ x, x ≤ 14 ∧ v.2 = ni x ∧ kn h f x dr d = drS h f dr d y) ∨ (v.1 = 1 ∧ drS h f dr d y = 0)) := by
  intro y
  induction y with
  | zero =>
    intro k _ hk
    obtain ⟨k, rfl⟩ : ∃ z, k = z + 1 := ⟨k - 1, by omega⟩
    unfold lp_X0_latestUpTo_3 lp_X11_driverOf_12
    rw [if_pos (by decide), if_pos (by decide)]
    exact ⟨⟨_, rfl, Or.inr ⟨rfl, rfl⟩⟩, _, rfl, Or.inr ⟨rfl, rfl⟩⟩
  | succ y ih =>
    intro k hy hk
    obtain ⟨k, rfl⟩ : ∃ z, k = z + 1 := ⟨k - 1, by omega⟩
    have k1 := z_X0_knownBy hK c hn u hf (y := y) (by omega) hdr d
    have k2 := z_X11_factBy hK c hn u hf (y := y) (by omega) hdr d
    unfold lp_X0_latestUpTo_3 lp_X11_driverOf_12 drS
    rw [ni_m1, if_neg (ni_pos (by omega)), if_neg (ni_pos (by omega)), gq_51 c hn, gq_159 c hn]
    simp only [Option.bind_some, k1, k2]
    by_cases e : kn h f y dr d = -1
    · rw [if_pos e, if_pos e, if_pos e]
      exact ih k (by omega) (by omega)
    · rw [if_neg e, if_neg e, if_neg e]
      exact ⟨⟨_, rfl, Or.inl ⟨rfl, rfl⟩⟩, _, rfl, Or.inl ⟨rfl, y, by omega, rfl, rfl⟩⟩
theorem z_driverX0 (hK : 3000 ≤ K) (c : PS h) (hn : 208 ≤ n) (u : JA h) {f y dr : Nat} (hf : f ≤ 10) (hy : y ≤ 14) (hdr : dr ≤ 16) (d : Int32) : q_X0_latestUpTo K h n 51 (ni f) (ni y) (ni dr) d = some (drS h f dr d (y + 1)) := by
  obtain ⟨⟨v, e1, e2⟩, -⟩ := z_drLp hK c hn u hf hdr d (y + 1) K (by omega) (by omega)
  rw [ni_m1] at e1
  unfold q_X0_latestUpTo
  rw [e1]
  simp only [Option.bind_some]
  rcases e2 with ⟨q1, q2⟩ | ⟨q1, q2⟩
  · rw [if_pos q1, q2]
  · rw [if_neg (by rw [q1]; decide), if_pos q1, q2]
theorem z_driverOf (hK : 3000 ≤ K) (c : PS h) (hn : 208 ≤ n) (u : JA h) {f y dr : Nat} (hf : f ≤ 10) (hy : y ≤ 14) (hdr : dr ≤ 16) : q_X11_driverOf K h n 159 (ni f) (ni y) (ni dr) = some (drS h f dr (dcd y) (y + 1)) := by
  obtain ⟨-, v, e1, e2⟩ := z_drLp hK c hn u hf hdr (dcd y) (y + 1) K (by omega) (by omega)
  rw [ni_m1] at e1
  have e0 : (500 : Int32) * (ni y / 5) = dcd y := by
    show ni 500 * (ni y / ni 5) = _
    rw [ni_div (by omega) (by omega), ni_mul]
    rfl
  unfold q_X11_driverOf
  rw [e0, e1]
  simp only [Option.bind_some]
  rcases e2 with ⟨q1, x, hx, q2, q3⟩ | ⟨q1, q2⟩
  · rw [if_pos q1, gq_159 c hn, q2]
    simp only [Option.bind_some, z_X11_factBy hK c hn u hf hx hdr (dcd y), q3]
  · rw [if_neg (by rw [q1]; decide), if_pos q1, q2]
/-- whether a bench word is of this -/
def bnB (h : mm_H) (f hd y d : Int32) (i : Nat) : Prop := iA h 62 i = f ∧ iA h 63 i = hd ∧ iA h 64 i = y ∧ ¬ d < iA h 66 i
/-- the last one -/
def bnS (h : mm_H) (f hd y d : Int32) : Nat → Option Nat
  | 0 => none
  | i + 1 => if iA h 62 i = f ∧ iA h 63 i = hd ∧ iA h 64 i = y ∧ ¬ d < iA h 66 i then some i else bnS h f hd y d i
theorem bnS_lt (h : mm_H) (f hd y d : Int32) : ∀ (m i : Nat), bnS h f hd y d m = some i → i < m
  | 0, i, e => by cases e
  | m + 1, i, e => by
    unfold bnS at e
    split at e
    · cases e; omega
    · have := bnS_lt h f hd y d m i e
      omega
theorem z_bnM (c : PS h) (hn : 208 ≤ n) (u : JB h) (f hd y d : Int32) : ∀ (i k : Nat), i ≤ 20 → i < k → ∃ v, lp_X11_allowedOf_8 K h n 159 f hd y d k (ni i + (-1)) = some v ∧ match bnS h f hd y d i with
    | none => v.1 = 1
    | some x => v.1 = 0 ∧ v.2 = ni x := by
  obtain ⟨q0, q1, q2, q3, q4, q5, m, hm, hm20, hB⟩ := u
  intro i
  induction i with
  | zero =>
    intro k _ hk
    obtain ⟨k, rfl⟩ : ∃ z, k = z + 1 := ⟨k - 1, by omega⟩
    unfold lp_X11_allowedOf_8
    rw [if_pos (by decide)]
    exact ⟨_, rfl, rfl⟩
  | succ i ih =>
    intro k hi hk
    obtain ⟨k, rfl⟩ : ∃ z, k = z + 1 := ⟨k - 1, by omega⟩
    have nx := ih k (by omega) (by omega)
    have i20 : inb (ni i) 20 = true := ni_inb (by omega) (by omega)
    have ti : (ni i).toNatClampNeg = i := ni_tn (by omega)
    unfold lp_X11_allowedOf_8 bnS
    rw [ni_m1, if_neg (ni_pos (by omega))]
    simp only [g_159_15 c hn, g_159_16 c hn, g_159_17 c hn, g_159_19 c hn, ge_169 c hn, ge_170 c hn, ge_171 c hn, ge_173 c hn, i20, ti, if_true, Option.bind_some, q1, q2, q3, q5]
    by_cases h1 : iA h 62 i = f
    · rw [if_pos h1]
      by_cases h2 : iA h 63 i = hd
      · rw [if_pos h2]
        by_cases h3 : iA h 64 i = y
        · rw [if_pos h3]
          by_cases h4 : d < iA h 66 i
          · rw [if_pos h4, if_neg (fun z => z.2.2.2 h4)]
            exact nx
          · rw [if_neg h4, if_pos ⟨h1, h2, h3, h4⟩]
            exact ⟨_, rfl, rfl, rfl⟩
        · rw [if_neg h3, if_neg (fun z => h3 z.2.2.1)]
          exact nx
      · rw [if_neg h2, if_neg (fun z => h2 z.2.1)]
        exact nx
    · rw [if_neg h1, if_neg (fun z => h1 z.1)]
      exact nx
end DRIVER

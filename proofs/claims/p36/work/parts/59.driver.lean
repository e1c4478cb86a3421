/-! ===== the driver of the latest year; the bench's last word ===== -/
section DRIVER
variable {K n : Nat} {h : mm_H}
/-- the driver of the latest year below one that tells it -/
def drS (h : mm_H) (f dr : Nat) (d : Int32) : Nat → Int32
  | 0 => 0
  | y + 1 => if kn h f y dr d = -1 then drS h f dr d y else kn h f y dr d
theorem z_drLp (hK : 3000 ≤ K) (c : PS h) (hn : 159 ≤ n) (u : JA h) {f dr : Nat} (hf : f ≤ 10) (hdr : dr ≤ 16) (d : Int32) : ∀ (y k : Nat), y ≤ 15 → y < k → (∃ v, lp_X0_latestUpTo_3 K h n 51 (ni f) (ni dr) d k (ni y + (-1)) = some v ∧ ((v.1 = 0 ∧ v.2 = drS h f dr d y) ∨ (v.1 = 1 ∧ drS h f dr d y = 0))) ∧ True := by
  intro y
  induction y with
  | zero =>
    intro k _ hk
    obtain ⟨k, rfl⟩ : ∃ z, k = z + 1 := ⟨k - 1, by omega⟩
    unfold lp_X0_latestUpTo_3
    rw [if_pos (by decide)]
    exact ⟨⟨_, rfl, Or.inr ⟨rfl, rfl⟩⟩, trivial⟩
  | succ y ih =>
    intro k hy hk
    obtain ⟨k, rfl⟩ : ∃ z, k = z + 1 := ⟨k - 1, by omega⟩
    have k1 := z_X0_knownBy hK c hn u hf (y := y) (by omega) hdr d
    unfold lp_X0_latestUpTo_3 drS
    rw [ni_m1, if_neg (ni_pos (by omega)), gq_51 c hn]
    simp only [Option.bind_some, k1]
    by_cases e : kn h f y dr d = -1
    · rw [if_pos e, if_pos e]
      exact ih k (by omega) (by omega)
    · rw [if_neg e, if_neg e]
      exact ⟨⟨_, rfl, Or.inl ⟨rfl, rfl⟩⟩, trivial⟩
theorem z_driverX0 (hK : 3000 ≤ K) (c : PS h) (hn : 159 ≤ n) (u : JA h) {f y dr : Nat} (hf : f ≤ 10) (hy : y ≤ 14) (hdr : dr ≤ 16) (d : Int32) : q_X0_latestUpTo K h n 51 (ni f) (ni y) (ni dr) d = some (drS h f dr d (y + 1)) := by
  obtain ⟨⟨v, e1, e2⟩, -⟩ := z_drLp hK c hn u hf hdr d (y + 1) K (by omega) (by omega)
  rw [ni_m1] at e1
  unfold q_X0_latestUpTo
  rw [e1]
  simp only [Option.bind_some]
  rcases e2 with ⟨q1, q2⟩ | ⟨q1, q2⟩
  · rw [if_pos q1, q2]
  · rw [if_neg (by rw [q1]; decide), if_pos q1, q2]
/-- whether a bench word is of this -/
def bnB (h : mm_H) (f hd y d : Int32) (i : Nat) : Prop := iA h 62 i = f ∧ iA h 63 i = hd ∧ iA h 64 i = y ∧ ¬ d < iA h 66 i
/-- the last one -/
def bnS (h : mm_H) (f hd y d : Int32) : Nat → Option Nat
  | 0 => none
  | i + 1 => if iA h 62 i = f ∧ iA h 63 i = hd ∧ iA h 64 i = y ∧ ¬ d < iA h 66 i then some i else bnS h f hd y d i
theorem bnS_lt (h : mm_H) (f hd y d : Int32) : ∀ (m i : Nat), bnS h f hd y d m = some i → i < m
  | 0, i, e => by cases e
  | m + 1, i, e => by
    unfold bnS at e
    split at e
    · cases e; omega
    · have := bnS_lt h f hd y d m i e
      omega
end DRIVER

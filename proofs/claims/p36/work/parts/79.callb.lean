/-! ===== the calls bills and home ===== -/
section CALLB
variable {K n : Nat} {h : mm_H}
/-- what is left behind some kinds of homes -/
def lfS (h : mm_H) (f y : Nat) (d : Int32) (cn : Int64) : Nat → Int64
  | 0 => cn
  | k + 1 => lfS h f y d cn k - pdS h f y d cn k * (hmP h f y d k).toInt64
theorem lfS_c {g : mm_H} (e : ∀ a, a < 73 → g a = h a) (f y : Nat) (d : Int32) (cn : Int64) : ∀ k, lfS g f y d cn k = lfS h f y d cn k
  | 0 => rfl
  | k + 1 => by
    unfold lfS
    rw [lfS_c e f y d cn k, pdS_c e, hmP_c e]
theorem z_left (hK : 3000 ≤ K) (c : PS h) (hn : 159 ≤ n) (u : JA h) (p : PRT h) {f y : Nat} (hf : f ≤ 10) (hy : y ≤ 14) (d : Int32) (cn : Int64) : ∀ (m i k : Nat), i + m = 3 → m < k → lp_X10_home_83 K h n 48 (ni f) (ni y) d cn k (lfS h f y d cn i) (ni i) = some (lfS h f y d cn 3) ∧ True := by
  intro m
  induction m with
  | zero =>
    intro i k hi hk
    obtain ⟨k, rfl⟩ : ∃ x, k = x + 1 := ⟨k - 1, by omega⟩
    have : i = 3 := by omega
    subst this
    unfold lp_X10_home_83
    rw [if_pos (by decide)]
    exact ⟨rfl, trivial⟩
  | succ m ih =>
    intro i k hi hk
    obtain ⟨k, rfl⟩ : ∃ x, k = x + 1 := ⟨k - 1, by omega⟩
    have n1 : ¬ (3 : Int32) ≤ ni i := fun q => by have := (ni_le (a := 3) (by omega) (by omega)).mp q; omega
    have nx := ih (i + 1) k (by omega) (by omega)
    obtain ⟨pc, -⟩ := z_partOf hK c hn u p hf hy (k := i) (by omega) d cn
    have e2 : (hmP h f y d i).toInt64 * pdS h f y d cn i = pdS h f y d cn i * (hmP h f y d i).toInt64 := Int64.mul_comm _ _
    unfold lp_X10_home_83
    simp only [n1, if_false, g_48_0 c hn, gq_49 c hn, Option.bind_some, z_homesC hK c hn u hf hy (show i ≤ 2 by omega) d, pc, e2, ni_1]
    exact nx
end CALLB

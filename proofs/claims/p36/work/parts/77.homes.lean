/-! ===== what a home pays; the calls check and who ===== -/
section HOMES
variable {K n : Nat} {h : mm_H}
/-- the parts of the homes' kinds -/
def PRT (h : mm_H) : Prop := ∃ f, h 1 = .inl (.int, 3, .inl f) ∧ f 0 = 2 ∧ f 1 = 3 ∧ f 2 = 5
def ptI (k : Nat) : Int32 := if k = 0 then 2 else if k = 1 then 3 else 5
def hmP (h : mm_H) (f y : Nat) (d : Int32) (k : Nat) : Int32 := mx0 (kn h f y (11 + k) d)
def apS (h : mm_H) (f y : Nat) (d : Int32) : Nat → Int64
  | 0 => 0
  | k + 1 => apS h f y d k + (ptI k).toInt64 * (hmP h f y d k).toInt64
/-- what a home of a kind pays of some coins -/
def pdS (h : mm_H) (f y : Nat) (d : Int32) (cn : Int64) (k : Nat) : Int64 := if apS h f y d 3 = 0 then 0 else cn * (ptI k).toInt64 / apS h f y d 3
theorem hmP_c {g : mm_H} (e : ∀ a, a < 73 → g a = h a) (f y : Nat) (d : Int32) (k : Nat) : hmP g f y d k = hmP h f y d k := by
  unfold hmP
  rw [kn_c (fun a _ _ => e a (by omega))]
theorem apS_c {g : mm_H} (e : ∀ a, a < 73 → g a = h a) (f y : Nat) (d : Int32) : ∀ k, apS g f y d k = apS h f y d k
  | 0 => rfl
  | k + 1 => by
    unfold apS
    rw [apS_c e f y d k, hmP_c e]
theorem pdS_c {g : mm_H} (e : ∀ a, a < 73 → g a = h a) (f y : Nat) (d : Int32) (cn : Int64) (k : Nat) : pdS g f y d cn k = pdS h f y d cn k := by
  unfold pdS
  rw [apS_c e]
theorem PRT.c {g : mm_H} (p : PRT h) (e : ∀ a, a < 73 → g a = h a) : PRT g := by
  obtain ⟨f, q, r⟩ := p
  exact ⟨f, (e 1 (by omega)).trans q, r⟩
theorem z_partsC (hn : 159 ≤ n) (p : PRT h) {k : Nat} (hk : k ≤ 2) : q_X4_partsOf K h n 49 (ni k) = some (ptI k).toInt64 := by
  obtain ⟨f, e, f0, f1, f2⟩ := p
  have hl : lenA h n 1 0 = some (ni 3) := by
    unfold lenA
    rw [if_neg (by omega), if_pos (by omega), e]
  have hv : f k = ptI k := by
    rcases (by omega : k = 0 ∨ k = 1 ∨ k = 2) with rfl | rfl | rfl
    · exact f0
    · exact f1
    · exact f2
  unfold q_X4_partsOf
  rw [if_neg (ni_pos (by omega)), hl, Option.bind_some, if_neg (fun q => by have := (ni_le (by omega) (by omega)).mp q; omega), ldI_o (by omega) e (by omega) (by omega), hv]
  rfl
theorem z_homesC (hK : 3000 ≤ K) (c : PS h) (hn : 159 ≤ n) (u : JA h) {f y k : Nat} (hf : f ≤ 10) (hy : y ≤ 14) (hk : k ≤ 2) (d : Int32) : q_X4_homesOf K h n 49 (ni k) (ni f) (ni y) d = some (hmP h f y d k) := by
  have e11 : (11 : Int32) + ni k = ni (11 + k) := ni_add 11 _
  unfold q_X4_homesOf hmP
  simp only [g_49_1 c hn, gq_51 c hn, Option.bind_some, e11, z_X0_knownBy hK c hn u hf hy (show 11 + k ≤ 16 by omega) d, mx0_max (kn_in u hf hy (show 11 + k ≤ 16 by omega) d)]
theorem z_ptLp (hK : 3000 ≤ K) (c : PS h) (hn : 159 ≤ n) (u : JA h) (p : PRT h) {f y : Nat} (hf : f ≤ 10) (hy : y ≤ 14) (d kd : Int32) (cn : Int64) : ∀ (m i k : Nat), i + m = 3 → m < k → lp_X4_partOf_6 K h n 49 cn kd (ni f) (ni y) d k (apS h f y d i) (ni i) = some (apS h f y d 3) ∧ True := by
  intro m
  induction m with
  | zero =>
    intro i k hi hk
    obtain ⟨k, rfl⟩ : ∃ x, k = x + 1 := ⟨k - 1, by omega⟩
    have : i = 3 := by omega
    subst this
    unfold lp_X4_partOf_6
    rw [if_pos (by decide)]
    exact ⟨rfl, trivial⟩
  | succ m ih =>
    intro i k hi hk
    obtain ⟨k, rfl⟩ : ∃ x, k = x + 1 := ⟨k - 1, by omega⟩
    have n1 : ¬ (3 : Int32) ≤ ni i := fun q => by have := (ni_le (a := 3) (by omega) (by omega)).mp q; omega
    have nx := ih (i + 1) k (by omega) (by omega)
    have e2 : (hmP h f y d i).toInt64 * (ptI i).toInt64 = (ptI i).toInt64 * (hmP h f y d i).toInt64 := Int64.mul_comm _ _
    unfold lp_X4_partOf_6
    simp only [n1, if_false, gq_49 c hn, Option.bind_some, z_partsC (K := K) hn p (show i ≤ 2 by omega), z_homesC hK c hn u hf hy (show i ≤ 2 by omega) d, e2, ni_1]
    exact nx
theorem z_partOf (hK : 3000 ≤ K) (c : PS h) (hn : 159 ≤ n) (u : JA h) (p : PRT h) {f y k : Nat} (hf : f ≤ 10) (hy : y ≤ 14) (hk : k ≤ 2) (d : Int32) (cn : Int64) : q_X4_partOf K h n 49 cn (ni k) (ni f) (ni y) d = some (pdS h f y d cn k) ∧ True := by
  obtain ⟨a, -⟩ := z_ptLp hK c hn u p hf hy d (ni k) cn 3 0 K rfl (by omega)
  have a' : lp_X4_partOf_6 K h n 49 cn (ni k) (ni f) (ni y) d K 0 0 = some (apS h f y d 3) := a
  unfold q_X4_partOf pdS q_X8_cut
  simp only [a', Option.bind_some, gq_49 c hn, z_partsC (K := K) hn p hk, lg_cmp_eq]
  by_cases q : apS h f y d 3 = 0
  · simp only [q, if_true, Option.bind_some, and_self]
  · simp only [q, if_false, Option.bind_some, and_self]
/-- the first line that is another one -/
def ckF (ln : Nat → Int64) (T : Nat → Int32) : Nat → Nat → Nat × Int32
  | 0, i => (1, ni i)
  | m + 1, i => if ln i = (T i).toInt64 then ckF ln T m (i + 1) else (0, ni i)
theorem ckF_c {a b : Nat → Int64} (T : Nat → Int32) : ∀ (m i : Nat), (∀ k, i ≤ k → k < i + m → a k = b k) → ckF a T m i = ckF b T m i
  | 0, _, _ => rfl
  | m + 1, i, e => by
    unfold ckF
    rw [e i (Nat.le_refl _) (by omega), ckF_c T m (i + 1) (fun k h1 h2 => e k (by omega) (by omega))]
theorem ckF_01 (a : Nat → Int64) (T : Nat → Int32) : ∀ (m i : Nat), (ckF a T m i).1 = 0 ∨ (ckF a T m i).1 = 1
  | 0, _ => Or.inr rfl
  | m + 1, i => by
    unfold ckF
    split
    · exact ckF_01 a T m (i + 1)
    · exact Or.inl rfl
end HOMES

/-! ===== what is asked of the first review: worth, line, revenue, bills, home, who ===== -/
section ASKS
variable {K n : Nat} {h H : mm_H}
/-- what stands while questions are asked -/
def AQ (h : mm_H) (n p : Nat) (L : List Stm) : Prop := PS h ∧ JR h ∧ TK h n p L ∧ PRT h ∧ fI h 49 5 = 2
theorem AQ.sw {g : mm_H} {p : Nat} {L : List Stm} (A : AQ h n p L) (c : PS g) (s : SW h g) : AQ g n p L :=
  ⟨c, SW_JR s A.2.1, A.2.2.1.c (fun a q => s.1 a (by omega)) (fI_c (s.1 48 (by omega)) 7), A.2.2.2.1.c (fun a q => s.1 a (by omega)), (fI_c (s.1 49 (by omega)) 5).trans A.2.2.2.2⟩
/-- the same, held against an earlier heap -/
theorem CF.base {F f Y : Nat} {d : Int32} {Ls : Nat → List Stm} {g : mm_H} (u : CF n h F f d Ls Y g) (e : ∀ a, a < 73 → h a = H a) : CF n H F f d Ls Y g := by
  obtain ⟨u1, u2, u3, u4, u5, u6, u7, u8⟩ := u
  refine ⟨u1, u2, fun a ha => (u3 a ha).trans (e a ha), u4, u5, fun y hy => ?_, fun i hi => ?_, u8⟩
  · have := u6 y hy
    rw [wwS_c e] at this
    exact this
  · rw [u7 i hi, wrS_c e]
theorem a_open (hK : 3000 ≤ K) (hn : 159 ≤ n) {p : Nat} {L : List Stm} (A : AQ h n p L) (e : ∀ a, a < 73 → h a = H a) {f ly : Nat} (hf : f < 2) (hly : ly ≤ 14) (d : Int32) : ∃ g : mm_H, q_X10_openOwn K h n 48 (ni f) (ni ly) d = some g ∧ CF n H 2 f d (fun _ => L) (ly + 1) g ∧ SW h g := by
  obtain ⟨g, e1, u, s⟩ := z_openCF hK A.1 hn A.2.1 A.2.2.1 (F := 2) (f := f) A.2.2.2.2 (by omega) hf hly d
  exact ⟨g, e1, u.base e, s⟩
theorem a_ok {p : Nat} {L : List Stm} (A : AQ h n p L) {f y d : Nat} (hf : f < 2) (hy : y ≤ 14) (hd : d ≤ 1499) : okY h (ni f) (ni y) (ni d) := by
  have e5 := A.2.2.2.2
  refine ⟨?_, ?_, ?_⟩
  · rw [e5]
    have : mm_in (ni f) 0 (2 - 1) = 1 := mm_in_iff.mpr ⟨ni_pos (by omega), fun q => by have := (ni_lt (a := 1) (by omega) (by omega)).mp q; omega⟩
    rw [this]
    decide
  · have : mm_in (ni y) 0 14 = 1 := mm_in_iff.mpr ⟨ni_pos (by omega), fun q => by have := (ni_lt (a := 14) (by omega) (by omega)).mp q; omega⟩
    rw [this]
    decide
  · have : mm_in (ni d) 0 1499 = 1 := mm_in_iff.mpr ⟨ni_pos (by omega), fun q => by have := (ni_lt (a := 1499) (by omega) (by omega)).mp q; omega⟩
    rw [this]
    decide
theorem a_in {k N : Nat} (hN : N < 2147483648) (hk : k ≤ N) : ¬ mm_in (ni k) 0 (ni N) = 0 := by
  have : mm_in (ni k) 0 (ni N) = 1 := mm_in_iff.mpr ⟨ni_pos (by omega), fun q => by have := (ni_lt (by omega) (by omega)).mp q; omega⟩
  rw [this]
  decide
theorem a_line (hK : 3000 ≤ K) (hn : 159 ≤ n) {p : Nat} {L : List Stm} (A : AQ h n p L) (e : ∀ a, a < 73 → h a = H a) {f y k d : Nat} (hf : f < 2) (hy : y ≤ 14) (hk : k ≤ 14) (hd : d ≤ 1499) : ∃ g : mm_H, q_X10_line K h n 48 (ni f) (ni y) (ni d) (ni k) = some (lnS H 2 f (fun _ => L) (ni d) y k, g) ∧ PS g ∧ SW h g := by
  have c := A.1
  obtain ⟨g1, e1, u1, w1⟩ := a_open hK hn A e hf hy (ni d)
  obtain ⟨g2, e2, u2, w2, r2⟩ := u1.fill hK hn (by omega) (Nat.le_refl y) (by omega)
  refine ⟨g2, ?_, u2.1, w1.trans w2.sw⟩
  unfold q_X10_line
  rw [gq_48 c hn, Option.bind_some, y_pre c hn A.2.1.2.1, if_pos (a_ok A hf hy hd), z_X10_isWithin, Option.bind_some, if_neg (show ¬ mm_in (ni k) 0 14 = 0 from a_in (N := 14) (by omega) hk)]
  simp only [Option.bind_some, gq_48 c hn, e1, g_48_1 u1.1 hn, gq_73 u1.1 hn, e2, g_48_1 u2.1 hn, gq_73 u2.1 hn, z_lineAtC u2.1 hn hy hk, r2 y (Nat.le_refl y) (Nat.le_refl y) k (by omega)]
theorem a_revenue (hK : 3000 ≤ K) (hn : 159 ≤ n) {p : Nat} {L : List Stm} (A : AQ h n p L) (e : ∀ a, a < 73 → h a = H a) {f y d : Nat} (hf : f < 2) (hy : y ≤ 14) (hd : d ≤ 1499) : ∃ g : mm_H, q_X10_revenue K h n 48 (ni f) (ni y) (ni d) = some (rvS H 2 f (fun _ => L) (ni d) y 15, g) ∧ PS g ∧ SW h g := by
  have c := A.1
  obtain ⟨g1, e1, u1, w1⟩ := a_open hK hn A e hf hy (ni d)
  obtain ⟨g2, e2, u2, w2, r2⟩ := u1.fill hK hn (by omega) (Nat.le_refl y) (by omega)
  refine ⟨g2, ?_, u2.1, w1.trans w2.sw⟩
  unfold q_X10_revenue
  rw [gq_48 c hn, Option.bind_some, y_pre c hn A.2.1.2.1, if_pos (a_ok A hf hy hd)]
  simp only [Option.bind_some, gq_48 c hn, e1, g_48_1 u1.1 hn, gq_73 u1.1 hn, e2, g_48_1 u2.1 hn, gq_73 u2.1 hn, z_allLines hK u2.1 hn hy (r2 y (Nat.le_refl y) (Nat.le_refl y))]
theorem a_bills (hK : 3000 ≤ K) (hn : 159 ≤ n) {p : Nat} {L : List Stm} (A : AQ h n p L) (e : ∀ a, a < 73 → h a = H a) {f y d : Nat} (hf : f < 2) (hy : y ≤ 14) (hd : d ≤ 1499) : ∃ g : mm_H, q_X10_bills K h n 48 (ni f) (ni y) (ni d) 0 = some ((blP H 2 f (fun _ => L) (ni d) (y / 5 * 5) (y - y / 5 * 5 + 1)).1, g) ∧ PS g ∧ SW h g := by
  have c := A.1
  obtain ⟨g1, e1, u1, w1⟩ := a_open hK hn A e hf hy (ni d)
  obtain ⟨g2, e2, u2, w2, r1, r2⟩ := u1.bills hK hn (by omega) (y := y) (by omega)
  refine ⟨g2, ?_, u2.1, w1.trans w2.sw⟩
  unfold q_X10_bills
  rw [gq_48 c hn, Option.bind_some, y_pre c hn A.2.1.2.1, if_pos (a_ok A hf hy hd), z_X10_isWithin, Option.bind_some, if_neg (show ¬ mm_in 0 0 1 = 0 by decide)]
  simp only [Option.bind_some, gq_48 c hn, e1, g_48_1 u1.1 hn, gq_73 u1.1 hn, e2, g_48_1 u2.1 hn, gq_73 u2.1 hn, z_billsAt (K := K) u2.1 hn hy, r1, if_true]
theorem a_carried (hK : 3000 ≤ K) (hn : 159 ≤ n) {p : Nat} {L : List Stm} (A : AQ h n p L) (e : ∀ a, a < 73 → h a = H a) {f y d : Nat} (hf : f < 2) (hy : y ≤ 14) (hd : d ≤ 1499) : ∃ g : mm_H, q_X10_bills K h n 48 (ni f) (ni y) (ni d) 1 = some ((blP H 2 f (fun _ => L) (ni d) (y / 5 * 5) (y - y / 5 * 5 + 1)).2, g) ∧ PS g ∧ SW h g := by
  have c := A.1
  have n10 : ¬ (1 : Int32) = 0 := by decide
  obtain ⟨g1, e1, u1, w1⟩ := a_open hK hn A e hf hy (ni d)
  obtain ⟨g2, e2, u2, w2, r1, r2⟩ := u1.bills hK hn (by omega) (y := y) (by omega)
  refine ⟨g2, ?_, u2.1, w1.trans w2.sw⟩
  unfold q_X10_bills
  rw [gq_48 c hn, Option.bind_some, y_pre c hn A.2.1.2.1, if_pos (a_ok A hf hy hd), z_X10_isWithin, Option.bind_some, if_neg (show ¬ mm_in 1 0 1 = 0 by decide)]
  simp only [Option.bind_some, gq_48 c hn, e1, g_48_1 u1.1 hn, gq_73 u1.1 hn, e2, g_48_1 u2.1 hn, gq_73 u2.1 hn, z_carriedAt (K := K) u2.1 hn hy, r2, n10, if_false]
theorem a_home (hK : 3000 ≤ K) (hn : 159 ≤ n) {p : Nat} {L : List Stm} (A : AQ h n p L) (e : ∀ a, a < 73 → h a = H a) {f y k d : Nat} (hf : f < 2) (hy : y ≤ 14) (hk : k ≤ 3) (hd : d ≤ 1499) : ∃ g : mm_H, q_X10_home K h n 48 (ni f) (ni y) (ni d) (ni k) = some (if 3 ≤ k then lfS H f y (ni d) (blP H 2 f (fun _ => L) (ni d) (y / 5 * 5) (y - y / 5 * 5 + 1)).1 3 else pdS H f y (ni d) (blP H 2 f (fun _ => L) (ni d) (y / 5 * 5) (y - y / 5 * 5 + 1)).1 k, g) ∧ PS g ∧ SW h g := by
  have c := A.1
  obtain ⟨g1, e1, u1, w1⟩ := a_open hK hn A e hf hy (ni d)
  obtain ⟨g2, e2, u2, w2, r1, r2⟩ := u1.bills hK hn (by omega) (y := y) (by omega)
  refine ⟨g2, ?_, u2.1, w1.trans w2.sw⟩
  have prH : PRT g2 := by
    have := A.2.2.2.1.c (g := g2) (fun a q => (u2.2.2.1 a q).trans (e a q).symm)
    exact this
  generalize (blP H 2 f (fun _ => L) (ni d) (y / 5 * 5) (y - y / 5 * 5 + 1)).1 = cn at r1
  have lc := (z_left hK u2.1 hn u2.2.1.2.2.1 prH (f := f) (by omega) hy (ni d) cn 3 0 K rfl (by omega)).1
  have lc' : lp_X10_home_83 K g2 n 48 (ni f) (ni y) (ni d) cn K cn 0 = some (lfS g2 f y (ni d) cn 3) := lc
  rw [lfS_c u2.2.2.1] at lc'
  have l3 : ((3 : Int32) ≤ ni k) = (3 ≤ k) := propext (ni_le (a := 3) (by omega) (by omega))
  unfold q_X10_home
  rw [gq_48 c hn, Option.bind_some, y_pre c hn A.2.1.2.1, if_pos (a_ok A hf hy hd), z_X10_isWithin, Option.bind_some, if_neg (show ¬ mm_in (ni k) 0 3 = 0 from a_in (N := 3) (by omega) hk)]
  simp only [Option.bind_some, gq_48 c hn, e1, g_48_1 u1.1 hn, gq_73 u1.1 hn, e2, g_48_1 u2.1 hn, gq_73 u2.1 hn, z_billsAt (K := K) u2.1 hn hy, r1, l3, lc', g_48_0 u2.1 hn, gq_49 u2.1 hn]
  by_cases q : 3 ≤ k
  · rw [if_pos q, if_pos q]
  · have pc := (z_partOf hK u2.1 hn u2.2.1.2.2.1 prH (f := f) (by omega) hy (show k ≤ 2 by omega) (ni d) cn).1
    rw [pdS_c u2.2.2.1] at pc
    rw [if_neg q, if_neg q, pc]
    rfl
theorem a_who (hK : 3000 ≤ K) (hn : 159 ≤ n) {p : Nat} {L : List Stm} (A : AQ h n p L) (e : ∀ a, a < 73 → h a = H a) {f y k i d : Nat} (hf : f < 2) (hy : y ≤ 14) (hk : k ≤ 2) (hi : i ≤ 14) (hd : d ≤ 1499) : ∃ g : mm_H, q_X10_who K h n 48 (ni f) (ni y) (ni d) (ni k) (ni i) = some (pdS H f y (ni d) (lnS H 2 f (fun _ => L) (ni d) y i) k, g) ∧ PS g ∧ SW h g := by
  have c := A.1
  obtain ⟨g1, e1, u1, w1⟩ := a_open hK hn A e hf hy (ni d)
  obtain ⟨g2, e2, u2, w2, r2⟩ := u1.fill hK hn (by omega) (Nat.le_refl y) (by omega)
  refine ⟨g2, ?_, u2.1, w1.trans w2.sw⟩
  have prH : PRT g2 := A.2.2.2.1.c (g := g2) (fun a q => (u2.2.2.1 a q).trans (e a q).symm)
  have pc := (z_partOf hK u2.1 hn u2.2.1.2.2.1 prH (f := f) (by omega) hy hk (ni d) (lnS H 2 f (fun _ => L) (ni d) y i)).1
  rw [pdS_c u2.2.2.1] at pc
  unfold q_X10_who
  rw [gq_48 c hn, Option.bind_some, y_pre c hn A.2.1.2.1, if_pos (a_ok A hf hy hd), z_X10_isWithin, Option.bind_some, if_neg (show ¬ mm_in (ni k) 0 2 = 0 from a_in (N := 2) (by omega) hk), z_X10_isWithin, Option.bind_some, if_neg (show ¬ mm_in (ni i) 0 14 = 0 from a_in (N := 14) (by omega) hi)]
  simp only [Option.bind_some, gq_48 c hn, e1, g_48_1 u1.1 hn, gq_73 u1.1 hn, e2, g_48_0 u2.1 hn, g_48_1 u2.1 hn, gq_73 u2.1 hn, z_lineAtC u2.1 hn hy hi, r2 y (Nat.le_refl y) (Nat.le_refl y) i (by omega), gq_49 u2.1 hn, pc]
theorem a_worth (hK : 3000 ≤ K) (hn : 159 ≤ n) {p : Nat} {L : List Stm} (A : AQ h n p L) (e : ∀ a, a < 73 → h a = H a) {f y : Nat} (hf : f < 2) (hy : y ≤ 14) (ht : cN (fI h 49 6) 1499) : ∃ g : mm_H, q_X10_worth K h n 48 (ni f) (ni y) = some (wrS H f (fun _ => L) y, g) ∧ PS g ∧ SW h g := by
  have c := A.1
  have n10 : ¬ (1 : Int32) = 0 := by decide
  obtain ⟨g, e1, u1, w1⟩ := a_open hK hn A e hf hy (fI h 49 6)
  refine ⟨g, ?_, u1.1, w1⟩
  have ok := a_ok A hf hy (d := 0) (by omega)
  unfold q_X10_worth q_X10_isFirmsYear
  simp only [gq_48 c hn, y_X10_isFirm c hn A.2.1.2.1, Option.bind_some, ok.1, ok.2.1, if_false, z_X10_isWithin, n10, g_48_0 c hn, g_49_6 c hn, e1, g_48_1 u1.1 hn, gq_73 u1.1 hn, z_worthAt u1.1 hn hy, u1.2.2.2.2.2.2.1 y (by omega)]
end ASKS

/-! ===== a review's own rules on both sides; the calls holds and worth ===== -/
section OWN
variable {K n : Nat} {h : mm_H}
theorem force_c {g : mm_H} (pg : PS g) (ph : PS h) (hn : 208 ≤ n) (q : QE h g) (r d : Int32) : ∀ (k : Nat) (v i : Int32), lp_X11_inForce_5 K g n 159 r d k v i = lp_X11_inForce_5 K h n 159 r d k v i := by
  intro k
  induction k with
  | zero => intro v i; rfl
  | succ k ih =>
    intro v i
    unfold lp_X11_inForce_5
    simp only [g_159_24 pg hn, g_159_24 ph hn, g_159_33 pg hn, g_159_33 ph hn, g_159_34 pg hn, g_159_34 ph hn, ge_179 pg hn, ge_179 ph hn, ge_180 pg hn, ge_180 ph hn, q.2.1, iA_c (q.1 179 (by omega) (by omega)), iA_c (q.1 180 (by omega) (by omega)), ih, Option.bind_some]
theorem inForce_c {g : mm_H} (pg : PS g) (ph : PS h) (hn : 208 ≤ n) (q : QE h g) (r d : Int32) : q_X11_inForce K g n 159 r d = q_X11_inForce K h n 159 r d := by
  unfold q_X11_inForce
  rw [force_c pg ph hn q]
theorem takenAt_c {g : mm_H} (pg : PS g) (ph : PS h) (hn : 208 ≤ n) (e : g 48 = h 48) (e' : g 156 = h 156) (z : Int32) : q_X10_takenAt K g n 48 z = q_X10_takenAt K h n 48 z := by
  unfold q_X10_takenAt
  simp only [g_48_7 pg hn, g_48_7 ph hn, g_48_6 pg hn, g_48_6 ph hn, ge_156 pg hn, ge_156 ph hn, fI_c e 7, rA_c e', Option.bind_some]
/-- what a review has when it is decided -/
theorem z_own (hK : 3000 ≤ K) (c : PS h) (hn : 208 ≤ n) (j : JK h n) (jn : JN h) {r : Nat} (hr : r < 3) : ∃ b z L, q_X11_inForce K h n 159 (ni r) (500 * ni r) = some z ∧ q_X10_takenAt K h n 48 z = some b ∧ RS h n b z L ∧ SO K n h r z := by
  obtain ⟨u, u1, u2, u3⟩ := z_takenOf hK c hn j jn.2.1 (ni r) (500 * ni r)
  have so : SO K n h r u := fun g pg qe => by
    unfold q_X11_setOf
    rw [g_159_56 pg hn, qe.2.2.1, jn.2.2.2.2.2.2]
    show (if ni r = -1 then _ else _) = _
    rw [if_neg (ni_n1 (by omega)), gq_159 pg hn]
    show (q_X11_inForce K g n 159 (ni r) (500 * ni r)).bind _ = _
    rw [inForce_c pg c hn qe, u2]
    rfl
  rcases u3 with ⟨rfl, e⟩ | ⟨w, p, L, a, b, rfl, hw, e, R⟩
  · exact ⟨none, -1, [], u2, e, Or.inl ⟨rfl, rfl, rfl⟩, so⟩
  · exact ⟨some p, ni w, L, u2, e, Or.inr ⟨p, w, w + 1, a, b, rfl, rfl, by omega, by omega, R⟩, so⟩
theorem z_useRules (c : PS h) (hn : 208 ≤ n) {r : Nat} (hr : r < 3) {b : Option Nat} {z : Int32} {L : List Stm} (R : RS h n b z L) : q_X7_useRules K h n 73 (ni r) b = some (mm_sr h 74 r b) := by
  have i3 : inb (ni r) 3 = true := ni_inb (by omega) hr
  have t3 : (ni r).toNatClampNeg = r := ni_tn (by omega)
  have e74 : h 74 = .inl (.object "WaterReview$RuleBook", 3, .inr (.inr (.inr (.inr (rA h 74))))) := cs_74 c
  unfold q_X7_useRules
  rw [if_neg (ni_pos (by omega)), if_neg (fun q => by have := (ni_le (a := 3) (by omega) (by omega)).mp q; omega), g_73_2 c hn]
  rcases R with ⟨rfl, -, -⟩ | ⟨p, w, B, a, b', rfl, -, -, -, bk, -⟩
  · have s : stRN h n 74 5 (ni r) = some (mm_sr h 74 r none) := by
      unfold stRN
      rw [if_pos ⟨by omega, by omega⟩, e74]
      show (if mm_tys[5]? = some (.object "WaterReview$RuleBook") ∧ inb (ni r) 3 = true then some (mm_sr h 74 (ni r).toNatClampNeg none) else none) = _
      rw [if_pos ⟨rfl, i3⟩, t3]
    simp only [Option.bind_some, s]
  · obtain ⟨hp, hpn, q, f, e5, -⟩ := bk
    have ck : ckr h n p 6 = true := by
      unfold ckr
      rw [e5]
      simp
      omega
    have s : stR h n 74 5 6 (ni r) p = some (mm_sr h 74 r (some p)) := by
      unfold stR
      rw [if_pos ⟨by omega, by omega⟩, e74]
      show (if mm_tys[5]? = some (.object "WaterReview$RuleBook") ∧ inb (ni r) 3 = true ∧ ckr h n p 6 = true then some (mm_sr h 74 (ni r).toNatClampNeg (some p)) else none) = _
      rw [if_pos ⟨rfl, i3, ck⟩, t3]
    simp only [Option.bind_some, s]
theorem vup_s (f : Nat → Option Nat) (i : Nat) (x : Option Nat) : va_up f i x i = x := by simp [va_up]
theorem vup_n {f : Nat → Option Nat} {i j : Nat} {x : Option Nat} (q : j ≠ i) : va_up f i x j = f j := by simp [va_up, q]
theorem z_useStep (hK : 3000 ≤ K) (hn : 208 ≤ n) (c : PS h) (j : JK h n) (jn : JN h) {g : mm_H} (pg : PS g) (e : ∀ a, a ≠ 74 → g a = h a) {r : Nat} (hr : r < 3) {b : Option Nat} {z : Int32} {L : List Stm} (e1 : q_X11_inForce K h n 159 (ni r) (500 * ni r) = some z) (e2 : q_X10_takenAt K h n 48 z = some b) (R : RS h n b z L) (k : Nat) : lp_X10_useOwnRules_2 K n 48 (k + 1) (ni r) g = lp_X10_useOwnRules_2 K n 48 k (ni (r + 1)) (mm_sr g 74 r b) := by
  have qe : QE h g := ⟨fun a _ _ => e a (by omega), fI_c (e 159 (by decide)) _, fI_c (e 159 (by decide)) _, fI_c (e 159 (by decide)) _⟩
  have jg : JK g n := JK_c (fun a q => e a (by omega)) (fI_c (e 48 (by decide)) _) (by unfold fR; rw [e 48 (by decide)]) (fI_c (e 48 (by decide)) _) j
  have j24 : fI g 159 24 = fI g 48 7 := by rw [fI_c (e 159 (by decide)) 24, fI_c (e 48 (by decide)) 7]; exact jn.2.1
  obtain ⟨u, u1, u2, -⟩ := z_takenOf hK pg hn jg j24 (ni r) (500 * ni r)
  rw [inForce_c pg c hn qe, e1] at u2
  obtain rfl := Option.some.inj u2
  have t2 : q_X10_takenAt K g n 48 z = some b := by rw [takenAt_c pg c hn (e 48 (by decide)) (e 156 (by decide)), e2]
  have Rg : RS g n b z L := RS_c (fun a q => e a (by omega)) R
  have us := z_useRules (K := K) pg hn hr Rg
  have e500 : ni r * 500 = 500 * ni r := Int32.mul_comm _ _
  conv => lhs; unfold lp_X10_useOwnRules_2
  rw [if_neg (fun q => by have := (ni_le (a := 3) (by omega) (by omega)).mp q; omega), e500]
  simp only [g_48_1 pg hn, gq_48 pg hn, Option.bind_some, u1, t2, gq_73 pg hn, us, ni_1]
theorem z_useOwn (hK : 3000 ≤ K) (c : PS h) (hn : 208 ≤ n) (j : JK h n) (jn : JN h) : ∃ (g : mm_H) (Ls : Nat → List Stm), q_X10_useOwnRules K h n 48 = some g ∧ PS g ∧ (∀ a, a ≠ 74 → g a = h a) ∧ ∀ r, r < 3 → ∃ z, RS h n (rA g 74 r) z (Ls r) ∧ SO K n h r z := by
  obtain ⟨b0, z0, L0, x0, y0, R0, s0⟩ := z_own hK c hn j jn (r := 0) (by omega)
  obtain ⟨b1, z1, L1, x1, y1, R1, s1⟩ := z_own hK c hn j jn (r := 1) (by omega)
  obtain ⟨b2, z2, L2, x2, y2, R2, s2⟩ := z_own hK c hn j jn (r := 2) (by omega)
  have p0 : PS (mm_sr h 74 0 b0) := ps_74 c _ _
  have p1 : PS (mm_sr (mm_sr h 74 0 b0) 74 1 b1) := ps_74 p0 _ _
  have p2 : PS (mm_sr (mm_sr (mm_sr h 74 0 b0) 74 1 b1) 74 2 b2) := ps_74 p1 _ _
  have o0 : ∀ a, a ≠ 74 → mm_sr h 74 0 b0 a = h a := fun a ha => mm_sr_n ha
  have o1 : ∀ a, a ≠ 74 → mm_sr (mm_sr h 74 0 b0) 74 1 b1 a = h a := fun a ha => (mm_sr_n ha).trans (o0 a ha)
  obtain ⟨k, hk⟩ : ∃ k, K = k + 4 := ⟨K - 4, by omega⟩
  have t0 := z_useStep hK hn c j jn c (fun _ _ => rfl) (r := 0) (by omega) x0 y0 R0 (k + 3)
  have t1 := z_useStep hK hn c j jn p0 o0 (r := 1) (by omega) x1 y1 R1 (k + 2)
  have t2 := z_useStep hK hn c j jn p1 o1 (r := 2) (by omega) x2 y2 R2 (k + 1)
  have t3 : ∀ f : mm_H, lp_X10_useOwnRules_2 K n 48 (k + 1) (ni 3) f = some f := fun f => by
    unfold lp_X10_useOwnRules_2
    rw [if_pos (by decide)]
  refine ⟨_, fun r => if r = 0 then L0 else if r = 1 then L1 else L2, ?_, p2, fun a ha => (mm_sr_n ha).trans (o1 a ha), fun r hr => ?_⟩
  · unfold q_X10_useOwnRules
    have : lp_X10_useOwnRules_2 K n 48 K 0 h = some (mm_sr (mm_sr (mm_sr h 74 0 b0) 74 1 b1) 74 2 b2) := by
      show lp_X10_useOwnRules_2 K n 48 K (ni 0) h = _
      rw [show lp_X10_useOwnRules_2 K n 48 K = lp_X10_useOwnRules_2 K n 48 (k + 4) by rw [← hk], t0, t1, t2, t3]
    rw [this]
    rfl
  · rw [is_74 p1, is_74 p0, is_74 c]
    rcases (by omega : r = 0 ∨ r = 1 ∨ r = 2) with rfl | rfl | rfl
    · rw [vup_n (by decide), vup_n (by decide), vup_s]
      exact ⟨z0, R0, s0⟩
    · rw [vup_n (by decide), vup_s]
      exact ⟨z1, R1, s1⟩
    · rw [vup_s]
      exact ⟨z2, R2, s2⟩
theorem wrS_c {g : mm_H} (e : ∀ a, a < 73 → g a = h a) (f : Nat) (Ls : Nat → List Stm) : ∀ y, wrS g f Ls y = wrS h f Ls y
  | 0 => by
    unfold wrS
    rw [iA_c (e 50 (by omega))]
  | y + 1 => by
    unfold wrS
    rw [wrS_c e f Ls y, wdS_c e, cdS_c (fun a _ _ => e a (by omega)), fI_c (e 56 (by omega)) 4]
theorem wwS_c {g : mm_H} (e : ∀ a, a < 73 → g a = h a) (f : Nat) (Ls : Nat → List Stm) (y : Nat) : wwS g f Ls y = wwS h f Ls y := by
  unfold wwS
  rw [wrS_c e, wdS_c e]
theorem z_openOwn (hK : 3000 ≤ K) (c : PS h) (hn : 208 ≤ n) (j : JR h) (jk : JK h n) (jn : JN h) {f ly : Nat} (hf : f ≤ 10) (hly : ly ≤ 14) (d : Int32) : ∃ (g : mm_H) (Ls : Nat → List Stm), q_X10_openOwn K h n 48 (ni f) (ni ly) d = some g ∧ PS g ∧ (∀ a, a < 73 ∨ a = 75 ∨ a = 91 ∨ (108 ≤ a ∧ a ≠ 142) → g a = h a) ∧ fI g 73 11 = ni f ∧ fI g 73 12 = d ∧ CY g h f Ls (ly + 1) ∧ (∀ i, i ≤ ly + 1 → jA g 107 i = wrS h f Ls i) ∧ ∀ r, r < 3 → ∃ z, RS h n (rA g 74 r) z (Ls r) ∧ SO K n h r z := by
  obtain ⟨g1, Ls, e1, p1, o1, R1⟩ := z_useOwn hK c hn jk jn
  have z2 : ∃ f, g1 2 = .inl (.int, 0, .inl f) := by rw [o1 2 (by decide)]; exact jk.1
  obtain ⟨g, e2, p2, o2, a11, a12, cy, w⟩ := z_open hK p1 hn (JR_c (fun a q => o1 a (by omega)) j) z2 hf hly (Ls := Ls) (fun r hr => by
    obtain ⟨z, r1, -⟩ := R1 r hr
    exact ⟨z, RS_c (fun a q => o1 a (by omega)) r1⟩) d
  have e73 : ∀ a, a < 73 → g1 a = h a := fun a ha => o1 a (by omega)
  refine ⟨g, Ls, ?_, p2, fun a ha => (o2 a (by omega)).trans (o1 a (by omega)), a11, a12, fun y hy => ?_, fun i hi => by rw [w i hi, wrS_c e73], fun r hr => by rw [rA_c (o2 74 (by omega))]; exact R1 r hr⟩
  · unfold q_X10_openOwn
    simp only [gq_48 c hn, e1, g_48_1 p1 hn, gq_73 p1 hn, e2, Option.bind_some]
  · have := cy y hy
    rw [wwS_c e73] at this
    exact this
end OWN

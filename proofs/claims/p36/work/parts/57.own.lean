/-! ===== a review's own rules on both sides; the calls holds and worth ===== -/
section OWN
variable {K n : Nat} {h : mm_H}
theorem takenAt_c {g : mm_H} (pg : PS g) (ph : PS h) (hn : 159 ≤ n) (e : g 48 = h 48) (e' : g 156 = h 156) (z : Int32) : q_X10_takenAt K g n 48 z = q_X10_takenAt K h n 48 z := by
  unfold q_X10_takenAt
  simp only [g_48_7 pg hn, g_48_7 ph hn, g_48_6 pg hn, g_48_6 ph hn, ge_156 pg hn, ge_156 ph hn, fI_c e 7, rA_c e', Option.bind_some]
theorem z_useRules (c : PS h) (hn : 159 ≤ n) {r : Nat} (hr : r < 3) {b : Option Nat} {z : Int32} {L : List Stm} (R : RS h n b z L) : q_X7_useRules K h n 73 (ni r) b = some (mm_sr h 74 r b) := by
  have i3 : inb (ni r) 3 = true := ni_inb (by omega) hr
  have t3 : (ni r).toNatClampNeg = r := ni_tn (by omega)
  have e74 : h 74 = .inl (.object "WaterReview$RuleBook", 3, .inr (.inr (.inr (.inr (rA h 74))))) := cs_74 c
  unfold q_X7_useRules
  rw [if_neg (ni_pos (by omega)), if_neg (fun q => by have := (ni_le (a := 3) (by omega) (by omega)).mp q; omega), g_73_2 c hn]
  rcases R with ⟨rfl, -, -⟩ | ⟨p, w, B, a, b', rfl, -, -, -, bk, -⟩
  · have s : stRN h n 74 5 (ni r) = some (mm_sr h 74 r none) := by
      unfold stRN
      rw [if_pos ⟨by omega, by omega⟩, e74]
      show (if mm_tys[5]? = some (.object "WaterReview$RuleBook") ∧ inb (ni r) 3 = true then some (mm_sr h 74 (ni r).toNatClampNeg none) else none) = _
      rw [if_pos ⟨rfl, i3⟩, t3]
    simp only [Option.bind_some, s]
  · obtain ⟨hp, hpn, q, f, e5, -⟩ := bk
    have ck : ckr h n p 6 = true := by
      unfold ckr
      rw [e5]
      simp
      omega
    have s : stR h n 74 5 6 (ni r) p = some (mm_sr h 74 r (some p)) := by
      unfold stR
      rw [if_pos ⟨by omega, by omega⟩, e74]
      show (if mm_tys[5]? = some (.object "WaterReview$RuleBook") ∧ inb (ni r) 3 = true ∧ ckr h n p 6 = true then some (mm_sr h 74 (ni r).toNatClampNeg (some p)) else none) = _
      rw [if_pos ⟨rfl, i3, ck⟩, t3]
    simp only [Option.bind_some, s]
theorem vup_s (f : Nat → Option Nat) (i : Nat) (x : Option Nat) : va_up f i x i = x := by simp [va_up]
theorem vup_n {f : Nat → Option Nat} {i j : Nat} {x : Option Nat} (q : j ≠ i) : va_up f i x j = f j := by simp [va_up, q]
theorem TK.rs {p : Nat} {L : List Stm} (t : TK h n p L) : RS h n (some p) 0 L := Or.inr ⟨p, 0, 1, 0, 0, rfl, rfl, by omega, by omega, t.2.2.2.1, by have := t.2.2.2.2.1; omega, t.2.2.2.2.2, trivial⟩
theorem TK.c {g : mm_H} {p : Nat} {L : List Stm} (e : ∀ a, a < 48 ∨ a = 156 ∨ 159 ≤ a → g a = h a) (e7 : fI g 48 7 = fI h 48 7) (t : TK h n p L) : TK g n p L := by
  obtain ⟨t1, t2, t3, t4, t5⟩ := t
  refine ⟨by rw [e 2 (by omega)]; exact t1, e7.trans t2, by rw [rA_c (e 156 (by omega))]; exact t3, ?_, t5⟩
  obtain ⟨b1, b2, q, f, b3, b4, b5, b6, b7⟩ := t4
  refine ⟨b1, b2, q, f, (e p (by omega)).trans b3, b4, b5, (e q (by omega)).trans b6, fun i s hs => ?_⟩
  obtain ⟨r, r1, r2, r3, u, r4, r5⟩ := b7 i s hs
  refine ⟨r, r1, r2, r3, u, (e r (by omega)).trans r4, ?_⟩
  rcases r5 with r5 | ⟨k0, k1, k2, k3, k4⟩
  · exact Or.inl r5
  · exact Or.inr ⟨k0, k1, k2, k3, (e u (by omega)).trans k4.1, k4.2⟩
theorem z_useStep (hK : 3000 ≤ K) (hn : 159 ≤ n) {p : Nat} {L : List Stm} {g : mm_H} (pg : PS g) (t : TK g n p L) {r : Nat} (hr : r < 3) (k : Nat) : lp_X10_useOwnRules_2 K n 48 (k + 1) (ni r) g = lp_X10_useOwnRules_2 K n 48 k (ni (r + 1)) (mm_sr g 74 r (some p)) := by
  have us := z_useRules (K := K) pg hn hr t.rs
  have e500 : ni r * 500 = ni (r * 500) := ni_mul r 500
  conv => lhs; unfold lp_X10_useOwnRules_2
  rw [if_neg (fun q => by have := (ni_le (a := 3) (by omega) (by omega)).mp q; omega), e500]
  simp only [g_48_1 pg hn, gq_48 pg hn, Option.bind_some, t.of_ hK pg hn (r := r) (d := r * 500) (by omega) (by omega), t.at_ pg hn, gq_73 pg hn, us, ni_1]
theorem z_useOwn (hK : 3000 ≤ K) (c : PS h) (hn : 159 ≤ n) {p : Nat} {L : List Stm} (t : TK h n p L) : ∃ g : mm_H, q_X10_useOwnRules K h n 48 = some g ∧ PS g ∧ (∀ a, a ≠ 74 → g a = h a) ∧ ∀ r, r < 3 → rA g 74 r = some p := by
  have p0 : PS (mm_sr h 74 0 (some p)) := ps_74 c _ _
  have p1 : PS (mm_sr (mm_sr h 74 0 (some p)) 74 1 (some p)) := ps_74 p0 _ _
  have p2 : PS (mm_sr (mm_sr (mm_sr h 74 0 (some p)) 74 1 (some p)) 74 2 (some p)) := ps_74 p1 _ _
  have o0 : ∀ a, a ≠ 74 → mm_sr h 74 0 (some p) a = h a := fun a ha => mm_sr_n ha
  have o1 : ∀ a, a ≠ 74 → mm_sr (mm_sr h 74 0 (some p)) 74 1 (some p) a = h a := fun a ha => (mm_sr_n ha).trans (o0 a ha)
  obtain ⟨k, hk⟩ : ∃ k, K = k + 4 := ⟨K - 4, by omega⟩
  have q1 : TK (mm_sr h 74 0 (some p)) n p L := t.c (fun a q => o0 a (by omega)) (fI_c (o0 48 (by decide)) 7)
  have q2 : TK (mm_sr (mm_sr h 74 0 (some p)) 74 1 (some p)) n p L := t.c (fun a q => o1 a (by omega)) (fI_c (o1 48 (by decide)) 7)
  have t0 := z_useStep hK hn c t (r := 0) (by omega) (k + 3)
  have t1 := z_useStep hK hn p0 q1 (r := 1) (by omega) (k + 2)
  have t2 := z_useStep hK hn p1 q2 (r := 2) (by omega) (k + 1)
  have t3 : ∀ f : mm_H, lp_X10_useOwnRules_2 K n 48 (k + 1) (ni 3) f = some f := fun f => by
    unfold lp_X10_useOwnRules_2
    rw [if_pos (by decide)]
  refine ⟨_, ?_, p2, fun a ha => (mm_sr_n ha).trans (o1 a ha), fun r hr => ?_⟩
  · unfold q_X10_useOwnRules
    have : lp_X10_useOwnRules_2 K n 48 K 0 h = some (mm_sr (mm_sr (mm_sr h 74 0 (some p)) 74 1 (some p)) 74 2 (some p)) := by
      show lp_X10_useOwnRules_2 K n 48 K (ni 0) h = _
      rw [show lp_X10_useOwnRules_2 K n 48 K = lp_X10_useOwnRules_2 K n 48 (k + 4) by rw [← hk], t0, t1, t2, t3]
    rw [this]
    rfl
  · rw [is_74 p1, is_74 p0, is_74 c]
    rcases (by omega : r = 0 ∨ r = 1 ∨ r = 2) with rfl | rfl | rfl
    · rw [vup_n (by decide), vup_n (by decide), vup_s]
    · rw [vup_n (by decide), vup_s]
    · rw [vup_s]
theorem wrS_c {g : mm_H} (e : ∀ a, a < 73 → g a = h a) (f : Nat) (Ls : Nat → List Stm) : ∀ y, wrS g f Ls y = wrS h f Ls y
  | 0 => by
    unfold wrS
    rw [iA_c (e 50 (by omega))]
  | y + 1 => by
    unfold wrS
    rw [wrS_c e f Ls y, wdS_c e, cdS_c (fun a _ _ => e a (by omega)), fI_c (e 56 (by omega)) 4]
theorem wwS_c {g : mm_H} (e : ∀ a, a < 73 → g a = h a) (f : Nat) (Ls : Nat → List Stm) (y : Nat) : wwS g f Ls y = wwS h f Ls y := by
  unfold wwS
  rw [wrS_c e, wdS_c e]
theorem z_openOwn (hK : 3000 ≤ K) (c : PS h) (hn : 159 ≤ n) (j : JR h) {p : Nat} {L : List Stm} (t : TK h n p L) {f ly : Nat} (hf : f ≤ 10) (hly : ly ≤ 14) (d : Int32) : ∃ g : mm_H, q_X10_openOwn K h n 48 (ni f) (ni ly) d = some g ∧ PS g ∧ (∀ a, a < 73 ∨ a = 75 ∨ a = 91 ∨ (108 ≤ a ∧ a ≠ 142) → g a = h a) ∧ fI g 73 11 = ni f ∧ fI g 73 12 = d ∧ CY g h f (fun _ => L) (ly + 1) ∧ (∀ i, i ≤ ly + 1 → jA g 107 i = wrS h f (fun _ => L) i) ∧ ∀ r, r < 3 → rA g 74 r = some p := by
  obtain ⟨g1, e1, p1, o1, R1⟩ := z_useOwn hK c hn t
  have z2 : ∃ f, g1 2 = .inl (.int, 0, .inl f) := by rw [o1 2 (by decide)]; exact t.1
  obtain ⟨g, e2, p2, o2, a11, a12, cy, w⟩ := z_open hK p1 hn (JR_c (fun a q => o1 a (by omega)) j) z2 hf hly (Ls := fun _ => L) (fun r hr => ⟨0, by rw [R1 r hr]; exact RS_c (fun a q => o1 a (by omega)) t.rs⟩) d
  have e73 : ∀ a, a < 73 → g1 a = h a := fun a ha => o1 a (by omega)
  refine ⟨g, ?_, p2, fun a ha => (o2 a (by omega)).trans (o1 a (by omega)), a11, a12, fun y hy => ?_, fun i hi => by rw [w i hi, wrS_c e73], fun r hr => by rw [rA_c (o2 74 (by omega))]; exact R1 r hr⟩
  · unfold q_X10_openOwn
    simp only [gq_48 c hn, e1, g_48_1 p1 hn, gq_73 p1 hn, e2, Option.bind_some]
  · have := cy y hy
    rw [wwS_c e73] at this
    exact this
end OWN

/-! ===== other rules stand in for a review's own ===== -/
section INSTEAD
variable {K n : Nat} {h : mm_H}
/-- all is kept but the cells in which questions are worked out, and which rules stand in -/
def SV (h g : mm_H) : Prop := (∀ a, a < 73 ∨ (151 ≤ a ∧ a ≤ 158) ∨ (160 ≤ a ∧ a ≤ 199) ∨ a = 207 ∨ 208 ≤ a → g a = h a) ∧ ∀ k, k ≤ 31 → fI g 159 k = fI h 159 k
theorem SV.trans {g f : mm_H} (a : SV h g) (b : SV g f) : SV h f := ⟨fun x q => (b.1 x q).trans (a.1 x q), fun k p => (b.2 k p).trans (a.2 k p)⟩
theorem SW.sv {g : mm_H} (a : SW h g) : SV h g := ⟨a.1, fun k p => a.2 k (by omega) (by omega) (by omega) (by omega)⟩
theorem SV_JR {g : mm_H} (a : SV h g) (j : JR h) : JR g := by
  obtain ⟨uT, uF, uA, uW, uB, uL, uP⟩ := j
  have e : ∀ x, x < 73 ∨ (151 ≤ x ∧ x ≤ 158) ∨ (160 ≤ x ∧ x ≤ 199) ∨ x = 207 → (∀ k, fI g x k = fI h x k) ∧ iA g x = iA h x ∧ jA g x = jA h x := fun x q => ⟨fun k => fI_c (a.1 x (by omega)) k, iA_c (a.1 x (by omega)), jA_c (a.1 x (by omega))⟩
  refine ⟨?_, ?_, ?_, ?_, ?_, ?_, ?_⟩
  · unfold JT
    rw [a.2 0 (by decide), (e 49 (by omega)).1, (e 158 (by omega)).2.1, (e 207 (by omega)).2.1]
    exact uT
  · unfold JF
    rw [a.2 1 (by decide), (e 49 (by omega)).1, (e 50 (by omega)).2.1, (e 162 (by omega)).2.2]
    exact uF
  · unfold JA
    rw [a.2 2 (by decide), (e 51 (by omega)).1, (e 52 (by omega)).2.1, (e 53 (by omega)).2.1, (e 54 (by omega)).2.1, (e 55 (by omega)).2.1, (e 160 (by omega)).2.1, (e 161 (by omega)).2.1, (e 163 (by omega)).2.1, (e 164 (by omega)).2.1]
    exact uA
  · unfold JW
    rw [a.2 8 (by decide), (e 56 (by omega)).1, (e 56 (by omega)).1, (e 57 (by omega)).2.1, (e 58 (by omega)).2.1, (e 59 (by omega)).2.1, (e 60 (by omega)).2.1, (e 165 (by omega)).2.1, (e 166 (by omega)).2.1, (e 167 (by omega)).2.1, (e 168 (by omega)).2.1]
    exact uW
  · unfold JB
    rw [a.2 9 (by decide), (e 61 (by omega)).1, (e 62 (by omega)).2.1, (e 63 (by omega)).2.1, (e 64 (by omega)).2.1, (e 65 (by omega)).2.1, (e 66 (by omega)).2.1, (e 169 (by omega)).2.1, (e 170 (by omega)).2.1, (e 171 (by omega)).2.1, (e 172 (by omega)).2.1, (e 173 (by omega)).2.1]
    exact uB
  · unfold JL
    rw [a.2 10 (by decide), (e 67 (by omega)).1, (e 68 (by omega)).2.1, (e 69 (by omega)).2.1, (e 70 (by omega)).2.1, (e 71 (by omega)).2.1, (e 72 (by omega)).2.1, (e 174 (by omega)).2.1, (e 175 (by omega)).2.1, (e 176 (by omega)).2.1, (e 177 (by omega)).2.1]
    exact uL
  · unfold JP
    rw [a.2 26 (by decide), (e 48 (by omega)).1, (e 155 (by omega)).2.1, (e 198 (by omega)).2.1]
    exact uP
theorem SV_FB {g : mm_H} (s : SV h g) (e : fI g 159 56 = fI h 159 56) : FB h g :=
  ⟨fun a ha => s.1 a (by omega), fI_c (s.1 48 (by omega)) 7, fR_c (s.1 48 (by omega)) 8, fI_c (s.1 48 (by omega)) 10, s.2 24 (by decide), s.2 25 (by decide), s.2 31 (by decide), e, fI_c (s.1 151 (by omega)) 5, s.2 30 (by decide), fI_c (s.1 48 (by omega)) 5⟩
theorem SV.put {g : mm_H} (k : Nat) (hk : k = 56 ∨ k = 57) (v : Int32) : SV g (mm_sf g 159 k (.int v)) := by
  refine ⟨fun a q => mm_sf_n (by omega), fun k' p => fI_sf_o (by omega) _⟩
theorem force_v {g : mm_H} (pg : PS g) (ph : PS h) (hn : 208 ≤ n) (q1 : ∀ a, 178 ≤ a → a ≤ 196 → g a = h a) (q2 : fI g 159 24 = fI h 159 24) (r d : Int32) : ∀ (k : Nat) (v i : Int32), lp_X11_inForce_5 K g n 159 r d k v i = lp_X11_inForce_5 K h n 159 r d k v i := by
  intro k
  induction k with
  | zero => intro v i; rfl
  | succ k ih =>
    intro v i
    unfold lp_X11_inForce_5
    simp only [g_159_24 pg hn, g_159_24 ph hn, g_159_33 pg hn, g_159_33 ph hn, g_159_34 pg hn, g_159_34 ph hn, ge_179 pg hn, ge_179 ph hn, ge_180 pg hn, ge_180 ph hn, q2, iA_c (q1 179 (by omega) (by omega)), iA_c (q1 180 (by omega) (by omega)), ih, Option.bind_some]
theorem SO_force (c : PS h) (hn : 208 ≤ n) {r : Nat} {z : Int32} (so : SO K n h r z) (hr : r < 3) (h56 : fI h 159 56 = -1) : q_X11_inForce K h n 159 (ni r) (500 * ni r) = some z := by
  have e := so h c QE.id_
  unfold q_X11_setOf at e
  rw [g_159_56 c hn, h56] at e
  simp only [Option.bind_some] at e
  rw [if_neg (ni_n1 (by omega)), gq_159 c hn] at e
  simp only [Option.bind_some] at e
  cases q : q_X11_inForce K h n 159 (ni r) (500 * ni r) with
  | none => rw [q] at e; cases e
  | some v => rw [q] at e; exact e
theorem SO_own {g : mm_H} (c : PS h) (pg : PS g) (hn : 208 ≤ n) (s : SV h g) {r : Nat} {z : Int32} (so : SO K n h r z) (hr : r < 3) (h56 : fI h 159 56 = -1) (g56 : fI g 159 56 ≠ ni r) : SO K n g r z := by
  have ef := SO_force c hn so hr h56
  intro f pf qe
  have e1 : q_X11_inForce K f n 159 (ni r) (500 * ni r) = some z := by
    rw [← ef]
    unfold q_X11_inForce
    rw [force_v pf c hn (fun a l1 l2 => (qe.1 a l1 l2).trans (s.1 a (by omega))) (qe.2.1.trans (s.2 24 (by decide)))]
  unfold q_X11_setOf
  rw [g_159_56 pf hn, qe.2.2.1]
  simp only [Option.bind_some]
  rw [if_neg (fun q => g56 q.symm), gq_159 pf hn]
  simp only [Option.bind_some, e1]
theorem SO_in {g : mm_H} (hn : 208 ≤ n) {r : Nat} {z : Int32} (g56 : fI g 159 56 = ni r) (g57 : fI g 159 57 = z) : SO K n g r z := by
  intro f pf qe
  unfold q_X11_setOf
  rw [g_159_56 pf hn, qe.2.2.1, g56]
  simp only [Option.bind_some, if_true, g_159_57 pf hn, qe.2.2.2, g57]
/-- the lists of statements, one of them another one -/
def LsI (Ls : Nat → List Stm) (r0 : Nat) (L : List Stm) : Nat → List Stm := fun r => if r = r0 then L else Ls r
/-- the model's heap in which other rules stand in -/
def inS (g : mm_H) (r w : Nat) : mm_H := mm_sf (mm_sf g 159 56 (.int (ni r))) 159 57 (.int (ni w))
theorem inS_1 {g : mm_H} (c : PS g) (r w : Nat) : PS (inS g r w) ∧ SV g (inS g r w) ∧ fI (inS g r w) 159 56 = ni r ∧ fI (inS g r w) 159 57 = ni w := by
  refine ⟨ps_159_57 (ps_159_56 c _) _, (SV.put 56 (Or.inl rfl) _).trans (SV.put 57 (Or.inr rfl) _), ?_, ?_⟩
  · unfold inS
    rw [fI_sf_o (by decide), fs_159_56 c]
  · unfold inS
    rw [fs_159_57 (ps_159_56 c _)]
theorem z_inS (c : PS h) (hn : 208 ≤ n) (h56 : fI h 159 56 = -1) {Ls : Nat → List Stm} (R : ∀ r, r < 3 → ∃ b z, RS h n b z (Ls r) ∧ SO K n h r z) {p w B a b r0 : Nat} {L : List Stm} (hr0 : r0 < 3) (hw : w < 13) (hB : B ≤ 9) (bR : bothR h n p w B L a b) {g : mm_H} (pg : PS g) (s : SV h g) : ∀ r, r < 3 → ∃ b z, RS (inS g r0 w) n b z (LsI Ls r0 L r) ∧ SO K n (inS g r0 w) r z := by
  intro r hr
  obtain ⟨p1, s1, e56, e57⟩ := inS_1 pg r0 w
  have sv := s.trans s1
  unfold LsI
  by_cases q : r = r0
  · subst q
    rw [if_pos rfl]
    exact ⟨some p, ni w, Or.inr ⟨p, w, B, a, b, rfl, rfl, hw, hB, bothR_c (fun x hx => sv.1 x (by omega)) bR⟩, SO_in hn e56 e57⟩
  · rw [if_neg q]
    obtain ⟨b', z, R', so⟩ := R r hr
    refine ⟨b', z, RS_c (fun x hx => sv.1 x (by omega)) R', SO_own c p1 hn sv so hr h56 ?_⟩
    rw [e56]
    exact fun e => q ((ni_inj (by omega) (by omega)).mp e).symm
/-- the class's sheet between two questions: which books it goes by -/
def CB (n : Nat) (h : mm_H) (Ls : Nat → List Stm) (g : mm_H) : Prop := PS g ∧ SW h g ∧ ∀ r, r < 3 → ∃ z, RS g n (rA g 74 r) z (Ls r)
theorem CB.cs {Ls : Nat → List Stm} {g g' : mm_H} (u : CB n h Ls g) (p : PS g') (s : CS g g') : CB n h Ls g' := by
  obtain ⟨-, u2, u3⟩ := u
  refine ⟨p, u2.trans s.sw, fun r hr => ?_⟩
  obtain ⟨z, R⟩ := u3 r hr
  refine ⟨z, ?_⟩
  rw [rA_c (s.1 74 (by omega))]
  exact RS_c (fun a q => s.1 a (by omega)) R
theorem z_openBy (hK : 3000 ≤ K) (hn : 208 ≤ n) (j : JR h) (jk : JK h n) {Ls : Nat → List Stm} {g : mm_H} (u : CB n h Ls g) {F f ly : Nat} (uF : fI h 49 5 = ni F) (hF : F ≤ 11) (hf : f < F) (hly : ly ≤ 14) (d : Int32) : ∃ g', q_X7_open K g n 73 (ni f) (ni ly) d = some g' ∧ CF n h F f d Ls (ly + 1) g' ∧ CB n h Ls g' := by
  obtain ⟨u1, u2, u3⟩ := u
  have e73 : ∀ a, a < 73 → g a = h a := fun a ha => u2.1 a (by omega)
  have z2 : ∃ f, g 2 = .inl (.int, 0, .inl f) := by rw [u2.1 2 (by omega)]; exact jk.1
  have jg := SW_JR u2 j
  obtain ⟨g', e, p, o, a11, a12, cy, w⟩ := z_open hK u1 hn jg z2 (f := f) (by omega) hly u3 d
  have sw : SW g g' := ⟨fun a q => o a (by omega), fun k _ _ _ _ => fI_c (o 159 (by omega)) k⟩
  have e74 : rA g' 74 = rA g 74 := rA_c (o 74 (by omega))
  have R' : ∀ r, r < 3 → ∃ z, RS g' n (rA g' 74 r) z (Ls r) := fun r hr => by
    obtain ⟨z, R⟩ := u3 r hr
    refine ⟨z, ?_⟩
    rw [e74]
    exact RS_c (fun a q => o a (by omega)) R
  refine ⟨g', e, ⟨p, SW_JR sw jg, fun a ha => (o a (by omega)).trans (e73 a ha), a11, a12, fun y hy => ?_, fun i hi => by rw [w i hi, wrS_c e73], R', ?_, hF, hf⟩, p, u2.trans sw, R'⟩
  · have := cy y hy
    rw [wwS_c e73] at this
    exact this
  · rw [fI_c (o 49 (by omega)) 5, fI_c (e73 49 (by omega)) 5, uF]
end INSTEAD

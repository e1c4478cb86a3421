/-! ===== the law's works, what it logs, what is done ===== -/
section WORKS
variable {K n : Nat} {h g : mm_H}
/-- a work's coins, its year due, the day it is done -/
def wcN (x : Nat → Int32) (w : Nat) : Nat := 1 + bt (x (15 + w)) 4095
def wdN (x : Nat → Int32) (w : Nat) : Nat := bt (x (15 + w) >>> (12 &&& 31)) 7 % 5
def wyN (x : Nat → Int32) (w : Nat) : Nat := bt (x (15 + w) >>> (15 &&& 31)) 511
def tdN (x : Nat → Int32) : Nat → Nat
  | 0 => 0
  | w + 1 => if wyN x w ≤ tdN x w then tdN x w else if (x (15 + w) >>> (24 &&& 31)) &&& 3 = 0 then tdN x w else wyN x w
def dnB (x : Nat → Int32) (w : Nat) : Bool := !decide (wyN x w ≤ tdN x w) && !decide ((x (15 + w) >>> (24 &&& 31)) &&& (3 : Int32) = 0)
def dD (x : Nat → Int32) (e : Int32) (m w : Nat) : Int32 := if w < m ∧ dnB x w = true then ni (wyN x w) else e
theorem wy_le (x : Nat → Int32) (w : Nat) : wyN x w ≤ 511 := (bt_ok _ (M := 511) (by omega)).2
theorem td_le (x : Nat → Int32) : ∀ w, tdN x w ≤ 511 := by
  intro w
  induction w with
  | zero => exact Nat.zero_le _
  | succ w ih =>
    show (if _ then _ else if _ then _ else _) ≤ 511
    split
    · exact ih
    · split
      · exact ih
      · exact wy_le x w
theorem wc_le (x : Nat → Int32) (w : Nat) : 1 ≤ wcN x w ∧ wcN x w ≤ 4096 := by
  have := (bt_ok (x (15 + w)) (M := 4095) (by omega)).2
  unfold wcN
  omega
theorem wd_le (x : Nat → Int32) (w : Nat) : wdN x w ≤ 4 := by
  unfold wdN
  omega
/-- works: so many, each with its coins, its year, no day yet or a day -/
def WKp (h : mm_H) (x : Nat → Int32) (m : Nat) (D : Nat → Int32) : Prop := fI h 56 4 = ni m ∧ ∀ w, w < m → iA h 57 w = 0 ∧ iA h 58 w = ni (wcN x w) ∧ iA h 59 w = ni (wdN x w) ∧ iA h 60 w = D w
theorem WKp.c {x : Nat → Int32} {m : Nat} {D : Nat → Int32} (k : WKp h x m D) (e : ∀ a, 56 ≤ a → a ≤ 60 → g a = h a) : WKp g x m D := by
  refine ⟨(fI_c (e 56 (by omega) (by omega)) 4).trans k.1, fun w hw => ?_⟩
  rw [iA_c (e 57 (by omega) (by omega)), iA_c (e 58 (by omega) (by omega)), iA_c (e 59 (by omega) (by omega)), iA_c (e 60 (by omega) (by omega))]
  exact k.2 w hw
theorem BA.work {n0 p N s0 : Nat} {L : List Stm} {xs : Nat → Int32} (b : BA h n0 p L N xs s0 0) (hn0 : 159 ≤ n0) (hn : 159 ≤ n) {m : Nat} (k : WKp h (cx N xs) m (fun _ => -1)) (hm : m < 40) : ∃ g, q_X10_work K h n 48 0 (ni (wcN (cx N xs) m)) (ni (wdN (cx N xs) m)) = some (ni m, g) ∧ BA g n0 p L N xs s0 0 ∧ WKp g (cx N xs) (m + 1) (fun _ => -1) ∧ KE 56 60 h g := by
  obtain ⟨b1, b2, -, -, b5, -, -, -, -, b0⟩ := id b
  have h1 := wc_le (cx N xs) m
  have h2 := wd_le (cx N xs) m
  obtain ⟨g, e, c, j, ke, q1, q2, q3, q4, q5⟩ := r_work (K := K) b1 hn b2 b5 k.1 hm h1.1 (by omega) (show wdN (cx N xs) m ≤ 14 by omega)
  refine ⟨g, e, b.c c j (fun a ha => ke a (by omega)) hn0, ⟨q1, fun w hw => ?_⟩, ke⟩
  rw [q2, q3, q4, q5]
  by_cases z : w = m
  · subst z
    simp only [upd_s]
    exact ⟨trivial, trivial, trivial, trivial⟩
  · simp only [upd_n z]
    exact k.2 w (by omega)
variable {l2 l3 l4 l5 l6 l7 l8 l9 l10 l11 l12 l13 l14 l15 l16 l17 : Int32} {l19 : Int64} {a21 a22 a23 a24 : Nat}
/-- what the law's arrays hold of the works -/
def WR (x : Nat → Int32) (m : Nat) (f5 f6 f7 : Nat → Int32) (D : Nat → Int32) : Prop := ∀ w, w < m → f5 w = ni (wcN x w) ∧ f6 w = ni (wdN x w) ∧ f7 w = D w
theorem lp_786 {n0 p N s0 M : Nat} {L : List Stm} {xs : Nat → Int32} (hN : N ≤ 260) (hn0 : 159 ≤ n0) (hM : M ≤ 3) {z : Nat} (ha : n0 ≤ z) (han : z + 3 ≤ n) : ∀ (q w k : Nat) (h : mm_H) (f5 f6 f7 : Nat → Int32), w + q = M → q < k → BA h n0 p L N xs s0 0 → WKp h (cx N xs) w (fun _ => -1) → IR h z f5 → IR h (z + 1) f6 → IR h (z + 2) f7 → WR (cx N xs) w f5 f6 f7 (fun _ => 9999) →
    ∃ g, lp_L_law_786 K n 0 48 l2 l3 l4 l5 l6 l7 l8 l9 l10 l11 l12 l13 l14 l15 l16 l17 l19 a21 a22 a23 a24 z (z + 1) (z + 2) (ni M) k (ni w) h = some g ∧ BA g n0 p L N xs s0 0 ∧ WKp g (cx N xs) M (fun _ => -1) ∧ (∃ f5 f6 f7, IR g z f5 ∧ IR g (z + 1) f6 ∧ IR g (z + 2) f7 ∧ WR (cx N xs) M f5 f6 f7 (fun _ => 9999)) ∧ ∀ a, ¬ (56 ≤ a ∧ a ≤ 60) → ¬ (z ≤ a ∧ a < z + 3) → g a = h a := by
  intro q
  induction q with
  | zero =>
    intro w k h f5 f6 f7 hw hk b kn I1 I2 I3 hf
    obtain ⟨k, rfl⟩ : ∃ z, k = z + 1 := ⟨k - 1, by omega⟩
    obtain rfl : w = M := by omega
    unfold lp_L_law_786
    exact iteY ((ni_le (by omega) (by omega)).mpr (Nat.le_refl w)) ⟨h, rfl, b, kn, ⟨f5, f6, f7, I1, I2, I3, hf⟩, fun _ _ _ => rfl⟩
  | succ q ih =>
    intro w k h f5 f6 f7 hw hk b kn I1 I2 I3 hf
    obtain ⟨k, rfl⟩ : ∃ z, k = z + 1 := ⟨k - 1, by omega⟩
    unfold lp_L_law_786
    have S := b.2.2.2.2.2.1
    have c1 : (1 : Int32) + (cx N xs (15 + w) &&& 4095) = ni (wcN (cx N xs) w) := by
      rw [show cx N xs (15 + w) &&& (4095 : Int32) = ni (bt (cx N xs (15 + w)) 4095) from (bt_ok _ (M := 4095) (by omega)).1]
      exact ni_add 1 _
    have c2 : ((((cx N xs (15 + w) >>> (12 &&& 31)) &&& 7) : Int32) - (((cx N xs (15 + w) >>> (12 &&& 31)) &&& 7) : Int32) / 5 * 5) = ni (wdN (cx N xs) w) := by
      have q1 := bt_ok (cx N xs (15 + w) >>> (12 &&& 31)) (M := 7) (by omega)
      rw [show (cx N xs (15 + w) >>> (12 &&& 31)) &&& (7 : Int32) = ni (bt (cx N xs (15 + w) >>> (12 &&& 31)) 7) from q1.1]
      exact ni_mod (b := 5) (by omega) (by omega)
    refine iteN (fun v => by have := (ni_le (by omega) (by omega)).mp v; omega) ?_
    refine bindE (w := cx N xs (15 + w)) (by rw [show (15 : Int32) = ni 15 from rfl, ni_add]; exact cell_ok (by omega) S hN (by omega)) ?_
    rw [c1, c2]
    refine bindE (I1.st (by omega) (by omega) (by omega) _) ?_
    have J2 : IR (mm_si h z w (ni (wcN (cx N xs) w))) (z + 1) f6 := I2.c (mm_si_n (by omega))
    refine bindE (J2.st (by omega) (by omega) (by omega) _) ?_
    have J3 : IR (mm_si (mm_si h z w (ni (wcN (cx N xs) w))) (z + 1) w (ni (wdN (cx N xs) w))) (z + 2) f7 := I3.c ((mm_si_n (by omega)).trans (mm_si_n (by omega)))
    refine bindE (J3.st (by omega) (by omega) (by omega) _) ?_
    have e3 : ∀ a, a ≠ z → a ≠ z + 1 → a ≠ z + 2 → mm_si (mm_si (mm_si h z w (ni (wcN (cx N xs) w))) (z + 1) w (ni (wdN (cx N xs) w))) (z + 2) w 9999 a = h a := fun a q1 q2 q3 => by rw [mm_si_n q3, mm_si_n q2, mm_si_n q1]
    have T1 : IR (mm_si (mm_si (mm_si h z w (ni (wcN (cx N xs) w))) (z + 1) w (ni (wdN (cx N xs) w))) (z + 2) w 9999) z (upd f5 w (ni (wcN (cx N xs) w))) := (I1.si w (ni (wcN (cx N xs) w))).c ((mm_si_n (by omega)).trans (mm_si_n (by omega)))
    have T2 : IR (mm_si (mm_si (mm_si h z w (ni (wcN (cx N xs) w))) (z + 1) w (ni (wdN (cx N xs) w))) (z + 2) w 9999) (z + 1) (upd f6 w (ni (wdN (cx N xs) w))) := (J2.si w (ni (wdN (cx N xs) w))).c (mm_si_n (by omega))
    have T3 : IR (mm_si (mm_si (mm_si h z w (ni (wcN (cx N xs) w))) (z + 1) w (ni (wdN (cx N xs) w))) (z + 2) w 9999) (z + 2) (upd f7 w 9999) := J3.si w 9999
    have b3 : BA (mm_si (mm_si (mm_si h z w (ni (wcN (cx N xs) w))) (z + 1) w (ni (wdN (cx N xs) w))) (z + 2) w 9999) n0 p L N xs s0 0 := b.own hn0 (fun a q => e3 a (by omega) (by omega) (by omega))
    have k3 : WKp (mm_si (mm_si (mm_si h z w (ni (wcN (cx N xs) w))) (z + 1) w (ni (wdN (cx N xs) w))) (z + 2) w 9999) (cx N xs) w (fun _ => -1) := kn.c (fun a _ q => e3 a (by omega) (by omega) (by omega))
    generalize mm_si (mm_si (mm_si h z w (ni (wcN (cx N xs) w))) (z + 1) w (ni (wdN (cx N xs) w))) (z + 2) w 9999 = h3 at e3 T1 T2 T3 b3 k3 ⊢
    refine bindE ((T1.ld (by omega) (by omega)).trans (by rw [upd_s])) ?_
    refine bindE ((T2.ld (by omega) (by omega)).trans (by rw [upd_s])) ?_
    refine bindE (gq_48 b3.1 (by omega)) ?_
    obtain ⟨g4, x4, b4, k4, q4⟩ := b3.work (K := K) (n := n) hn0 (by omega) k3 (by omega)
    refine bindE x4 ?_
    refine iteN (Classical.not_not.mpr rfl) ?_
    obtain ⟨g, e, r1, r2, r3, r9⟩ := ih (w + 1) k g4 _ _ _ (by omega) (by omega) b4 k4 (T1.c (q4 _ (by omega))) (T2.c (q4 _ (by omega))) (T3.c (q4 _ (by omega))) (fun i hi => by
      by_cases v : i = w
      · subst v
        simp only [upd_s]
        exact ⟨trivial, trivial, trivial⟩
      · simp only [upd_n v]
        exact hf i (by omega))
    rw [ni_1]
    exact ⟨g, e, r1, r2, r3, fun a h1 h2 => (r9 a h1 h2).trans ((q4 a (by omega)).trans (e3 a (by omega) (by omega) (by omega)))⟩
/-- what is logged: a year and coins -/
def lyN (x : Nat → Int32) (k : Nat) : Nat := 1 + bt (x 18 >>> ((2 * ni k) &&& 31)) 3
def lvN (x : Nat → Int32) (k : Nat) : Nat := 1 + bt (x 18 >>> (((4 : Int32) + 10 * ni k) &&& 31)) 1023
theorem ly_le (x : Nat → Int32) (k : Nat) : 1 ≤ lyN x k ∧ lyN x k ≤ 4 := by
  have := (bt_ok (x 18 >>> ((2 * ni k) &&& 31)) (M := 3) (by omega)).2
  unfold lyN
  omega
theorem lv_le (x : Nat → Int32) (k : Nat) : 1 ≤ lvN x k ∧ lvN x k ≤ 1024 := by
  have := (bt_ok (x 18 >>> (((4 : Int32) + 10 * ni k) &&& 31)) (M := 1023) (by omega)).2
  unfold lvN
  omega
def LGp (h : mm_H) (x : Nat → Int32) (m : Nat) : Prop := fI h 67 5 = ni m ∧ ∀ k, k < m → iA h 68 k = 0 ∧ iA h 70 k = ni (lyN x k) ∧ iA h 71 k = ni (lvN x k) ∧ iA h 72 k = 0
theorem LGp.c {x : Nat → Int32} {m : Nat} (k : LGp h x m) (e : ∀ a, 67 ≤ a → a ≤ 72 → g a = h a) : LGp g x m := by
  refine ⟨(fI_c (e 67 (by omega) (by omega)) 5).trans k.1, fun w hw => ?_⟩
  rw [iA_c (e 68 (by omega) (by omega)), iA_c (e 70 (by omega) (by omega)), iA_c (e 71 (by omega) (by omega)), iA_c (e 72 (by omega) (by omega))]
  exact k.2 w hw
theorem BA.log {n0 p N s0 : Nat} {L : List Stm} {xs : Nat → Int32} (b : BA h n0 p L N xs s0 0) (hn0 : 159 ≤ n0) (hn : 159 ≤ n) {m : Nat} (k : LGp h (cx N xs) m) (hm : m < 20) : ∃ g, q_X10_log K h n 48 0 (ni (lyN (cx N xs) m)) (ni (lvN (cx N xs) m)) = some (ni (m + 1), g) ∧ BA g n0 p L N xs s0 0 ∧ LGp g (cx N xs) (m + 1) ∧ KE 67 72 h g := by
  obtain ⟨b1, b2, -, -, b5, -, -, -, -, b0⟩ := id b
  have h1 := ly_le (cx N xs) m
  have h2 := lv_le (cx N xs) m
  obtain ⟨g, e, c, j, ke, q1, q2, q3, q4, q5⟩ := r_log (K := K) b1 hn b2 b5 b0 k.1 hm h2.1 (by omega) h1.1 (by omega)
  refine ⟨g, e, b.c c j (fun a ha => ke a (by omega)) hn0, ⟨q1, fun w hw => ?_⟩, ke⟩
  rw [q2, q3, q4, q5]
  by_cases z : w = m
  · subst z
    simp only [upd_s]
    exact ⟨trivial, trivial, trivial, trivial⟩
  · simp only [upd_n z]
    exact k.2 w (by omega)
/-- what the law holds as logged for a year -/
def lgN (x : Nat → Int32) (y : Nat) : Nat → Nat
  | 0 => 0
  | k + 1 => if lyN x k = y then lgN x y k + lvN x k else lgN x y k
theorem lp_877 {n0 p N s0 : Nat} {L : List Stm} {xs : Nat → Int32} (hN : N ≤ 260) (hn0 : 159 ≤ n0) {a25 a26 a27 z : Nat} {l28 : Int32} (ha : n0 ≤ z) (han : z < n) : ∀ (q m k : Nat) (h : mm_H) (f9 : Nat → Int32), m + q = 2 → q < k → BA h n0 p L N xs s0 0 → LGp h (cx N xs) m → IR h z f9 → (∀ y, y < 5 → f9 y = ni (lgN (cx N xs) y m)) →
    ∃ g, lp_L_law_877 K n 0 48 l2 l3 l4 l5 l6 l7 l8 l9 l10 l11 l12 l13 l14 l15 l16 l17 l19 a21 a22 a23 a24 a25 a26 a27 l28 z k (ni m) h = some g ∧ BA g n0 p L N xs s0 0 ∧ LGp g (cx N xs) 2 ∧ (∃ f9, IR g z f9 ∧ ∀ y, y < 5 → f9 y = ni (lgN (cx N xs) y 2)) ∧ ∀ a, ¬ (67 ≤ a ∧ a ≤ 72) → a ≠ z → g a = h a := by
  intro q
  induction q with
  | zero =>
    intro m k h f9 hm hk b kn I hf
    obtain ⟨k, rfl⟩ : ∃ z, k = z + 1 := ⟨k - 1, by omega⟩
    obtain rfl : m = 2 := by omega
    unfold lp_L_law_877
    exact iteY (by decide) ⟨h, rfl, b, kn, ⟨f9, I, hf⟩, fun _ _ _ => rfl⟩
  | succ q ih =>
    intro m k h f9 hm hk b kn I hf
    obtain ⟨k, rfl⟩ : ∃ z, k = z + 1 := ⟨k - 1, by omega⟩
    unfold lp_L_law_877
    have S := b.2.2.2.2.2.1
    have h1 := ly_le (cx N xs) m
    have c1 : (1 : Int32) + ((cx N xs 18 >>> ((2 * ni m) &&& 31)) &&& 3) = ni (lyN (cx N xs) m) := by
      rw [show (cx N xs 18 >>> ((2 * ni m) &&& 31)) &&& (3 : Int32) = ni (bt (cx N xs 18 >>> ((2 * ni m) &&& 31)) 3) from (bt_ok _ (M := 3) (by omega)).1]
      exact ni_add 1 _
    have c2 : (1 : Int32) + ((cx N xs 18 >>> (((4 : Int32) + (10 * ni m)) &&& 31)) &&& 1023) = ni (lvN (cx N xs) m) := by
      rw [show (cx N xs 18 >>> (((4 : Int32) + (10 * ni m)) &&& 31)) &&& (1023 : Int32) = ni (bt (cx N xs 18 >>> (((4 : Int32) + (10 * ni m)) &&& 31)) 1023) from (bt_ok _ (M := 1023) (by omega)).1]
      exact ni_add 1 _
    have e18 : q_L_cell K h n (some 0) 18 = some (cx N xs 18) := cell_ok (k := 18) (by omega) S hN (by omega)
    refine iteN (fun v => by have := (ni_le (a := 2) (by omega) (by omega)).mp v; omega) ?_
    refine bindE e18 ?_
    rw [c1]
    refine bindE rfl ?_
    refine bindE e18 ?_
    rw [c2]
    refine bindE rfl ?_
    refine bindE (gq_48 b.1 (by omega)) ?_
    obtain ⟨g4, x4, b4, k4, q4⟩ := b.log (K := K) (n := n) hn0 (by omega) kn (by omega)
    refine bindE x4 ?_
    refine iteN (Classical.not_not.mpr (ni_1 m).symm) ?_
    have I4 := I.c (q4 z (by omega))
    refine bindE (I4.ld (by omega) (by omega)) ?_
    refine bindE (I4.st (by omega) (by omega) (by omega) _) ?_
    obtain ⟨g, e, r1, r2, r3, r9⟩ := ih (m + 1) k _ _ (by omega) (by omega) (b4.own hn0 (fun a q => mm_si_n (by omega))) (k4.c (fun a _ q => mm_si_n (by omega))) (I4.si (lyN (cx N xs) m) (f9 (lyN (cx N xs) m) + ni (lvN (cx N xs) m))) (fun y hy => by
      show _ = ni (if lyN (cx N xs) m = y then lgN (cx N xs) y m + lvN (cx N xs) m else lgN (cx N xs) y m)
      by_cases v : y = lyN (cx N xs) m
      · subst v
        rw [upd_s, if_pos rfl, hf _ hy, ni_add]
      · rw [upd_n v, if_neg (fun e => v e.symm), hf _ hy])
    rw [ni_1]
    exact ⟨g, e, r1, r2, r3, fun a h1 h2 => (r9 a h1 h2).trans ((mm_si_n h2).trans (q4 a (by omega)))⟩
end WORKS

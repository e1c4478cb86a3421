/-! ===== the law tells what it knows ===== -/
section FACTS
variable {K n : Nat} {h : mm_H}
/-- what the script gives of a year: told, cost, output, homes -/
def tvN (x : Nat → Int32) (y : Nat) : Nat := bt (x (4 + y)) 1023
def cvI (x : Nat → Int32) (y : Nat) : Int32 := if (x (4 + y) >>> (10 &&& 31)) &&& 3 = 0 then -1 else ni (bt (x (4 + y) >>> (12 &&& 31)) 1023)
def ovI (x : Nat → Int32) (y : Nat) : Int32 := if (x (4 + y) >>> (22 &&& 31)) &&& 3 = 0 then -1 else ni (bt (x (4 + y) >>> (24 &&& 31)) 127)
def hvN (x : Nat → Int32) (y k : Nat) : Nat := bt (x (9 + y) >>> ((8 * ni k) &&& 31)) 255
theorem cv_or (x : Nat → Int32) (y : Nat) : cvI x y = -1 ∨ ∃ k, k ≤ 1023 ∧ cvI x y = ni k := by
  unfold cvI
  split
  · exact Or.inl rfl
  · exact Or.inr ⟨_, (bt_ok _ (by omega)).2, rfl⟩
theorem ov_or (x : Nat → Int32) (y : Nat) : ovI x y = -1 ∨ ∃ k, k ≤ 127 ∧ ovI x y = ni k := by
  unfold ovI
  split
  · exact Or.inl rfl
  · exact Or.inr ⟨_, (bt_ok _ (by omega)).2, rfl⟩
def kfH (x : Nat → Int32) (y : Nat) (kf : Nat → Nat → Nat → Int32) : Nat → Nat → Nat → Nat → Int32
  | 0 => kf
  | j + 1 => if hvN x y j = 0 then kfH x y kf j else ku (kfH x y kf j) y (11 + j) (ni (hvN x y j))
def kfO (kf : Nat → Nat → Nat → Int32) (y w : Nat) (v : Int32) : Nat → Nat → Nat → Int32 := if v < 0 then kf else ku kf y w v
def kfY (x : Nat → Int32) : Nat → Nat → Nat → Nat → Int32
  | 0 => fun _ _ _ => -1
  | y + 1 => kfH x y (kfO (kfO (ku (kfY x y) y 7 (ni (tvN x y))) y 3 (cvI x y)) y 15 (ovI x y)) 3
/-- in short -/
def KC (x : Nat → Int32) (y w : Nat) : Int32 := if w = 7 then ni (tvN x y) else if w = 3 then cvI x y else if w = 15 then ovI x y else if 11 ≤ w ∧ w ≤ 13 then (if hvN x y (w - 11) = 0 then -1 else ni (hvN x y (w - 11))) else -1
theorem kfO_eq {kf : Nat → Nat → Nat → Int32} {y w : Nat} {v : Int32} (hv : v = -1 ∨ ∃ k, k ≤ 9999 ∧ v = ni k) (hk : kf 0 y w = -1) (f' y' w' : Nat) : kfO kf y w v f' y' w' = if f' = 0 ∧ y' = y ∧ w' = w then v else kf f' y' w' := by
  unfold kfO
  rcases hv with rfl | ⟨k, hk2, rfl⟩
  · rw [if_pos (by decide)]
    by_cases q : f' = 0 ∧ y' = y ∧ w' = w
    · rw [if_pos q]
      obtain ⟨rfl, rfl, rfl⟩ := q
      exact hk
    · rw [if_neg q]
  · rw [if_neg (ni_pos (by omega))]
    rfl
theorem kfH_eq {x : Nat → Int32} {kf : Nat → Nat → Nat → Int32} {y : Nat} (hk : ∀ w, 11 ≤ w → w ≤ 13 → kf 0 y w = -1) : ∀ j, j ≤ 3 → ∀ f' y' w', kfH x y kf j f' y' w' = if f' = 0 ∧ y' = y ∧ 11 ≤ w' ∧ w' < 11 + j then (if hvN x y (w' - 11) = 0 then -1 else ni (hvN x y (w' - 11))) else kf f' y' w' := by
  intro j
  induction j with
  | zero =>
    intro _ f' y' w'
    rw [if_neg (by omega)]
    rfl
  | succ j ih =>
    intro hj f' y' w'
    have i2 := ih (by omega) f' y' w'
    show (if hvN x y j = 0 then kfH x y kf j else ku (kfH x y kf j) y (11 + j) (ni (hvN x y j))) f' y' w' = _
    by_cases q : f' = 0 ∧ y' = y ∧ w' = 11 + j
    · obtain ⟨rfl, rfl, rfl⟩ := q
      rw [if_pos (show 0 = 0 ∧ y' = y' ∧ 11 ≤ 11 + j ∧ 11 + j < 11 + (j + 1) by omega), show 11 + j - 11 = j by omega]
      by_cases z : hvN x y' j = 0
      · rw [if_pos z, if_pos z, i2, if_neg (by omega)]
        exact hk _ (by omega) (by omega)
      · rw [if_neg z, if_neg z]
        unfold ku
        rw [if_pos ⟨rfl, rfl, rfl⟩]
    · have e1 : (if hvN x y j = 0 then kfH x y kf j else ku (kfH x y kf j) y (11 + j) (ni (hvN x y j))) f' y' w' = kfH x y kf j f' y' w' := by
        split
        · rfl
        · unfold ku
          rw [if_neg q]
      rw [e1, i2]
      by_cases z : f' = 0 ∧ y' = y ∧ 11 ≤ w' ∧ w' < 11 + j
      · rw [if_pos z, if_pos (show f' = 0 ∧ y' = y ∧ 11 ≤ w' ∧ w' < 11 + (j + 1) by omega)]
      · rw [if_neg z, if_neg (show ¬ (f' = 0 ∧ y' = y ∧ 11 ≤ w' ∧ w' < 11 + (j + 1)) by omega)]
theorem kfY_eq (x : Nat → Int32) : ∀ (Y f y w : Nat), kfY x Y f y w = if f = 0 ∧ y < Y then KC x y w else -1 := by
  intro Y
  induction Y with
  | zero => intro f y w; rw [if_neg (by omega)]; rfl
  | succ Y ih =>
    intro f y w
    have hc : cvI x Y = -1 ∨ ∃ k, k ≤ 9999 ∧ cvI x Y = ni k := (cv_or x Y).imp id (fun ⟨k, a, b⟩ => ⟨k, by omega, b⟩)
    have ho : ovI x Y = -1 ∨ ∃ k, k ≤ 9999 ∧ ovI x Y = ni k := (ov_or x Y).imp id (fun ⟨k, a, b⟩ => ⟨k, by omega, b⟩)
    have b0 : ∀ f' y' w', ku (kfY x Y) Y 7 (ni (tvN x Y)) f' y' w' = if f' = 0 ∧ y' = Y ∧ w' = 7 then ni (tvN x Y) else if f' = 0 ∧ y' < Y then KC x y' w' else -1 := fun f' y' w' => by unfold ku; rw [ih]
    have b1 := fun f' y' w' => kfO_eq (kf := ku (kfY x Y) Y 7 (ni (tvN x Y))) (y := Y) (w := 3) hc (by rw [b0, if_neg (by omega), if_neg (by omega)]) f' y' w'
    have b2 := fun f' y' w' => kfO_eq (kf := kfO (ku (kfY x Y) Y 7 (ni (tvN x Y))) Y 3 (cvI x Y)) (y := Y) (w := 15) ho (by rw [b1, b0, if_neg (by omega), if_neg (by omega), if_neg (by omega)]) f' y' w'
    have b3 := (kfH_eq (x := x) (kf := kfO (kfO (ku (kfY x Y) Y 7 (ni (tvN x Y))) Y 3 (cvI x Y)) Y 15 (ovI x Y)) (y := Y) (fun w h1 h2 => by rw [b2, b1, b0, if_neg (by omega), if_neg (by omega), if_neg (by omega), if_neg (by omega)]) 3 (by omega) f y w).trans (by rw [b2, b1, b0])
    refine b3.trans ?_
    by_cases q : f = 0 ∧ y = Y
    · obtain ⟨rfl, rfl⟩ := q
      rw [if_pos (show 0 = 0 ∧ y < y + 1 by omega)]
      unfold KC
      by_cases w1 : 11 ≤ w ∧ w ≤ 13
      · rw [if_pos (by omega), if_neg (show ¬ w = 7 by omega), if_neg (show ¬ w = 3 by omega), if_neg (show ¬ w = 15 by omega), if_pos w1]
      · rw [if_neg (by omega)]
        by_cases w2 : w = 15
        · rw [if_pos ⟨rfl, rfl, w2⟩, if_neg (by omega), if_neg (by omega), if_pos w2]
        · rw [if_neg (by omega)]
          by_cases w3 : w = 3
          · rw [if_pos ⟨rfl, rfl, w3⟩, if_neg (by omega), if_pos w3]
          · rw [if_neg (by omega)]
            by_cases w4 : w = 7
            · rw [if_pos ⟨rfl, rfl, w4⟩, if_pos w4]
            · rw [if_neg (by omega), if_neg (by omega), if_neg w4, if_neg w3, if_neg w2, if_neg w1]
    · rw [if_neg (by omega), if_neg (by omega), if_neg (by omega), if_neg (by omega)]
      by_cases z : f = 0 ∧ y < Y
      · rw [if_pos z, if_pos (by omega)]
      · rw [if_neg z, if_neg (by omega)]
variable {l2 l3 l4 l5 l6 l7 l8 l9 l10 l11 l12 l13 l14 l15 l16 l17 : Int32} {l19 : Int64}
theorem lp_665 {n0 p N s0 : Nat} {L : List Stm} {xs : Nat → Int32} (hN : N ≤ 260) (hn0 : 159 ≤ n0) {a21 a22 a23 a24 : Nat} (ha : n0 ≤ a24) (han : a24 < n) {y : Nat} (hy : y < 5) : ∀ (q : Nat) (j k : Nat) (h : mm_H) (f : Nat → Int32) (m : Nat) (kf : Nat → Nat → Nat → Int32), j + q = 3 → q < k → BA h n0 p L N xs s0 0 → KNp h (kfH (cx N xs) y kf j) m → m + q < 499 → IR h a24 f → (∀ i, i < j → f (8 * i + y) = ni (hvN (cx N xs) y i)) →
    ∃ g, lp_L_law_665 K n 0 48 l2 l3 l4 l5 l6 l7 l8 l9 l10 l11 l12 l13 l14 l15 l16 l17 l19 a21 a22 a23 a24 (ni y) k (ni j) h = some g ∧ BA g n0 p L N xs s0 0 ∧ (∃ m', m' ≤ m + q ∧ KNp g (kfH (cx N xs) y kf 3) m') ∧ (∃ f', IR g a24 f' ∧ (∀ i, i < 3 → f' (8 * i + y) = ni (hvN (cx N xs) y i)) ∧ ∀ i, i % 8 ≠ y → f' i = f i) ∧ ∀ a, ¬ (51 ≤ a ∧ a ≤ 55) → a ≠ a24 → g a = h a := by
  intro q
  induction q with
  | zero =>
    intro j k h f m kf hj hk b kn m9 I hf
    obtain ⟨k, rfl⟩ : ∃ z, k = z + 1 := ⟨k - 1, by omega⟩
    obtain rfl : j = 3 := by omega
    unfold lp_L_law_665
    exact iteY (by decide) ⟨h, rfl, b, ⟨m, by omega, kn⟩, ⟨f, I, hf, fun _ _ => rfl⟩, fun _ _ _ => rfl⟩
  | succ q ih =>
    intro j k h f m kf hj hk b kn m9 I hf
    obtain ⟨k, rfl⟩ : ∃ z, k = z + 1 := ⟨k - 1, by omega⟩
    unfold lp_L_law_665
    have hx := bt_ok ((cx N xs (9 + y)) >>> ((8 * ni j) &&& 31)) (M := 255) (by omega)
    have ei : 8 * ni j + ni y = ni (8 * j + y) := by rw [show (8 : Int32) = ni 8 from rfl, ni_mul, ni_add]
    have hv : ((cx N xs (9 + y)) >>> ((8 * ni j) &&& 31)) &&& 255 = ni (hvN (cx N xs) y j) := hx.1
    have hv2 : hvN (cx N xs) y j ≤ 255 := hx.2
    have S := b.2.2.2.2.2.1
    have sh : BA (mm_si h a24 (8 * j + y) (ni (hvN (cx N xs) y j))) n0 p L N xs s0 0 := b.own hn0 (fun a q => mm_si_n (by omega))
    have I1 := I.si (8 * j + y) (ni (hvN (cx N xs) y j))
    have kn1 : KNp (mm_si h a24 (8 * j + y) (ni (hvN (cx N xs) y j))) (kfH (cx N xs) y kf j) m := kn.c (fun a _ q => mm_si_n (by omega))
    have f1 : ∀ i, i < j + 1 → upd f (8 * j + y) (ni (hvN (cx N xs) y j)) (8 * i + y) = ni (hvN (cx N xs) y i) := fun i hi => by
      by_cases z : i = j
      · subst z; rw [upd_s]
      · rw [upd_n (by omega)]; exact hf i (by omega)
    have f2 : ∀ i, i % 8 ≠ y → upd f (8 * j + y) (ni (hvN (cx N xs) y j)) i = f i := fun i hi => upd_n (by intro z; omega)
    refine iteN (fun z => by have := (ni_le (a := 3) (by omega) (by omega)).mp z; omega) ?_
    refine bindE (w := cx N xs (9 + y)) (by rw [show (9 : Int32) = ni 9 from rfl, ni_add]; exact cell_ok (by omega) S hN (by omega)) ?_
    rw [ei, hv]
    refine bindE (I.st (by omega) han (by omega) _) ?_
    refine bindE ((I1.ld han (by omega)).trans (by rw [upd_s])) ?_
    by_cases z : hvN (cx N xs) y j = 0
    · obtain ⟨g, e, r1, ⟨m', r2, r3⟩, ⟨f', r4, r5, r6⟩, r7⟩ := ih (j + 1) k _ _ m kf (by omega) (by omega) sh (by
        show KNp _ (if _ then _ else _) m
        rw [if_pos z]
        exact kn1) (by omega) I1 f1
      refine bindE (w := mm_si h a24 (8 * j + y) (ni (hvN (cx N xs) y j))) (if_pos (by rw [z]; decide)) ?_
      rw [ni_1]
      exact ⟨g, e, r1, ⟨m', by omega, r3⟩, ⟨f', r4, r5, fun i hi => (r6 i hi).trans (f2 i hi)⟩, fun a h1 h2 => (r7 a h1 h2).trans (mm_si_n h2)⟩
    · obtain ⟨g1, e1, s1, s2, s3⟩ := sh.fact (K := K) (n := n) hn0 (by omega) kn1 (y := y) (w := 11 + j) (v := hvN (cx N xs) y j) (by omega) (by omega) (by omega) (by omega) (by omega)
      obtain ⟨g, e, r1, ⟨m', r2, r3⟩, ⟨f', r4, r5, r6⟩, r7⟩ := ih (j + 1) k g1 _ (m + 1) kf (by omega) (by omega) s1 (by
        show KNp _ (if _ then _ else _) _
        rw [if_neg z]
        exact s2) (by omega) (I1.c (s3 a24 (by omega))) f1
      refine bindE (w := g1) ?_ ?_
      · rw [if_neg (fun w => z (by have := (ni_le (b := 0) (by omega) (by omega)).mp w; omega)), I1.ld han (by omega), upd_s, Option.bind_some, gq_48 sh.1 (by omega), Option.bind_some, show (11 : Int32) + ni j = ni (11 + j) from ni_add 11 j, e1, Option.bind_some]
        show (if ¬ (0 : Int32) ≤ ni m then none else some g1) = some g1
        rw [if_neg (Classical.not_not.mpr (show (0 : Int32) ≤ ni m from (ni_le (a := 0) (by omega) (by omega)).mpr (Nat.zero_le m)))]
      · rw [ni_1]
        exact ⟨g, e, r1, ⟨m', by omega, r3⟩, ⟨f', r4, r5, fun i hi => (r6 i hi).trans (f2 i hi)⟩, fun a h1 h2 => (r7 a h1 h2).trans ((s3 a (by omega)).trans (mm_si_n h2))⟩
/-- what the law's arrays hold of the years behind -/
def YR (x : Nat → Int32) (Y : Nat) (f1 f2 f3 f4 : Nat → Int32) : Prop := ∀ i, i < Y → f2 i = ni (tvN x i) ∧ f1 i = cvI x i ∧ f3 i = ovI x i ∧ ∀ k, k < 3 → f4 (8 * k + i) = ni (hvN x i k)
theorem iteV {c : Prop} [Decidable c] {β : Type} {a b : β} : (if c then some a else some b) = some (if c then a else b) := by
  split <;> rfl
theorem lp_512 {n0 p N s0 : Nat} {L : List Stm} {xs : Nat → Int32} (hK : 3000 ≤ K) (hN : N ≤ 260) (hn0 : 159 ≤ n0) {z : Nat} (ha : n0 ≤ z) (han : z + 4 ≤ n) : ∀ (q : Nat) (y k : Nat) (h : mm_H) (f1 f2 f3 f4 : Nat → Int32) (m : Nat), y + q = 5 → q < k → BA h n0 p L N xs s0 0 → KNp h (kfY (cx N xs) y) m → m ≤ 6 * y → IR h z f1 → IR h (z + 1) f2 → IR h (z + 2) f3 → IR h (z + 3) f4 → YR (cx N xs) y f1 f2 f3 f4 →
    ∃ g, lp_L_law_512 K n 0 48 l2 l3 l4 l5 l6 l7 l8 l9 l10 l11 l12 l13 l14 l15 l16 l17 l19 z (z + 1) (z + 2) (z + 3) k (ni y) h = some g ∧ BA g n0 p L N xs s0 0 ∧ (∃ m', KNp g (kfY (cx N xs) 5) m') ∧ (∃ f1 f2 f3 f4, IR g z f1 ∧ IR g (z + 1) f2 ∧ IR g (z + 2) f3 ∧ IR g (z + 3) f4 ∧ YR (cx N xs) 5 f1 f2 f3 f4) ∧ ∀ a, ¬ (51 ≤ a ∧ a ≤ 55) → ¬ (z ≤ a ∧ a < z + 4) → g a = h a := by
  intro q
  induction q with
  | zero =>
    intro y k h f1 f2 f3 f4 m hy hk b kn hm I1 I2 I3 I4 hf
    obtain ⟨k, rfl⟩ : ∃ z, k = z + 1 := ⟨k - 1, by omega⟩
    obtain rfl : y = 5 := by omega
    unfold lp_L_law_512
    exact iteY (by decide) ⟨h, rfl, b, ⟨m, kn⟩, ⟨f1, f2, f3, f4, I1, I2, I3, I4, hf⟩, fun _ _ _ => rfl⟩
  | succ q ih =>
    intro y k h f1 f2 f3 f4 m hy hk b kn hm I1 I2 I3 I4 hf
    obtain ⟨k, rfl⟩ : ∃ z, k = z + 1 := ⟨k - 1, by omega⟩
    unfold lp_L_law_512
    have S := b.2.2.2.2.2.1
    have ht := bt_ok (cx N xs (4 + y)) (M := 1023) (by omega)
    have ht1 : cx N xs (4 + y) &&& 1023 = ni (tvN (cx N xs) y) := ht.1
    have ht2 : tvN (cx N xs) y ≤ 1023 := ht.2
    have hc1 : (if (cx N xs (4 + y) >>> (10 &&& 31)) &&& 3 = 0 then (-1 : Int32) else (cx N xs (4 + y) >>> (12 &&& 31)) &&& 1023) = cvI (cx N xs) y := by
      unfold cvI
      rw [show (cx N xs (4 + y) >>> (12 &&& 31)) &&& (1023 : Int32) = ni (bt (cx N xs (4 + y) >>> (12 &&& 31)) 1023) from (bt_ok _ (M := 1023) (by omega)).1]
    have ho1 : (if (cx N xs (4 + y) >>> (22 &&& 31)) &&& 3 = 0 then (-1 : Int32) else (cx N xs (4 + y) >>> (24 &&& 31)) &&& 127) = ovI (cx N xs) y := by
      unfold ovI
      rw [show (cx N xs (4 + y) >>> (24 &&& 31)) &&& (127 : Int32) = ni (bt (cx N xs (4 + y) >>> (24 &&& 31)) 127) from (bt_ok _ (M := 127) (by omega)).1]
    refine iteN (fun w => by have := (ni_le (a := 5) (by omega) (by omega)).mp w; omega) ?_
    refine bindE (w := cx N xs (4 + y)) (by rw [show (4 : Int32) = ni 4 from rfl, ni_add]; exact cell_ok (by omega) S hN (by omega)) ?_
    rw [ht1]
    refine bindE (I2.st (by omega) (by omega) (by omega) _) ?_
    refine bindE (w := cvI (cx N xs) y) (iteV.trans (congrArg some hc1)) ?_
    have J1 : IR (mm_si h (z + 1) y (ni (tvN (cx N xs) y))) z f1 := I1.c (mm_si_n (by omega))
    refine bindE (J1.st (by omega) (by omega) (by omega) _) ?_
    refine bindE (w := ovI (cx N xs) y) (iteV.trans (congrArg some ho1)) ?_
    have J3 : IR (mm_si (mm_si h (z + 1) y (ni (tvN (cx N xs) y))) z y (cvI (cx N xs) y)) (z + 2) f3 := I3.c ((mm_si_n (by omega)).trans (mm_si_n (by omega)))
    refine bindE (J3.st (by omega) (by omega) (by omega) _) ?_
    have e3 : ∀ a, a ≠ z → a ≠ z + 1 → a ≠ z + 2 → mm_si (mm_si (mm_si h (z + 1) y (ni (tvN (cx N xs) y))) z y (cvI (cx N xs) y)) (z + 2) y (ovI (cx N xs) y) a = h a := fun a q1 q2 q3 => by rw [mm_si_n q3, mm_si_n q1, mm_si_n q2]
    have J2 := (I2.si y (ni (tvN (cx N xs) y)))
    have T1 : IR (mm_si (mm_si (mm_si h (z + 1) y (ni (tvN (cx N xs) y))) z y (cvI (cx N xs) y)) (z + 2) y (ovI (cx N xs) y)) z (upd f1 y (cvI (cx N xs) y)) := (J1.si y (cvI (cx N xs) y)).c (mm_si_n (by omega))
    have T2 : IR (mm_si (mm_si (mm_si h (z + 1) y (ni (tvN (cx N xs) y))) z y (cvI (cx N xs) y)) (z + 2) y (ovI (cx N xs) y)) (z + 1) (upd f2 y (ni (tvN (cx N xs) y))) := J2.c ((mm_si_n (by omega)).trans (mm_si_n (by omega)))
    have T3 : IR (mm_si (mm_si (mm_si h (z + 1) y (ni (tvN (cx N xs) y))) z y (cvI (cx N xs) y)) (z + 2) y (ovI (cx N xs) y)) (z + 2) (upd f3 y (ovI (cx N xs) y)) := J3.si y (ovI (cx N xs) y)
    have T4 : IR (mm_si (mm_si (mm_si h (z + 1) y (ni (tvN (cx N xs) y))) z y (cvI (cx N xs) y)) (z + 2) y (ovI (cx N xs) y)) (z + 3) f4 := I4.c (e3 _ (by omega) (by omega) (by omega))
    have b3 : BA (mm_si (mm_si (mm_si h (z + 1) y (ni (tvN (cx N xs) y))) z y (cvI (cx N xs) y)) (z + 2) y (ovI (cx N xs) y)) n0 p L N xs s0 0 := b.own hn0 (fun a q => e3 a (by omega) (by omega) (by omega))
    have k3 : KNp (mm_si (mm_si (mm_si h (z + 1) y (ni (tvN (cx N xs) y))) z y (cvI (cx N xs) y)) (z + 2) y (ovI (cx N xs) y)) (kfY (cx N xs) y) m := kn.c (fun a _ q => e3 a (by omega) (by omega) (by omega))
    generalize mm_si (mm_si (mm_si h (z + 1) y (ni (tvN (cx N xs) y))) z y (cvI (cx N xs) y)) (z + 2) y (ovI (cx N xs) y) = h3 at e3 T1 T2 T3 T4 b3 k3 ⊢
    refine bindE ((T2.ld (by omega) (by omega)).trans (by rw [upd_s])) ?_
    refine bindE (gq_48 b3.1 (by omega)) ?_
    obtain ⟨g4, x4, b4, k4, q4⟩ := b3.fact (K := K) (n := n) hn0 (by omega) k3 (y := y) (w := 7) (v := tvN (cx N xs) y) (by omega) (by omega) (by omega) (by omega) (by omega)
    refine bindE x4 ?_
    refine iteN (ni_pos (by omega)) ?_
    have T1' := T1.c (q4 z (by omega))
    have T3' := T3.c (q4 (z + 2) (by omega))
    refine bindE ((T1'.ld (by omega) (by omega)).trans (by rw [upd_s])) ?_
    obtain ⟨g5, m5, x5, b5, k5, hm5, q5⟩ : ∃ g5 m5, ((if cvI (cx N xs) y < 0 then some g4 else (ldI g4 n z (ni y)).bind fun v477 => (ckq g4 n 48 9).bind fun u479 => (q_X10_fact K g4 n 48 0 (ni y) 3 v477).bind fun v481 => if v481.1 < 0 then none else some (v481.2)) : Option mm_H) = some g5 ∧ BA g5 n0 p L N xs s0 0 ∧ KNp g5 (kfO (ku (kfY (cx N xs) y) y 7 (ni (tvN (cx N xs) y))) y 3 (cvI (cx N xs) y)) m5 ∧ m5 ≤ m + 2 ∧ KE 51 55 g4 g5 := by
      by_cases w : cvI (cx N xs) y < 0
      · exact ⟨g4, m + 1, if_pos w, b4, by unfold kfO; rw [if_pos w]; exact k4, by omega, fun a _ => rfl⟩
      · obtain ⟨v, hv, hv2⟩ : ∃ v, v ≤ 1023 ∧ cvI (cx N xs) y = ni v := (cv_or _ _).resolve_left (fun e => w (by rw [e]; decide))
        obtain ⟨g5, x5, b5, k5, q5⟩ := b4.fact (K := K) (n := n) hn0 (by omega) k4 (y := y) (w := 3) (v := v) (by omega) (by omega) (by omega) (by omega) (by omega)
        refine ⟨g5, m + 1 + 1, ?_, b5, by unfold kfO; rw [if_neg w, hv2]; exact k5, by omega, q5⟩
        rw [if_neg w, T1'.ld (by omega) (by omega), upd_s, Option.bind_some, gq_48 b4.1 (by omega), Option.bind_some, hv2]
        show (q_X10_fact K g4 n 48 0 (ni y) (ni 3) (ni v)).bind _ = _
        rw [x5, Option.bind_some]
        exact if_neg (ni_pos (by omega))
    refine bindE x5 ?_
    have T3'' := T3'.c (q5 (z + 2) (by omega))
    refine bindE ((T3''.ld (by omega) (by omega)).trans (by rw [upd_s])) ?_
    obtain ⟨g6, m6, x6, b6, k6, hm6, q6⟩ : ∃ g6 m6, ((if ovI (cx N xs) y < 0 then some g5 else (ldI g5 n (z + 2) (ni y)).bind fun v490 => (ckq g5 n 48 9).bind fun u492 => (q_X10_fact K g5 n 48 0 (ni y) 15 v490).bind fun v494 => if ¬ (0 ≤ v494.1) then none else some (v494.2)) : Option mm_H) = some g6 ∧ BA g6 n0 p L N xs s0 0 ∧ KNp g6 (kfO (kfO (ku (kfY (cx N xs) y) y 7 (ni (tvN (cx N xs) y))) y 3 (cvI (cx N xs) y)) y 15 (ovI (cx N xs) y)) m6 ∧ m6 ≤ m + 3 ∧ KE 51 55 g5 g6 := by
      by_cases w : ovI (cx N xs) y < 0
      · exact ⟨g5, m5, if_pos w, b5, by unfold kfO; rw [if_pos w]; exact k5, by omega, fun a _ => rfl⟩
      · obtain ⟨v, hv, hv2⟩ : ∃ v, v ≤ 127 ∧ ovI (cx N xs) y = ni v := (ov_or _ _).resolve_left (fun e => w (by rw [e]; decide))
        obtain ⟨g6, x6, b6, k6, q6⟩ := b5.fact (K := K) (n := n) hn0 (by omega) k5 (y := y) (w := 15) (v := v) (by omega) (by omega) (by omega) (by omega) (by omega)
        refine ⟨g6, m5 + 1, ?_, b6, by unfold kfO; rw [if_neg w, hv2]; exact k6, by omega, q6⟩
        rw [if_neg w, T3''.ld (by omega) (by omega), upd_s, Option.bind_some, gq_48 b5.1 (by omega), Option.bind_some, hv2]
        show (q_X10_fact K g5 n 48 0 (ni y) (ni 15) (ni v)).bind _ = _
        rw [x6, Option.bind_some]
        exact if_neg (Classical.not_not.mpr (show (0 : Int32) ≤ ni m5 from (ni_le (a := 0) (by omega) (by omega)).mpr (Nat.zero_le _)))
    refine bindE x6 ?_
    have ge6 : ∀ a, ¬ (51 ≤ a ∧ a ≤ 55) → g6 a = h3 a := fun a hx => (q6 a (by omega)).trans ((q5 a (by omega)).trans (q4 a (by omega)))
    obtain ⟨g7, x7, b7, ⟨m7, hm7, k7⟩, ⟨f4', r4, r5, r6⟩, q7⟩ := lp_665 (K := K) (n := n) (l2 := l2) (l3 := l3) (l4 := l4) (l5 := l5) (l6 := l6) (l7 := l7) (l8 := l8) (l9 := l9) (l10 := l10) (l11 := l11) (l12 := l12) (l13 := l13) (l14 := l14) (l15 := l15) (l16 := l16) (l17 := l17) (l19 := l19) hN hn0 (a21 := z) (a22 := z + 1) (a23 := z + 2) (a24 := z + 3) (by omega) (by omega) (y := y) (by omega) 3 0 K g6 f4 m6 _ (by omega) (by omega) b6 k6 (by omega) (T4.c (ge6 _ (by omega))) (fun i hi => by omega)
    refine bindE x7 ?_
    obtain ⟨g, e, r1, r2, r3, r9⟩ := ih (y + 1) k g7 (upd f1 y (cvI (cx N xs) y)) (upd f2 y (ni (tvN (cx N xs) y))) (upd f3 y (ovI (cx N xs) y)) f4' m7 (by omega) (by omega) b7 k7 (by omega) (T1.c ((q7 _ (by omega) (by omega)).trans (ge6 _ (by omega)))) (T2.c ((q7 _ (by omega) (by omega)).trans (ge6 _ (by omega)))) (T3.c ((q7 _ (by omega) (by omega)).trans (ge6 _ (by omega)))) r4 (fun i hi => by
      by_cases w : i = y
      · subst w
        rw [upd_s, upd_s, upd_s]
        exact ⟨rfl, rfl, rfl, fun k hk => r5 k hk⟩
      · rw [upd_n w, upd_n w, upd_n w]
        obtain ⟨w1, w2, w3, w4⟩ := hf i (by omega)
        exact ⟨w1, w2, w3, fun k hk => (r6 _ (by omega)).trans (w4 k hk)⟩)
    rw [ni_1]
    exact ⟨g, e, r1, r2, r3, fun a h1 h2 => (r9 a h1 h2).trans ((q7 a h1 (by omega)).trans ((ge6 a h1).trans (e3 a (by omega) (by omega) (by omega))))⟩
end FACTS

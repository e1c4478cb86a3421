/-! ===== numbers; what stands between the calls: the model's cells hold what the program's hold ===== -/
abbrev ni (k : Nat) : Int32 := Int32.ofNat k
theorem ni_add (a b : Nat) : ni a + ni b = ni (a + b) := (Int32.ofNat_add a b).symm
theorem ni_mul (a b : Nat) : ni a * ni b = ni (a * b) := (Int32.ofNat_mul a b).symm
theorem ni_1 (a : Nat) : ni a + 1 = ni (a + 1) := ni_add a 1
theorem ni_int {a : Nat} (ha : a < 2147483648) : (ni a).toInt = (a : Int) := Int32.toInt_ofNat_of_lt ha
theorem ni_le {a b : Nat} (ha : a < 2147483648) (hb : b < 2147483648) : ni a ≤ ni b ↔ a ≤ b := by
  rw [Int32.le_iff_toInt_le, ni_int ha, ni_int hb]; omega
theorem ni_lt {a b : Nat} (ha : a < 2147483648) (hb : b < 2147483648) : ni a < ni b ↔ a < b := by
  rw [Int32.lt_iff_toInt_lt, ni_int ha, ni_int hb]; omega
theorem ni_inj {a b : Nat} (ha : a < 2147483648) (hb : b < 2147483648) : ni a = ni b ↔ a = b := by
  constructor
  · intro h
    have := congrArg Int32.toInt h
    rw [ni_int ha, ni_int hb] at this
    omega
  · intro h; rw [h]
theorem ni_tn {a : Nat} (ha : a < 2147483648) : (ni a).toNatClampNeg = a := Int32.toNatClampNeg_ofNat_of_lt ha
theorem ni_inb {a N : Nat} (ha : a < 2147483648) (h : a < N) : inb (ni a) N = true := by
  unfold inb
  rw [ni_int ha]
  simp
  omega
theorem ni_pos {a : Nat} (ha : a < 2147483648) : ¬ ni a < 0 := by
  rw [Int32.lt_iff_toInt_lt, ni_int ha]
  show ¬ (a : Int) < 0
  omega
theorem ni_n1 {a : Nat} (ha : a < 2147483648) : ni a ≠ -1 := by
  intro h
  have := congrArg Int32.toInt h
  rw [ni_int ha] at this
  have e : (-1 : Int32).toInt = -1 := by decide
  omega
theorem ni_sub1 (a : Nat) : ni (a + 1) - 1 = ni a := by
  rw [← ni_1, Int32.add_sub_cancel]
/-- what is there and isn't below 0 is a number -/
theorem ni_of {x : Int32} (h : ¬ x < 0) : ∃ a : Nat, a < 2147483648 ∧ x = ni a := by
  have h1 : ¬ x.toInt < 0 := fun q => h (Int32.lt_iff_toInt_lt.mpr q)
  have h2 := Int32.toInt_lt x
  refine ⟨x.toInt.toNat, by omega, ?_⟩
  refine Int32.toInt_inj.mp ?_
  rw [ni_int (by omega)]
  omega
theorem mm_in_iff {x lo hi : Int32} : mm_in x lo hi = 1 ↔ ¬ x < lo ∧ ¬ hi < x := by
  unfold mm_in
  by_cases h1 : x < lo
  · rw [if_pos h1]; exact ⟨fun q => absurd q (by decide), fun q => absurd h1 q.1⟩
  · rw [if_neg h1]
    by_cases h2 : hi < x
    · rw [if_pos h2]; exact ⟨fun q => absurd q (by decide), fun q => absurd h2 q.2⟩
    · rw [if_neg h2]; exact ⟨fun _ => ⟨h1, h2⟩, fun _ => rfl⟩
theorem mm_in_no {x lo hi : Int32} (h : ¬ mm_in x lo hi = 0) : ¬ x < lo ∧ ¬ hi < x := mm_in_iff.mp ((mm_in_01 x lo hi).resolve_left h)
/-- between 0 and a bound -/
theorem mm_in_nat {x : Int32} {N : Nat} (hN : N < 2147483648) (h : ¬ mm_in x 0 (ni N) = 0) : ∃ a : Nat, a ≤ N ∧ x = ni a := by
  obtain ⟨h1, h2⟩ := mm_in_no h
  obtain ⟨a, ha, rfl⟩ := ni_of h1
  exact ⟨a, Nat.not_lt.mp fun q => h2 ((ni_lt hN ha).mpr q), rfl⟩
def cN (x : Int32) (N : Nat) : Prop := ∃ m : Nat, x = ni m ∧ m ≤ N
/-- today, told lines -/
def J_T (t u : Int32) (a b : Nat → Int32) : Prop := cN t 1499 ∧ u = t ∧ b = a
/-- firms -/
def J_F (f g : Int32) (w : Nat → Int32) (v : Nat → Int64) : Prop := cN f 11 ∧ g = f ∧ ∀ i, i < 11 → v i = (w i).toInt64
/-- facts: the number told; what was told, when, what was told before it, the latest of each key -/
def J_A (f g : Int32) (V T B L V2 T2 L2 B2 : Nat → Int32) : Prop := g = f ∧ V2 = V ∧ T2 = T ∧ B2 = B ∧ L2 = L ∧ ∃ m : Nat, f = ni m ∧ m ≤ 500 ∧
  (∀ i, i < m → (B i = -1 ∨ ∃ j, j < i ∧ B i = ni j) ∧ ∃ v, V i = ni v ∧ v ≤ 99999) ∧ ∀ k, k < 2805 → L k = -1 ∨ ∃ j, j < m ∧ L k = ni j
/-- how many are done -/
def nDone (D : Nat → Int32) : Nat → Nat
  | 0 => 0
  | i + 1 => nDone D i + (if D i = -1 then 0 else 1)
/-- works: the number told, the number done; whose, coins, due, done -/
def J_W (f d g : Int32) (W C U D W2 C2 U2 D2 : Nat → Int32) : Prop := g = f ∧ W2 = W ∧ C2 = C ∧ U2 = U ∧ ∃ m : Nat, f = ni m ∧ m ≤ 40 ∧ d = ni (nDone D m) ∧
  ∀ i, i < m → (∃ u, U i = ni u ∧ u ≤ 14) ∧ ((D i = -1 ∧ D2 i = 5000) ∨ ∃ t, D i = ni t ∧ t ≤ 1499 ∧ D2 i = D i)
/-- bench words -/
def J_B (f g : Int32) (F H Y C T F2 H2 Y2 C2 T2 : Nat → Int32) : Prop := g = f ∧ F2 = F ∧ H2 = H ∧ Y2 = Y ∧ C2 = C ∧ T2 = T ∧ ∃ m : Nat, f = ni m ∧ m ≤ 20 ∧ ∀ i, i < m → ∃ v, C i = ni v ∧ v ≤ 99999
/-- what is logged -/
def J_L (f g : Int32) (F H Y C T F2 Y2 C2 T2 : Nat → Int32) : Prop := g = f ∧ F2 = F ∧ Y2 = Y ∧ C2 = C ∧ T2 = T ∧ (∀ i, H i = 0) ∧ ∃ m : Nat, f = ni m ∧ m ≤ 20
/-- the tape -/
def J_P (f g : Int32) (a b : Nat → Int32) : Prop := cN f 900 ∧ g = f ∧ ∀ i, a i = b i &&& 255
def JT (h : mm_H) : Prop := J_T (fI h 49 6) (fI h 49 6) (iA h 158) (iA h 158)
def JF (h : mm_H) : Prop := J_F (fI h 49 5) (fI h 49 5) (iA h 50) (fun i => (iA h 50 i).toInt64)
def JA (h : mm_H) : Prop := J_A (fI h 51 4) (fI h 51 4) (iA h 52) (iA h 53) (iA h 54) (iA h 55) (iA h 52) (iA h 53) (iA h 55) (iA h 54)
def JW (h : mm_H) : Prop := J_W (fI h 56 4) (fI h 56 5) (fI h 56 4) (iA h 57) (iA h 58) (iA h 59) (iA h 60) (iA h 57) (iA h 58) (iA h 59) (fun i => if iA h 60 i = -1 then 5000 else iA h 60 i)
def JB (h : mm_H) : Prop := J_B (fI h 61 5) (fI h 61 5) (iA h 62) (iA h 63) (iA h 64) (iA h 65) (iA h 66) (iA h 62) (iA h 63) (iA h 64) (iA h 65) (iA h 66)
def JL (h : mm_H) : Prop := J_L (fI h 67 5) (fI h 67 5) (iA h 68) (iA h 69) (iA h 70) (iA h 71) (iA h 72) (iA h 68) (iA h 70) (iA h 71) (iA h 72)
def JP (h : mm_H) : Prop := J_P (fI h 48 5) (fI h 48 5) (iA h 155) (iA h 155)
def JR (h : mm_H) : Prop := JT h ∧ JF h ∧ JA h ∧ JW h ∧ JB h ∧ JL h ∧ JP h
/-- what is kept of the rules: the books, the model's rows, what lay there before -/
def FB0 (h g : mm_H) : Prop := (∀ a, a < 48 ∨ (156 ≤ a ∧ a ≤ 157) ∨ 159 ≤ a → g a = h a) ∧ fI g 48 7 = fI h 48 7 ∧ fR g 48 8 = fR h 48 8 ∧ fI g 48 10 = fI h 48 10 ∧ fI g 151 5 = fI h 151 5
def FB (h g : mm_H) : Prop := (∀ a, a < 48 ∨ (156 ≤ a ∧ a ≤ 157) ∨ 159 ≤ a → g a = h a) ∧ fI g 48 7 = fI h 48 7 ∧ fR g 48 8 = fR h 48 8 ∧ fI g 48 10 = fI h 48 10 ∧ fI g 151 5 = fI h 151 5 ∧ fI g 48 5 = fI h 48 5
theorem FB.o {h g : mm_H} (f : FB h g) : FB0 h g := ⟨f.1, f.2.1, f.2.2.1, f.2.2.2.1, f.2.2.2.2.1⟩
theorem FB.id_ {h : mm_H} : FB h h := ⟨fun _ _ => Eq.refl _, Eq.refl _, Eq.refl _, Eq.refl _, Eq.refl _, Eq.refl _⟩
theorem FB.trans {h g f : mm_H} (a : FB h g) (b : FB g f) : FB h f := by
  obtain ⟨a1, a2, a3, a4, a5, a6⟩ := a
  obtain ⟨b1, b2, b3, b4, b5, b6⟩ := b
  exact ⟨fun x hx => (b1 x hx).trans (a1 x hx), b2.trans a2, b3.trans a3, b4.trans a4, b5.trans a5, b6.trans a6⟩
theorem mm_sf_n {h : mm_H} {a b k : Nat} {v : Value} (q : b ≠ a) : mm_sf h a k v b = h b := mm_up_n q
theorem mm_si_n {h : mm_H} {a b i : Nat} {x : Int32} (q : b ≠ a) : mm_si h a i x b = h b := mm_up_n q
theorem mm_sj_n {h : mm_H} {a b i : Nat} {x : Int64} (q : b ≠ a) : mm_sj h a i x b = h b := mm_up_n q
theorem mm_sr_n {h : mm_H} {a b i : Nat} {x : Option Nat} (q : b ≠ a) : mm_sr h a i x b = h b := mm_up_n q

/-! ===== the law's own arrays, the script's cells, what stands of the class ===== -/
section OWNA
variable {K n : Nat} {h g : mm_H}
theorem bindE {α β : Type} {X : Option α} {f : α → Option β} {P : β → Prop} {w : α} (e : X = some w) (k : ∃ r, f w = some r ∧ P r) : ∃ r, X.bind f = some r ∧ P r := by
  rw [e]
  exact k
theorem iteN {c : Prop} [Decidable c] {β : Type} {a b : Option β} {P : β → Prop} (hc : ¬ c) (k : ∃ r, b = some r ∧ P r) : ∃ r, (if c then a else b) = some r ∧ P r := by
  rw [if_neg hc]
  exact k
theorem iteY {c : Prop} [Decidable c] {β : Type} {a b : Option β} {P : β → Prop} (hc : c) (k : ∃ r, a = some r ∧ P r) : ∃ r, (if c then a else b) = some r ∧ P r := by
  rw [if_pos hc]
  exact k
theorem bindS {α β : Type} {X : Option α} {f : α → Option β} {r : β} {w : α} (e : X = some w) (k : f w = some r) : X.bind f = some r := by
  rw [e]
  exact k
def IR (h : mm_H) (a : Nat) (f : Nat → Int32) : Prop := h a = .inl (.int, 64, .inl f)
def JRn (h : mm_H) (a N : Nat) (f : Nat → Int64) : Prop := h a = .inl (.long, N, .inr (.inl f))
theorem IR.c {a : Nat} {f : Nat → Int32} (I : IR h a f) (e : g a = h a) : IR g a f := e.trans I
theorem JRn.c {a N : Nat} {f : Nat → Int64} (I : JRn h a N f) (e : g a = h a) : JRn g a N f := e.trans I
theorem IR.ld {a i : Nat} {f : Nat → Int32} (I : IR h a f) (ha : a < n) (hi : i < 64) : ldI h n a (ni i) = some (f i) := by
  unfold ldI
  rw [if_pos ha, I]
  show (if inb (ni i) 64 = true then some (f (ni i).toNatClampNeg) else none) = _
  rw [if_pos (ni_inb (by omega) hi), ni_tn (by omega)]
theorem IR.st {a i : Nat} {f : Nat → Int32} (I : IR h a f) (h48 : 48 ≤ a) (ha : a < n) (hi : i < 64) (x : Int32) : stI h n a (ni i) x = some (mm_si h a i x) := by
  unfold stI
  rw [if_pos ⟨h48, ha⟩, I]
  show (if inb (ni i) 64 = true then some (mm_si h a (ni i).toNatClampNeg x) else none) = _
  rw [if_pos (ni_inb (by omega) hi), ni_tn (by omega)]
theorem IR.si {a : Nat} {f : Nat → Int32} (I : IR h a f) (i : Nat) (x : Int32) : IR (mm_si h a i x) a (upd f i x) := by
  unfold IR
  rw [← mm_si_eq I]
  exact mm_up_s
theorem JRn.ld {a i N : Nat} {f : Nat → Int64} (I : JRn h a N f) (h48 : 48 ≤ a) (ha : a < n) (hi : i < N) (hi2 : i < 2147483648) : ldJ h n a (ni i) = some (f i) := by
  unfold ldJ
  rw [if_pos ⟨h48, ha⟩, I]
  show (if inb (ni i) N = true then some (f (ni i).toNatClampNeg) else none) = _
  rw [if_pos (ni_inb hi2 hi), ni_tn hi2]
theorem JRn.st {a i N : Nat} {f : Nat → Int64} (I : JRn h a N f) (h48 : 48 ≤ a) (ha : a < n) (hi : i < N) (hi2 : i < 2147483648) (x : Int64) : stJ h n a (ni i) x = some (mm_sj h a i x) := by
  unfold stJ
  rw [if_pos ⟨h48, ha⟩, I]
  show (if inb (ni i) N = true then some (mm_sj h a (ni i).toNatClampNeg x) else none) = _
  rw [if_pos (ni_inb hi2 hi), ni_tn hi2]
theorem JRn.sj {a N : Nat} {f : Nat → Int64} (I : JRn h a N f) (i : Nat) (x : Int64) : JRn (mm_sj h a i x) a N (vp_updL f i x) := by
  unfold JRn
  rw [← mm_sj_eq I]
  exact mm_up_s
theorem new64 (hn : n < 1000000) : newI h n .int 64 64 = some (mm_up h n (.inl (.int, 64, .inl (fun _ => 0)))) := by
  unfold newI
  rw [if_pos ⟨by decide, by decide, hn⟩]
  rfl
theorem newJN {N : Nat} (hN : N < 2147483648) (hn : n < 1000000) : newJ h n N (ni N) = some (mm_up h n (.inl (.long, N, .inr (.inl (fun _ => 0))))) := by
  unfold newJ
  rw [if_pos ⟨ni_pos hN, by rw [ni_tn hN]; exact Nat.le_refl N, hn⟩, ni_tn hN]
/-- some bits of a number -/
def bt (v : Int32) (M : Nat) : Nat := (v &&& ni M).toNatClampNeg
theorem bt_ok (v : Int32) {M : Nat} (hM : M < 2147483648) : v &&& ni M = ni (bt v M) ∧ bt v M ≤ M := by
  have e : v &&& ni M = ni (v.toBitVec &&& (ni M).toBitVec).toNat := by
    refine Int32.toBitVec_inj.mp ?_
    show v.toBitVec &&& (ni M).toBitVec = BitVec.ofNat 32 _
    rw [BitVec.ofNat_toNat, BitVec.setWidth_eq]
  have l : (v.toBitVec &&& (ni M).toBitVec).toNat ≤ M := by
    rw [BitVec.toNat_and]
    refine Nat.le_trans Nat.and_le_right ?_
    show (BitVec.ofNat 32 M).toNat ≤ M
    rw [BitVec.toNat_ofNat]
    exact Nat.mod_le _ _
  unfold bt
  rw [e, ni_tn (by omega)]
  exact ⟨rfl, l⟩
theorem nb_sub {a b : Nat} (h : b ≤ a) : ni a - ni b = ni (a - b) := by
  obtain ⟨k, rfl⟩ : ∃ k, a = k + b := ⟨a - b, by omega⟩
  rw [Nat.add_sub_cancel, ← ni_add]
  refine Int32.toBitVec_inj.mp ?_
  show (BitVec.ofNat 32 k + BitVec.ofNat 32 b) - BitVec.ofNat 32 b = BitVec.ofNat 32 k
  rw [BitVec.add_sub_cancel]
theorem ni_mod {a b : Nat} (ha : a < 2147483648) (hb : b < 2147483648) : ni a - ni a / ni b * ni b = ni (a % b) := by
  rw [ni_div ha hb, ni_mul, nb_sub (Nat.div_mul_le_self a b)]
  congr 1
  have := Nat.div_add_mod a b
  rw [Nat.mul_comm] at this
  omega
/-- the script -/
def cx (L : Nat) (xs : Nat → Int32) (k : Nat) : Int32 := if k < L then xs k else 0
def S0 (h : mm_H) (L : Nat) (xs : Nat → Int32) : Prop := h 0 = .inl (.int, L, .inl xs)
theorem cell_ok {L k : Nat} {xs : Nat → Int32} (hn : 0 < n) (e : S0 h L xs) (hL : L ≤ 260) (hk : k < 1000) : q_L_cell K h n (some 0) (ni k) = some (cx L xs k) := by
  unfold q_L_cell
  have e1 : lenA h n 0 0 = some (ni L) := by
    unfold lenA
    rw [if_neg (by omega), if_pos (by omega), e]
  show (lenA h n 0 0).bind _ = _
  rw [e1, Option.bind_some]
  unfold cx
  by_cases q : k < L
  · have h1 : ¬ ni L ≤ ni k := fun z => by have := (ni_le (by omega) (by omega)).mp z; omega
    rw [if_neg h1, if_pos q]
    have e2 : ldI h n 0 (ni k) = some (xs k) := by
      unfold ldI
      rw [if_pos hn, e]
      show (if inb (ni k) L = true then some (xs (ni k).toNatClampNeg) else none) = _
      rw [if_pos (ni_inb (by omega) q), ni_tn (by omega)]
    rw [e2]
    rfl
  · have h1 : ni L ≤ ni k := (ni_le (by omega) (by omega)).mpr (by omega)
    rw [if_pos h1, if_neg q]
    rfl
/-- one text is taken, held in the cells below n -/
theorem TK.lo {n m p : Nat} {L : List Stm} (t : TK h n p L) (hm : n ≤ m) (e : ∀ a, a = 2 ∨ a = 48 ∨ a = 156 ∨ (159 ≤ a ∧ a < n) → g a = h a) : TK g m p L := by
  obtain ⟨⟨f, t1⟩, t2, t3, t4, t5, t6⟩ := t
  exact ⟨⟨f, (e 2 (by omega)).trans t1⟩, (fI_c (e 48 (by omega)) 7).trans t2, by rw [rA_c (e 156 (by omega))]; exact t3, bookC_up t4 hm (fun a p q => e a (by omega)), t5, t6⟩
/-- what stands of the class from the first firms on: the text taken, the firms, no word of the bench, the day -/
def BA (h : mm_H) (n0 p : Nat) (L : List Stm) (N : Nat) (xs : Nat → Int32) (s0 t : Nat) : Prop := PS h ∧ JR h ∧ TK h n0 p L ∧ PRT h ∧ fI h 49 5 = 2 ∧ S0 h N xs ∧ iA h 50 0 = ni s0 ∧ iA h 50 1 = 7 ∧ fI h 61 5 = 0 ∧ fI h 49 6 = ni t
theorem BA.c {n0 p N s0 t : Nat} {L : List Stm} {xs : Nat → Int32} (b : BA h n0 p L N xs s0 t) (c : PS g) (j : JR g) (e : ∀ a, a ≤ 50 ∨ a = 61 ∨ (73 ≤ a ∧ a < n0) → g a = h a) (hn0 : 159 ≤ n0) : BA g n0 p L N xs s0 t := by
  obtain ⟨b1, b2, b3, ⟨f, b4, b4'⟩, b5, b6, b7, b8, b9, b0⟩ := b
  refine ⟨c, j, b3.lo (Nat.le_refl _) (fun a q => e a (by omega)), ⟨f, (e 1 (by omega)).trans b4, b4'⟩, (fI_c (e 49 (by omega)) 5).trans b5, (e 0 (by omega)).trans b6, ?_, ?_, (fI_c (e 61 (by omega)) 5).trans b9, (fI_c (e 49 (by omega)) 6).trans b0⟩
  · rw [iA_c (e 50 (by omega))]; exact b7
  · rw [iA_c (e 50 (by omega))]; exact b8
theorem BA.own {n0 p N s0 t : Nat} {L : List Stm} {xs : Nat → Int32} (b : BA h n0 p L N xs s0 t) (hn0 : 159 ≤ n0) (e : ∀ a, a < n0 → g a = h a) : BA g n0 p L N xs s0 t :=
  b.c (b.1.of (fun a s q => e a (by
    refine Nat.lt_of_not_le fun z => ?_
    rw [mm_sh_top (by omega)] at q
    cases q))) (JR_0 (fun a ha => e a (by omega)) b.2.1) (fun a ha => e a (by omega)) hn0
/-- what is known: a number for each thing told -/
def KNp (h : mm_H) (kf : Nat → Nat → Nat → Int32) (m : Nat) : Prop := fI h 51 4 = ni m ∧ ∀ f y w d : Nat, f ≤ 10 → y ≤ 14 → w ≤ 16 → d < 2147483648 → kn h f y w (ni d) = kf f y w
theorem KNp.c {kf : Nat → Nat → Nat → Int32} {m : Nat} (k : KNp h kf m) (e : ∀ a, 51 ≤ a → a ≤ 55 → g a = h a) : KNp g kf m := by
  refine ⟨(fI_c (e 51 (by omega) (by omega)) 4).trans k.1, fun f y w d h1 h2 h3 h4 => ?_⟩
  rw [kn_c (fun a p q => e a (by omega) q)]
  exact k.2 f y w d h1 h2 h3 h4
def ku (kf : Nat → Nat → Nat → Int32) (y w : Nat) (v : Int32) : Nat → Nat → Nat → Int32 := fun f' y' w' => if f' = 0 ∧ y' = y ∧ w' = w then v else kf f' y' w'
theorem BA.fact {n0 p N s0 : Nat} {L : List Stm} {xs : Nat → Int32} (b : BA h n0 p L N xs s0 0) (hn0 : 159 ≤ n0) (hn : 159 ≤ n) {kf : Nat → Nat → Nat → Int32} {m y w v : Nat} (k : KNp h kf m) (hm : m < 500) (hy : y ≤ 14) (hw3 : 3 ≤ w) (hw : w ≤ 16) (hv : v ≤ 9999) : ∃ g, q_X10_fact K h n 48 0 (ni y) (ni w) (ni v) = some (ni m, g) ∧ BA g n0 p L N xs s0 0 ∧ KNp g (ku kf y w (ni v)) (m + 1) ∧ KE 51 55 h g := by
  obtain ⟨b1, b2, -, -, b5, -, -, -, -, b0⟩ := id b
  obtain ⟨g, e, c, j, ke, q1, q2⟩ := r_fact (K := K) b1 hn b2 b5 b0 k.1 hm hy hw3 hw hv
  refine ⟨g, e, b.c c j (fun a ha => ke a (by omega)) hn0, ⟨q1, fun f' y' w' d h1 h2 h3 h4 => ?_⟩, ke⟩
  rw [q2 f' y' w' d h1 h2 h3 h4, k.2 f' y' w' d h1 h2 h3 h4]
  rfl
end OWNA

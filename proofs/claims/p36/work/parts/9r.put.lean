/-! ===== a text is fed ===== -/
section PUTS
variable {K n : Nat} {h g : mm_H}
theorem lt_bit {a : BitVec 32} (ha : a.toNat < 256) {j : Nat} (hj : 8 ≤ j) : a.getLsbD j = false := by
  refine Nat.testBit_lt_two_pow (Nat.lt_of_lt_of_le ha ?_)
  exact Nat.pow_le_pow_right (n := 2) (by decide) hj
/-- four bytes in one number -/
def bv4 (a b c d : BitVec 32) : BitVec 32 := (((0#32 ||| a <<< 24) ||| b <<< 16) ||| c <<< 8) ||| d <<< 0
theorem bv4_at {a b c d : BitVec 32} (ha : a.toNat < 256) (hb : b.toNat < 256) (hc : c.toNat < 256) (hd : d.toNat < 256) : (bv4 a b c d >>> 24) &&& 255#32 = a ∧ (bv4 a b c d >>> 16) &&& 255#32 = b ∧ (bv4 a b c d >>> 8) &&& 255#32 = c ∧ (bv4 a b c d >>> 0) &&& 255#32 = d := by
  have al := fun j q => lt_bit (j := j) ha q
  have bl := fun j q => lt_bit (j := j) hb q
  have cl := fun j q => lt_bit (j := j) hc q
  have dl := fun j q => lt_bit (j := j) hd q
  refine ⟨?_, ?_, ?_, ?_⟩
  · refine BitVec.eq_of_getLsbD_eq (fun i hi => ?_)
    unfold bv4
    simp only [BitVec.getLsbD_and, BitVec.getLsbD_ushiftRight, BitVec.getLsbD_or, BitVec.getLsbD_shiftLeft, BitVec.getLsbD_zero, b255 i hi, Bool.false_or]
    by_cases q : i < 8
    · rw [bl (24 + i - 16) (by omega), cl (24 + i - 8) (by omega), dl (24 + i - 0) (by omega), show 24 + i - 24 = i by omega]
      simp [q, show 24 + i < 32 by omega]
    · rw [al i (by omega), decide_eq_false q, Bool.and_false]
  · refine BitVec.eq_of_getLsbD_eq (fun i hi => ?_)
    unfold bv4
    simp only [BitVec.getLsbD_and, BitVec.getLsbD_ushiftRight, BitVec.getLsbD_or, BitVec.getLsbD_shiftLeft, BitVec.getLsbD_zero, b255 i hi, Bool.false_or]
    by_cases q : i < 8
    · rw [cl (16 + i - 8) (by omega), dl (16 + i - 0) (by omega), show 16 + i - 16 = i by omega]
      simp [q, show 16 + i < 32 by omega, show 16 + i < 24 by omega]
    · rw [bl i (by omega), decide_eq_false q, Bool.and_false]
  · refine BitVec.eq_of_getLsbD_eq (fun i hi => ?_)
    unfold bv4
    simp only [BitVec.getLsbD_and, BitVec.getLsbD_ushiftRight, BitVec.getLsbD_or, BitVec.getLsbD_shiftLeft, BitVec.getLsbD_zero, b255 i hi, Bool.false_or]
    by_cases q : i < 8
    · rw [dl (8 + i - 0) (by omega), show 8 + i - 8 = i by omega]
      simp [q, show 8 + i < 32 by omega, show 8 + i < 24 by omega, show 8 + i < 16 by omega]
    · rw [cl i (by omega), decide_eq_false q, Bool.and_false]
  · refine BitVec.eq_of_getLsbD_eq (fun i hi => ?_)
    unfold bv4
    simp only [BitVec.getLsbD_and, BitVec.getLsbD_ushiftRight, BitVec.getLsbD_or, BitVec.getLsbD_shiftLeft, BitVec.getLsbD_zero, b255 i hi, Bool.false_or]
    by_cases q : i < 8
    · rw [show 0 + i - 0 = i by omega]
      simp [q, hi, show i < 24 by omega, show i < 16 by omega]
    · rw [dl i (by omega), decide_eq_false q, Bool.and_false]
/-- the law packs letters -/
def pk (c : Nat → Int32) : Nat → Nat → Int32
  | 0, _ => 0
  | i + 1, j => if j = i / 4 then pk c i j ||| (c i <<< (((24 : Int32) - ((8 : Int32) * ni (i % 4))) &&& 31)) else pk c i j
theorem pk_20 (c : Nat → Int32) {j : Nat} (hj : j < 5) : (pk c 20 j).toBitVec = bv4 (c (4 * j)).toBitVec (c (4 * j + 1)).toBitVec (c (4 * j + 2)).toBitVec (c (4 * j + 3)).toBitVec := by
  rcases (show j = 0 ∨ j = 1 ∨ j = 2 ∨ j = 3 ∨ j = 4 by omega) with rfl | rfl | rfl | rfl | rfl
  · rfl
  · rfl
  · rfl
  · rfl
  · rfl
theorem ni_bv {t : Nat} (ht : t < 256) : (ni t).toBitVec.toNat < 256 := by
  show (BitVec.ofNat 32 t).toNat < 256
  rw [BitVec.toNat_ofNat]
  omega
theorem pk_by (b : Nat → Nat) (hb : ∀ k, b k < 256) {j : Nat} (hj : j < 5) : bY (pk (fun k => ni (b k)) 20 j) 24 = ni (b (4 * j)) ∧ bY (pk (fun k => ni (b k)) 20 j) 16 = ni (b (4 * j + 1)) ∧ bY (pk (fun k => ni (b k)) 20 j) 8 = ni (b (4 * j + 2)) ∧ bY (pk (fun k => ni (b k)) 20 j) 0 = ni (b (4 * j + 3)) := by
  have e := pk_20 (fun k => ni (b k)) hj
  obtain ⟨r1, r2, r3, r4⟩ := bv4_at (ni_bv (hb (4 * j))) (ni_bv (hb (4 * j + 1))) (ni_bv (hb (4 * j + 2))) (ni_bv (hb (4 * j + 3)))
  refine ⟨Int32.toBitVec_inj.mp ?_, Int32.toBitVec_inj.mp ?_, Int32.toBitVec_inj.mp ?_, Int32.toBitVec_inj.mp ?_⟩
  · show ((pk (fun k => ni (b k)) 20 j).toBitVec >>> 24) &&& 255#32 = _
    rw [e]
    exact r1
  · show ((pk (fun k => ni (b k)) 20 j).toBitVec >>> 16) &&& 255#32 = _
    rw [e]
    exact r2
  · show ((pk (fun k => ni (b k)) 20 j).toBitVec >>> 8) &&& 255#32 = _
    rw [e]
    exact r3
  · show ((pk (fun k => ni (b k)) 20 j).toBitVec >>> 0) &&& 255#32 = _
    rw [e]
    exact r4
theorem upC_at (b : Nat → Nat) (hb : ∀ k, b k < 256) {j : Nat} (hj : j < 5) (f : Nat → Int32) (t i : Nat) : upC f (t + 4 * j) (pk (fun k => ni (b k)) 20 j) i = if t + 4 * j ≤ i ∧ i < t + 4 * j + 4 then ni (b (i - t)) else f i := by
  obtain ⟨r1, r2, r3, r4⟩ := pk_by b hb hj
  unfold upC
  rw [r1, r2, r3, r4]
  by_cases q3 : i = t + 4 * j + 1 + 1 + 1
  · subst q3
    rw [upd_s, if_pos (by omega), show t + 4 * j + 1 + 1 + 1 - t = 4 * j + 3 by omega]
  · rw [upd_n q3]
    by_cases q2 : i = t + 4 * j + 1 + 1
    · subst q2
      rw [upd_s, if_pos (by omega), show t + 4 * j + 1 + 1 - t = 4 * j + 2 by omega]
    · rw [upd_n q2]
      by_cases q1 : i = t + 4 * j + 1
      · subst q1
        rw [upd_s, if_pos (by omega), show t + 4 * j + 1 - t = 4 * j + 1 by omega]
      · rw [upd_n q1]
        by_cases q0 : i = t + 4 * j
        · subst q0
          rw [upd_s, if_pos (by omega), show t + 4 * j - t = 4 * j by omega]
        · rw [upd_n q0, if_neg (by omega)]
theorem z_feed (hK : 3000 ≤ K) (c : PS h) (hn : 159 ≤ n) {t : Nat} (ht : fI h 48 5 = ni t) (h9 : t + 20 ≤ 900) (b : Nat → Nat) (hb : ∀ k, b k < 256) : ∃ g, q_X10_feed K h n 48 (pk (fun k => ni (b k)) 20 0) (pk (fun k => ni (b k)) 20 1) (pk (fun k => ni (b k)) 20 2) (pk (fun k => ni (b k)) 20 3) (pk (fun k => ni (b k)) 20 4) = some (ni (t + 20), g) ∧ PS g ∧ fI g 48 5 = ni (t + 20) ∧ (∀ i, iA g 155 i = if t ≤ i ∧ i < t + 20 then ni (b (i - t)) else iA h 155 i) ∧ FC h g := by
  obtain ⟨g1, x1, c1, t1, a1, f1⟩ := z_tapeNumber hK c hn ht (by omega) (pk (fun k => ni (b k)) 20 0)
  obtain ⟨g2, x2, c2, t2, a2, f2⟩ := z_tapeNumber hK c1 hn t1 (by omega) (pk (fun k => ni (b k)) 20 1)
  obtain ⟨g3, x3, c3, t3, a3, f3⟩ := z_tapeNumber hK c2 hn t2 (by omega) (pk (fun k => ni (b k)) 20 2)
  obtain ⟨g4, x4, c4, t4, a4, f4⟩ := z_tapeNumber hK c3 hn t3 (by omega) (pk (fun k => ni (b k)) 20 3)
  obtain ⟨g5, x5, c5, t5, a5, f5⟩ := z_tapeNumber hK c4 hn t4 (by omega) (pk (fun k => ni (b k)) 20 4)
  have t5' : fI g5 48 5 = ni (t + 20) := t5
  refine ⟨g5, ?_, c5, t5', fun i => ?_, (((f1.trans f2).trans f3).trans f4).trans f5⟩
  · unfold q_X10_feed
    have l9 : ni t + 20 ≤ 900 := by
      rw [show ni t + 20 = ni (t + 20) from ni_add t 20]
      exact (ni_le (b := 900) (by omega) (by omega)).mpr h9
    rw [g_48_5 c hn, Option.bind_some, ht, if_pos l9, gq_48 c hn, Option.bind_some, x1, Option.bind_some, gq_48 c1 hn, Option.bind_some, x2, Option.bind_some, gq_48 c2 hn, Option.bind_some, x3, Option.bind_some, gq_48 c3 hn, Option.bind_some, x4, Option.bind_some, gq_48 c4 hn, Option.bind_some, x5, Option.bind_some, g_48_5 c5 hn, Option.bind_some, t5']
  · rw [a5, show t + 4 + 4 + 4 + 4 = t + 4 * 4 by omega, upC_at b hb (by omega), a4, show t + 4 + 4 + 4 = t + 4 * 3 by omega, upC_at b hb (by omega), a3, show t + 4 + 4 = t + 4 * 2 by omega, upC_at b hb (by omega), a2, show t + 4 = t + 4 * 1 by omega, upC_at b hb (by omega), a1]
    have e0 := upC_at b hb (j := 0) (by omega) (iA h 155) t i
    rw [show t + 4 * 0 = t by omega] at e0
    rw [e0]
    by_cases z : t ≤ i ∧ i < t + 20
    · rw [if_pos z]
      by_cases q4 : t + 4 * 4 ≤ i ∧ i < t + 4 * 4 + 4
      · rw [if_pos q4]
      · rw [if_neg q4]
        by_cases q3 : t + 4 * 3 ≤ i ∧ i < t + 4 * 3 + 4
        · rw [if_pos q3]
        · rw [if_neg q3]
          by_cases q2 : t + 4 * 2 ≤ i ∧ i < t + 4 * 2 + 4
          · rw [if_pos q2]
          · rw [if_neg q2]
            by_cases q1 : t + 4 * 1 ≤ i ∧ i < t + 4 * 1 + 4
            · rw [if_pos q1]
            · rw [if_neg q1, if_pos (by omega)]
    · rw [if_neg z, if_neg (by omega), if_neg (by omega), if_neg (by omega), if_neg (by omega), if_neg (by omega)]
theorem chr7 : ∀ t : Nat, t < 128 → ((Int32.toUInt32 (ni t &&& 255)) % 65536).toInt32 = ni t ∧ ckn .char (ni t) = some () := by decide +kernel
/-- a letter of a text -/
theorem z_charAt {s vs : Nat} {T : List Nat} (t : STr h n s vs T) (hv : vs < n) {k : Nat} (hk : k < T.length) : q_J0_charAt_5068e K h n s (ni k) = some (ni (T.getD k 0)) := by
  obtain ⟨t1, t2, t3, t4⟩ := t.ok
  obtain ⟨u1, u2, ⟨f, u3, u4⟩, -⟩ := t
  have h7 := u1.at_ k
  obtain ⟨c1, c2⟩ := chr7 (T.getD k 0) h7
  unfold q_J0_charAt_5068e q_J0_isLatin1_aae02
  rw [t3, Option.bind_some, t2]
  show ((some (1 : Int32)).bind fun v3 => _) = _
  rw [Option.bind_some, if_neg (by decide), t1, Option.bind_some]
  have e : q_J1_charAt_3b067 K h n (some vs) (ni k) = some (ni (T.getD k 0)) := by
    unfold q_J1_charAt_3b067 q_J0_checkIndex_df160 q_J3_checkIndex_8e157
    have ld : ldB h n vs (ni k) = some (ni (T.getD k 0)) := by
      unfold ldB
      rw [if_pos hv, u3]
      show (if inb (ni k) T.length = true then some (f (ni k).toNatClampNeg) else none) = _
      rw [if_pos (ni_inb (by omega) hk), ni_tn (by omega), u4 k hk]
    rw [Option.bind_some, t4, Option.bind_some, if_neg (ni_pos (by omega)), if_pos ((ni_lt (by omega) (by omega)).mpr hk), Option.bind_some, Option.bind_some, ld, Option.bind_some, c1, c2, Option.bind_some]
  rw [e, Option.bind_some, c2, Option.bind_some]
/-- loop: twenty letters in five numbers -/
theorem lp_21 {s vs z : Nat} {T : List Nat} (hz : 159 ≤ z) (hzn : z < n) (hn9 : n ≤ 1000000) {l0 : Option Nat} (hv : vs < z) (hs : s < z) {t : Nat} (ht : t < 1000) : ∀ (q i k : Nat) (h : mm_H) (f : Nat → Int32), i + q = 20 → q < k → STr h n s vs T → IR h z f → (∀ j, j < 5 → f j = pk (fun k => ni (T.getD (t + k) 32)) i j) →
    ∃ g, lp_L_put_21 K n l0 s (ni T.length) (ni t) z k (ni i) h = some g ∧ (∃ f, IR g z f ∧ ∀ j, j < 5 → f j = pk (fun k => ni (T.getD (t + k) 32)) 20 j) ∧ ∀ a, a ≠ z → g a = h a := by
  intro q
  induction q with
  | zero =>
    intro i k h f hi hk S I hf
    obtain ⟨k, rfl⟩ : ∃ z, k = z + 1 := ⟨k - 1, by omega⟩
    obtain rfl : i = 20 := by omega
    unfold lp_L_put_21
    exact iteY (by decide) ⟨h, rfl, ⟨f, I, hf⟩, fun _ _ => rfl⟩
  | succ q ih =>
    intro i k h f hi hk S I hf
    obtain ⟨k, rfl⟩ : ∃ z, k = z + 1 := ⟨k - 1, by omega⟩
    unfold lp_L_put_21
    have hT3 := S.2.1
    have d4 : ni i / 4 = ni (i / 4) := ni_div (b := 4) (by omega) (by omega)
    have m4 : ni i - ni (i / 4) * 4 = ni (i % 4) := by
      have := ni_mod (a := i) (b := 4) (by omega) (by omega)
      rw [show ni 4 = (4 : Int32) from rfl, d4] at this
      exact this
    rw [d4, m4]
    refine iteN (fun v => by have := (ni_le (a := 20) (by omega) (by omega)).mp v; omega) ?_
    refine bindE (I.ld (by omega) (by omega)) ?_
    refine bindE (w := ni (T.getD (t + i) 32)) ?_ ?_
    · rw [ni_add]
      by_cases q : T.length ≤ t + i
      · rw [if_pos ((ni_le (by omega) (by omega)).mpr q), List.getD_eq_getElem?_getD, List.getElem?_eq_none q]
        rfl
      · rw [if_neg (fun w => q ((ni_le (by omega) (by omega)).mp w)), S.ok.2.2.1, Option.bind_some, z_charAt S (by omega) (by omega), Option.bind_some, List.getD_eq_getElem?_getD, List.getD_eq_getElem?_getD, List.getElem?_eq_getElem (by omega)]
        rfl
    refine bindE (I.st (by omega) (by omega) (by omega) _) ?_
    obtain ⟨g, e, r1, r2⟩ := ih (i + 1) k _ _ (by omega) (by omega) (S.c (mm_si_n (by omega)) (mm_si_n (by omega)) (Nat.le_refl _) hn9) (I.si (i / 4) (f (i / 4) ||| (ni (T.getD (t + i) 32) <<< (((24 : Int32) - ((8 : Int32) * ni (i % 4))) &&& 31)))) (fun j hj => by
      show _ = if j = i / 4 then _ else _
      by_cases w : j = i / 4
      · rw [w, upd_s, if_pos rfl, hf _ (by omega)]
      · rw [upd_n w, if_neg w, hf j hj])
    rw [ni_1]
    exact ⟨g, e, r1, fun a ha => (r2 a ha).trans (mm_si_n ha)⟩
theorem getD_b {T : List Nat} (q : T7 T) (k : Nat) : T.getD k 32 < 256 := by
  rw [List.getD_eq_getElem?_getD]
  cases e : T[k]? with
  | none => exact Nat.lt_of_sub_eq_succ rfl
  | some t => exact Nat.lt_trans (q t (List.mem_of_getElem? e)) (by decide)
theorem JP_and (x : Nat) (hx : x < 256) : ni x &&& 255 = ni x := by
  obtain ⟨e1, e2⟩ := bt_ok (ni x) (M := 255) (by omega)
  refine Int32.toBitVec_inj.mp ?_
  show BitVec.ofNat 32 x &&& 255#32 = BitVec.ofNat 32 x
  refine BitVec.eq_of_getLsbD_eq (fun i hi => ?_)
  rw [BitVec.getLsbD_and, b255 i hi]
  by_cases q : i < 8
  · rw [decide_eq_true q, Bool.and_true]
  · have : (BitVec.ofNat 32 x).getLsbD i = false := lt_bit (a := BitVec.ofNat 32 x) (by rw [BitVec.toNat_ofNat]; omega) (by omega)
    rw [this, Bool.false_and]
/-- loop: the text, twenty letters at a time -/
theorem lp_7 (hK : 3000 ≤ K) {s vs n0 : Nat} {T : List Nat} (hn0 : 159 ≤ n0) (hv : vs < n0) (hs : s < n0) : ∀ (q m k n : Nat) (h : mm_H), T.length ≤ 20 * (m + q) → 20 * (m + q) ≤ 900 → q < k → n0 ≤ n → n + q < 1000000 → STr h n s vs T → PS h → fI h 48 5 = ni (20 * m) → (∀ i, i < 20 * m → iA h 155 i = ni (T.getD i 32)) → (∀ i, iA h 155 i = iA h 155 i &&& 255) →
    ∃ g m', lp_L_put_7 K (some 48) s (ni T.length) k (ni (20 * m)) h n = some (g, m') ∧ n ≤ m' ∧ m' ≤ n + q ∧ PS g ∧ (∃ t, T.length ≤ t ∧ t ≤ 900 ∧ fI g 48 5 = ni t) ∧ (∀ i, i < T.length → iA g 155 i = ni (T.getD i 32)) ∧ (∀ i, iA g 155 i = iA g 155 i &&& 255) ∧ (∀ a, a ≠ 48 → a ≠ 155 → (a < n ∨ n + q ≤ a) → g a = h a) ∧ fI g 48 7 = fI h 48 7 ∧ fR g 48 8 = fR h 48 8 ∧ fI g 48 10 = fI h 48 10 := by
  intro q
  induction q with
  | zero =>
    intro m k n h hm h9 hk hn hn9 S c t5 ta tb
    obtain ⟨k, rfl⟩ : ∃ z, k = z + 1 := ⟨k - 1, by omega⟩
    unfold lp_L_put_7
    rw [if_pos ((ni_le (by omega) (by omega)).mpr (by omega))]
    exact ⟨h, n, rfl, Nat.le_refl _, Nat.le_refl _, c, ⟨20 * m, by omega, by omega, t5⟩, fun i hi => ta i (by omega), tb, fun _ _ _ _ => rfl, rfl, rfl, rfl⟩
  | succ q ih =>
    intro m k n h hm h9 hk hn hn9 S c t5 ta tb
    obtain ⟨k, rfl⟩ : ∃ z, k = z + 1 := ⟨k - 1, by omega⟩
    unfold lp_L_put_7
    have hT3 := S.2.1
    by_cases q0 : T.length ≤ 20 * m
    · rw [if_pos ((ni_le (by omega) (by omega)).mpr q0)]
      exact ⟨h, n, rfl, Nat.le_refl _, by omega, c, ⟨20 * m, by omega, by omega, t5⟩, fun i hi => ta i (by omega), tb, fun _ _ _ _ => rfl, rfl, rfl, rfl⟩
    · rw [if_neg (fun z => q0 ((ni_le (by omega) (by omega)).mp z)), new64 (by omega), Option.bind_some]
      have S1 : STr (mm_up h n (.inl (.int, 64, .inl (fun _ => 0)))) (n + 1) s vs T := S.c (mm_up_n (by omega)) (mm_up_n (by omega)) (by omega) (by omega)
      obtain ⟨g1, e1, ⟨f, I, hf⟩, q1⟩ := lp_21 (K := K) (n := n + 1) (l0 := some 48) (z := n) (by omega) (by omega) (by omega) (show vs < n by omega) (show s < n by omega) (t := 20 * m) (by omega) 20 0 K _ _ (by omega) (by omega) S1 IR.new (fun j hj => rfl)
      have e1' : lp_L_put_21 K (n + 1) (some 48) s (ni T.length) (ni (20 * m)) n K 0 (mm_up h n (.inl (.int, 64, .inl (fun _ => 0)))) = some g1 := e1
      have fr1 : ∀ a, a ≠ n → g1 a = h a := fun a ha => (q1 a ha).trans (mm_up_n ha)
      have c1 : PS g1 := c.of (fun a s q => fr1 a (by
        intro z
        rw [z, mm_sh_top (by omega)] at q
        cases q))
      obtain ⟨g2, e2, c2, u2, a2, f2⟩ := z_feed (K := K) (n := n + 1) hK c1 (by omega) (t := 20 * m) ((fI_c (fr1 48 (by omega)) 5).trans t5) (by omega) (fun k => T.getD (20 * m + k) 32) (fun k => getD_b S.1 _)
      have l0 := (I.ld (n := n + 1) (i := 0) (by omega) (by omega)).trans (congrArg some (hf 0 (by omega)))
      have l1 := (I.ld (n := n + 1) (i := 1) (by omega) (by omega)).trans (congrArg some (hf 1 (by omega)))
      have l2 := (I.ld (n := n + 1) (i := 2) (by omega) (by omega)).trans (congrArg some (hf 2 (by omega)))
      have l3 := (I.ld (n := n + 1) (i := 3) (by omega) (by omega)).trans (congrArg some (hf 3 (by omega)))
      have l4 := (I.ld (n := n + 1) (i := 4) (by omega) (by omega)).trans (congrArg some (hf 4 (by omega)))
      have fr2 : ∀ a, a ≠ 48 → a ≠ 155 → a ≠ n → g2 a = h a := fun a h1 h2 h3 => (f2.1 a h1 h2).trans (fr1 a h3)
      obtain ⟨g, m', e, p1, p2, p3, p4, p5, pb, p6, p7, p8, p9⟩ := ih (m + 1) k (n + 1) g2 (by omega) (by omega) (by omega) (by omega) (by omega) (S1.c (h := mm_up h n (.inl (.int, 64, .inl (fun _ => 0)))) ((fr2 s (by
        obtain ⟨-, -, -, ⟨o1, o2, o3⟩ | ⟨o1, o2, o3, o4, o5, w, o6⟩⟩ := S
        · omega
        · intro z
          rw [z, cs_48 c] at o6
          cases o6) (by
        obtain ⟨-, -, -, ⟨o1, o2, o3⟩ | ⟨o1, o2, o3, o4, o5, w, o6⟩⟩ := S
        · omega
        · intro z
          rw [z, cs_155 c] at o6
          cases o6) (by omega)).trans (mm_up_n (by omega)).symm) ((fr2 vs (by
        obtain ⟨-, -, ⟨f, o6, -⟩, -⟩ := S
        intro z
        rw [z, cs_48 c] at o6
        cases o6) (by
        obtain ⟨-, -, ⟨f, o6, -⟩, -⟩ := S
        intro z
        rw [z, cs_155 c] at o6
        cases o6) (by omega)).trans (mm_up_n (by omega)).symm) (Nat.le_refl _) (by omega)) c2 (by rw [u2, show 20 * (m + 1) = 20 * m + 20 by omega]) (fun i hi => by
        rw [a2]
        by_cases z : 20 * m ≤ i ∧ i < 20 * m + 20
        · rw [if_pos z, show 20 * m + (i - 20 * m) = i by omega]
        · rw [if_neg z, iA_c (fr1 155 (by omega)), ta i (by omega)]) (fun i => by
        rw [a2]
        by_cases z : 20 * m ≤ i ∧ i < 20 * m + 20
        · rw [if_pos z, JP_and _ (getD_b S.1 _)]
        · rw [if_neg z, iA_c (fr1 155 (by omega))]
          exact tb i)
      refine ⟨g, m', ?_, by omega, by omega, p3, p4, p5, pb, fun a h1 h2 h3 => (p6 a h1 h2 (by omega)).trans (fr2 a h1 h2 (by omega)), p7.trans (f2.2.1.trans (fI_c (fr1 48 (by omega)) 7)), p8.trans (f2.2.2.1.trans (fR_c (fr1 48 (by omega)) 8)), p9.trans (f2.2.2.2.trans (fI_c (fr1 48 (by omega)) 10))⟩
      rw [e1', Option.bind_some]
      show ((ldI g1 (n + 1) n (ni 0)).bind _) = _
      rw [l0, Option.bind_some]
      show ((ldI g1 (n + 1) n (ni 1)).bind _) = _
      rw [l1, Option.bind_some]
      show ((ldI g1 (n + 1) n (ni 2)).bind _) = _
      rw [l2, Option.bind_some]
      show ((ldI g1 (n + 1) n (ni 3)).bind _) = _
      rw [l3, Option.bind_some]
      show ((ldI g1 (n + 1) n (ni 4)).bind _) = _
      rw [l4, Option.bind_some, Option.bind_some, gq_48 c1 (by omega), Option.bind_some, e2, Option.bind_some]
      rw [show ni (20 * m) + 20 = ni (20 * (m + 1)) by rw [show (20 : Int32) = ni 20 from rfl, ni_add, show 20 * (m + 1) = 20 * m + 20 by omega]]
      exact e
end PUTS

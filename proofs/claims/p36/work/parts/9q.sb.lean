/-! ===== a StringBuilder and its text ===== -/
section SBS
variable {K n : Nat} {h g : mm_H}
def T7 (T : List Nat) : Prop := ∀ t, t ∈ T → t < 128
theorem T7.at_ {T : List Nat} (q : T7 T) (i : Nat) : T.getD i 0 < 128 := by
  rw [List.getD_eq_getElem?_getD]
  cases e : T[i]? with
  | none => exact Nat.lt_of_sub_eq_succ rfl
  | some t => exact q t (List.mem_of_getElem? e)
theorem T7.app {T S : List Nat} (q : T7 T) (r : T7 S) : T7 (T ++ S) := fun t ht => (List.mem_append.mp ht).elim (q t) (r t)
theorem nar7 : ∀ t : Nat, t < 128 → vp_nar .byte (ni t) = ni t := by decide +kernel
theorem fit7 : ∀ t : Nat, t < 128 → fits .byte (.int (ni t)) = true := by decide +kernel
/-- bytes of a text in an array of bytes, with noughts behind -/
def BYr (h : mm_H) (v N : Nat) (T : List Nat) : Prop := ∃ f, h v = .inl (.byte, N, .inl f) ∧ ∀ i, i < N → f i = ni (T.getD i 0)
def capB (N : Nat) : Prop := N = 16 ∨ N = 34 ∨ N = 70 ∨ N = 142 ∨ N = 286
def SBc (h : mm_H) (n a v : Nat) (T : List Nat) (N : Nat) (m : Int32) : Prop := 48 ≤ a ∧ a < n ∧ 48 ≤ v ∧ v < n ∧ v ≠ a ∧ n < 1000000 ∧ T7 T ∧ h a = .inr (11, [.ref v, .int 0, .int m, .int (ni T.length)]) ∧ BYr h v N T ∧ T.length ≤ N ∧ capB N
/-- a StringBuilder: its cell, its bytes -/
def SBr (h : mm_H) (n a v : Nat) (T : List Nat) : Prop := ∃ N m, SBc h n a v T N m
theorem SBr.c {a v : Nat} {T : List Nat} {m : Nat} (s : SBr h n a v T) (e1 : g a = h a) (e2 : g v = h v) (hm : n ≤ m) (hm9 : m < 1000000) : SBr g m a v T := by
  obtain ⟨N, mm, s1, s2, s3, s4, s5, s6, s7, s8, ⟨f, s9, sA⟩, sB, sC⟩ := s
  exact ⟨N, mm, s1, by omega, s3, by omega, s5, hm9, s7, e1.trans s8, ⟨f, e2.trans s9, sA⟩, sB, sC⟩
theorem wrF_p {a ci k : Nat} {fs : List Value} {v : Value} (ha : 48 ≤ a ∧ a < n) (e : h a = .inr (ci, fs)) (hk : k < fs.length) : wrF h n a ci k v = some (mm_sf h a k v) ∧ mm_sf h a k v a = .inr (ci, fs.set k v) := by
  refine ⟨?_, ?_⟩
  · unfold wrF
    rw [if_pos ha, e]
    show (if ci = ci ∧ k < fs.length then some _ else none) = _
    rw [if_pos ⟨rfl, hk⟩]
  · rw [← mm_sf_eq e]
    exact mm_up_s
theorem lenB_o {v N : Nat} {f : Nat → Int32} (hv : 48 ≤ v ∧ v < n) (e : h v = .inl (.byte, N, .inl f)) : lenA h n v 2 = some (ni N) := by
  unfold lenA
  rw [if_pos hv, e]
  rfl
theorem sh0 (x : Int32) : x >>> (0 &&& 31) = x ∧ x <<< (0 &&& 31) = x := by
  constructor
  · refine Int32.toBitVec_inj.mp ?_
    show x.toBitVec.sshiftRight' ((0 &&& 31 : Int32).toBitVec.smod 32) = x.toBitVec
    rw [show ((0 &&& 31 : Int32).toBitVec.smod 32) = 0#32 by decide]
    simp
  · refine Int32.toBitVec_inj.mp ?_
    show x.toBitVec <<< ((0 &&& 31 : Int32).toBitVec.smod 32) = x.toBitVec
    rw [show ((0 &&& 31 : Int32).toBitVec.smod 32) = 0#32 by decide]
    simp
theorem nsub_i {a b : Nat} (ha : a < 1000000000) (hb : b < 1000000000) : (ni a - ni b).toInt = (a : Int) - b := by
  rw [Int32.toInt_sub, ni_int (by omega), ni_int (by omega)]
  exact Int.bmod_eq_of_le (by omega) (by omega)
theorem nsub_le {a b : Nat} (ha : a < 1000000000) (hb : b < 1000000000) : (ni a - ni b ≤ 0) ↔ a ≤ b := by
  rw [Int32.le_iff_toInt_le, nsub_i ha hb]
  show (a : Int) - b ≤ 0 ↔ _
  omega
theorem imax_n {a b : Nat} (ha : a < 1000000000) (hb : b < 1000000000) : i_max (ni a) (ni b) = ni (max a b) := by
  unfold i_max
  by_cases q : a < b
  · rw [if_pos ((ni_lt (by omega) (by omega)).mpr q), Nat.max_eq_right (by omega)]
  · rw [if_neg (fun z => q ((ni_lt (by omega) (by omega)).mp z)), Nat.max_eq_left (by omega)]
theorem imin_n {a b : Nat} (ha : a < 1000000000) (hb : b < 1000000000) : i_min (ni a) (ni b) = ni (min a b) := by
  unfold i_min
  by_cases q : b < a
  · rw [if_pos ((ni_lt (by omega) (by omega)).mpr q), Nat.min_eq_right (by omega)]
  · rw [if_neg (fun z => q ((ni_lt (by omega) (by omega)).mp z)), Nat.min_eq_left (by omega)]
theorem newB {N : Nat} (hN : N ≤ 300) (hn : n < 1000000) : newI h n .byte 300 (ni N) = some (mm_up h n (.inl (.byte, N, .inl (fun _ => 0)))) := by
  unfold newI
  rw [if_pos ⟨ni_pos (by omega), by rw [ni_tn (by omega)]; exact hN, hn⟩, ni_tn (by omega)]
theorem cpB_o {a b N M z dp : Nat} {f f' : Nat → Int32} (ha : 1000000 ≤ a ∨ (48 ≤ a ∧ a < n)) (hb : 48 ≤ b ∧ b < n) (e1 : h a = .inl (.byte, N, .inl f)) (e2 : h b = .inl (.byte, M, .inl f')) (h1 : z ≤ N) (h2 : dp + z ≤ M) (hz : z < 1000000) (hd : dp < 1000000) (hf : ∀ i, i < z → ∃ t, t < 128 ∧ f i = ni t) : cpB h n a 0 b (ni dp) (ni z) = some (mm_up h b (.inl (.byte, M, .inl (va_cpy f f' 0 dp z)))) := by
  unfold cpB
  rw [e1, e2]
  show (if _ then _ else none) = _
  rw [show (0 : Int32).toNatClampNeg = 0 from rfl, ni_tn (show z < 2147483648 by omega), ni_tn (show dp < 2147483648 by omega)]
  rw [if_pos]
  refine ⟨ha, hb, by decide, ni_pos (by omega), ni_pos (by omega), by omega, h2, fun i hi => ?_⟩
  obtain ⟨t, ht, e⟩ := hf i hi
  rw [Nat.zero_add, e]
  exact fit7 t ht
/-- room for some letters more -/
theorem sb_ens {a v : Nat} {T : List Nat} (s : SBr h n a v T) (hn9 : n + 1 < 1000000) {k : Nat} (hk : k ≤ 18) (hT : T.length + k ≤ 286) : ∃ g m v' N mm, q_J5_ensureCapacityInternal_d00df K h n a (ni (T.length + k)) = some (g, m) ∧ n ≤ m ∧ m ≤ n + 1 ∧ SBc g m a v' T N mm ∧ T.length + k ≤ N ∧ (v' = v ∨ n ≤ v') ∧ ∀ b, b ≠ a → b ≠ n → g b = h b := by
  obtain ⟨N, mm, s1, s2, s3, s4, s5, s6, s7, s8, ⟨f, s9, sA⟩, sB, sC⟩ := s
  have ra : rdR h n a 11 0 = some (some v) := rdR_o ⟨s1, s2⟩ s8 rfl
  have rc : rdI h n a 11 1 = some 0 := rdI_o ⟨s1, s2⟩ s8 rfl
  have lv := lenB_o ⟨s3, s4⟩ s9
  have hN : N ≤ 286 := by unfold capB at sC; omega
  unfold q_J5_ensureCapacityInternal_d00df
  rw [ra, Option.bind_some, Option.bind_some, lv, Option.bind_some, rc, Option.bind_some, (sh0 _).1]
  by_cases q : T.length + k ≤ N
  · rw [if_pos ((nsub_le (by omega) (by omega)).mpr q)]
    exact ⟨h, n, v, N, mm, rfl, by omega, by omega, ⟨s1, s2, s3, s4, s5, s6, s7, s8, ⟨f, s9, sA⟩, sB, sC⟩, q, Or.inl rfl, fun _ _ _ => rfl⟩
  · rw [if_neg (fun z => q ((nsub_le (by omega) (by omega)).mp z)), Option.bind_some, ckq_o ⟨s1, s2⟩ s8, Option.bind_some]
    have hN3 : 2 * N + 2 ≤ 286 := by unfold capB at sC; omega
    have hN2 : 16 ≤ N := by unfold capB at sC; omega
    have hc2 : capB (2 * N + 2) := by unfold capB at sC ⊢; omega
    have nc : q_J5_newCapacity_0f7a4 K h n a (ni (T.length + k)) = some (ni (2 * N + 2)) := by
      unfold q_J5_newCapacity_0f7a4
      rw [ra, Option.bind_some, Option.bind_some, lv, Option.bind_some, rc, Option.bind_some, Option.bind_some, (sh0 _).2, (sh0 _).2]
      unfold q_J8_newLength_cabcc
      rw [nb_sub (by omega), show ni N + 2 = ni (N + 2) from ni_add N 2, imax_n (by omega) (by omega), ni_add, Nat.max_eq_right (by omega), show N + (N + 2) = 2 * N + 2 by omega]
      rw [if_neg (fun z => by have := (ni_le (b := 0) (by omega) (by omega)).mp z; omega), if_neg (fun z => by have := (ni_lt (a := 2147483639) (by omega) (by omega)).mp z; omega), Option.bind_some]
      rw [if_neg (fun z => by have := (ni_inj (b := 2147483647) (by omega) (by omega)).mp z; omega), Option.bind_some, (sh0 _).1]
    rw [nc, Option.bind_some, Option.bind_some, (sh0 _).2]
    have e9 : mm_up h n (.inl (.byte, 2 * N + 2, .inl (fun _ => 0))) v = .inl (.byte, N, .inl f) := (mm_up_n (by omega)).trans s9
    have cp : q_J7_copyOf_9075b K h n (some v) (ni (2 * N + 2)) = some (some n, mm_up (mm_up h n (.inl (.byte, 2 * N + 2, .inl (fun _ => 0)))) n (.inl (.byte, 2 * N + 2, .inl (va_cpy f (fun _ => 0) 0 0 N))), n + 1) := by
      unfold q_J7_copyOf_9075b
      rw [Option.bind_some, lv, Option.bind_some, if_neg (fun z => by have := (ni_inj (by omega) (by omega)).mp z; omega), newB (by omega) (by omega), Option.bind_some, lenB_o ⟨s3, by omega⟩ e9, Option.bind_some, imin_n (by omega) (by omega), Nat.min_eq_left (by omega)]
      have := cpB_o (h := mm_up h n (.inl (.byte, 2 * N + 2, .inl (fun _ => 0)))) (n := n + 1) (a := v) (b := n) (z := N) (dp := 0) (Or.inr ⟨s3, by omega⟩) ⟨by omega, by omega⟩ e9 mm_up_s (Nat.le_refl N) (by omega) (by omega) (by omega) (fun i hi => ⟨T.getD i 0, s7.at_ i, sA i hi⟩)
      show (cpB _ _ _ 0 _ (ni 0) _).bind _ = _
      rw [this, Option.bind_some]
    rw [cp, Option.bind_some]
    have ea : mm_up (mm_up h n (.inl (.byte, 2 * N + 2, .inl (fun _ => 0)))) n (.inl (.byte, 2 * N + 2, .inl (va_cpy f (fun _ => 0) 0 0 N))) a = .inr (11, [.ref v, .int 0, .int mm, .int (ni T.length)]) := by
      rw [mm_up_n (by omega), mm_up_n (by omega)]
      exact s8
    obtain ⟨w1, w2⟩ := wrF_p (n := n + 1) (k := 0) (v := va_rf (some n)) ⟨s1, by omega⟩ ea (Nat.le_of_ble_eq_true rfl)
    refine ⟨_, n + 1, n, 2 * N + 2, mm, bindS w1 rfl, by omega, by omega, ⟨s1, by omega, by omega, by omega, by omega, hn9, s7, w2, ⟨va_cpy f (fun _ => 0) 0 0 N, ?_, fun i hi => ?_⟩, by omega, hc2⟩, by unfold capB at hc2 sC; omega, Or.inr (Nat.le_refl n), fun b h1 h2 => ?_⟩
    · rw [mm_sf_n (by omega)]
      exact mm_up_s
    · by_cases z : i < N
      · rw [pk_cpy_in (by omega) (by omega), show 0 + (i - 0) = i by omega]
        exact sA i z
      · rw [pk_cpy_out (by omega), List.getD_eq_getElem?_getD, List.getElem?_eq_none (by omega)]
        rfl
    · rw [mm_sf_n h1, mm_up_n h2, mm_up_n h2]
/-- a text that lies there: one of the law's own, or one made -/
def STr (h : mm_H) (n s vs : Nat) (S : List Nat) : Prop := T7 S ∧ S.length ≤ 300 ∧ BYr h vs S.length S ∧ ((1000000 ≤ s ∧ s < 1000019 ∧ vs = s + 100) ∨ (48 ≤ s ∧ s < n ∧ 48 ≤ vs ∧ vs < n ∧ n ≤ 1000000 ∧ ∃ w, h s = .inr (10, .ref vs :: .int 0 :: w)))
theorem STr.ok {s vs : Nat} {S : List Nat} (t : STr h n s vs S) : strV h n s = some vs ∧ strC h n s = some 0 ∧ ckS h n s = some () ∧ lenA h n vs 2 = some (ni S.length) := by
  obtain ⟨t1, t2, ⟨f, t3, t3'⟩, ⟨t4, t5, rfl⟩ | ⟨t4, t5, t6, t7, t9, w, t8⟩⟩ := t
  · refine ⟨?_, ?_, ?_, ?_⟩
    · unfold strV; rw [if_neg (by omega), if_pos ⟨t4, t5⟩]
    · unfold strC; rw [if_neg (by omega), if_pos ⟨t4, t5⟩]
    · unfold ckS; rw [if_neg (by omega), if_pos ⟨t4, t5⟩]
    · unfold lenA
      by_cases q : 48 ≤ s + 100 ∧ s + 100 < n
      · rw [if_pos q, t3]; rfl
      · rw [if_neg q, if_pos (by omega), t3]
  · refine ⟨?_, ?_, ?_, lenB_o ⟨t6, t7⟩ t3⟩
    · unfold strV; rw [if_neg (by omega), if_neg (by omega), if_pos ⟨t4, t5⟩, t8]; rfl
    · unfold strC; rw [if_neg (by omega), if_neg (by omega), if_pos ⟨t4, t5⟩, t8]; rfl
    · unfold ckS; rw [if_neg (by omega), if_neg (by omega), if_pos ⟨t4, t5⟩, t8]; rfl
theorem STr.c {s vs m : Nat} {S : List Nat} (t : STr h n s vs S) (e1 : g s = h s) (e2 : g vs = h vs) (hm : n ≤ m) (hm9 : m ≤ 1000000) : STr g m s vs S := by
  obtain ⟨t1, t2, ⟨f, t3, t3'⟩, t4⟩ := t
  refine ⟨t1, t2, ⟨f, e2.trans t3, t3'⟩, t4.imp id (fun ⟨a1, a2, a3, a4, a5, w, a6⟩ => ⟨a1, by omega, a3, by omega, hm9, w, e1.trans a6⟩)⟩
theorem STr.len {s vs : Nat} {S : List Nat} (t : STr h n s vs S) : q_J0_coder_7d493 K h n s = some 0 ∧ q_J0_length_8abf5 K h n s = some (ni S.length) := by
  obtain ⟨t1, t2, t3, t4⟩ := t.ok
  have c : q_J0_coder_7d493 K h n s = some 0 := by
    unfold q_J0_coder_7d493
    rw [t2]
    rfl
  refine ⟨c, ?_⟩
  unfold q_J0_length_8abf5
  rw [t1, Option.bind_some, t4, Option.bind_some, t3, Option.bind_some, c, Option.bind_some, (sh0 _).1]
theorem getD_app {T S : List Nat} (i : Nat) : (T ++ S).getD i 0 = if i < T.length then T.getD i 0 else S.getD (i - T.length) 0 := by
  rw [List.getD_eq_getElem?_getD, List.getD_eq_getElem?_getD, List.getD_eq_getElem?_getD]
  by_cases q : i < T.length
  · rw [if_pos q, List.getElem?_append_left q]
  · rw [if_neg q, List.getElem?_append_right (by omega)]
/-- a text put behind -/
theorem sb_str {a v s vs : Nat} {T S : List Nat} (b : SBr h n a v T) (hn9 : n + 1 < 1000000) (t : STr h n s vs S) (d1 : s ≠ a) (d2 : s ≠ v) (d3 : vs ≠ a) (d4 : vs ≠ v) (hS : S.length ≤ 18) (hT : T.length + S.length ≤ 286) : ∃ g m v', q_J4_append_15ec4 K h n a (some s) = some (some a, g, m) ∧ n ≤ m ∧ m ≤ n + 1 ∧ SBr g m a v' (T ++ S) ∧ (v' = v ∨ n ≤ v') ∧ ∀ b, b ≠ a → b ≠ v → b ≠ n → g b = h b := by
  obtain ⟨N0, m0, z1, z2, z3, z4, z5, z6, z7, z8, -⟩ := id b
  obtain ⟨h1, n1, v1, N, mm, e1, l1, l2, ⟨s1, s2, s3, s4, s5, s6, s7, s8, ⟨f, s9, sA⟩, sB, sC⟩, hN, hv, fr⟩ := sb_ens (K := K) b hn9 hS hT
  have e1' : q_J5_ensureCapacityInternal_d00df K h n a (ni T.length + ni S.length) = some (h1, n1) := by rw [ni_add]; exact e1
  have hN3 : N ≤ 286 := by unfold capB at sC; omega
  obtain ⟨t1, t2, t3, t4⟩ := t.ok
  have dn : s ≠ n ∧ vs ≠ n := by
    obtain ⟨-, -, -, ⟨p1, p2, p3⟩ | ⟨p1, p2, p3, p4, -⟩⟩ := t
    · omega
    · omega
  have tt := t.c (g := h1) (m := n1) (fr s d1 dn.1) (fr vs d3 dn.2) l1 (by omega)
  obtain ⟨u1, u2, u3, u4⟩ := tt.ok
  obtain ⟨uc, ul⟩ := tt.len (K := K)
  obtain ⟨tc, tl⟩ := t.len (K := K)
  have ck := ckq_o (n := n) ⟨z1, z2⟩ z8
  have ck1 := ckq_o (n := n1) ⟨s1, s2⟩ s8
  have ra : rdR h1 n1 a 11 0 = some (some v1) := rdR_o ⟨s1, s2⟩ s8 rfl
  have rc : rdI h1 n1 a 11 1 = some 0 := rdI_o ⟨s1, s2⟩ s8 rfl
  have rl : rdI h1 n1 a 11 3 = some (ni T.length) := rdI_o ⟨s1, s2⟩ s8 rfl
  have rl0 : rdI h n a 11 3 = some (ni T.length) := rdI_o ⟨z1, z2⟩ z8 rfl
  obtain ⟨-, -, ⟨fs, ts, ts'⟩, tw⟩ := id tt
  have dv : vs ≠ v1 := by
    rcases hv with rfl | q
    · exact d4
    · obtain ⟨-, -, -, ⟨p1, p2, p3⟩ | ⟨p1, p2, p3, p4, -⟩⟩ := t
      · omega
      · omega
  have cp := cpB_o (h := h1) (n := n1) (a := vs) (b := v1) (z := S.length) (dp := T.length) (by rcases tw with ⟨p1, p2, p3⟩ | ⟨p1, p2, p3, p4, -⟩ <;> omega) ⟨s3, s4⟩ ts s9 (Nat.le_refl _) hN (by omega) (by omega) (fun i hi => ⟨S.getD i 0, t.1.at_ i, ts' i hi⟩)
  have pu : q_J5_putStringAt_47b60 K h1 n1 a (ni T.length) (some s) = some (mm_up h1 v1 (.inl (.byte, N, .inl (va_cpy fs f 0 T.length S.length)))) := by
    unfold q_J5_putStringAt_47b60 q_J5_inflateIfNeededFor_a7421
    rw [ck1, Option.bind_some, rc, Option.bind_some, Option.bind_some, u3, Option.bind_some, uc, Option.bind_some, if_pos rfl, Option.bind_some, ra, Option.bind_some, Option.bind_some, Option.bind_some, u3, Option.bind_some]
    unfold q_J0_getBytes_840e7
    rw [u3, Option.bind_some, uc, Option.bind_some, if_pos rfl, u1, Option.bind_some, Option.bind_some, u4, Option.bind_some, Option.bind_some, (sh0 _).2, cp, Option.bind_some, Option.bind_some]
  have ea : mm_up h1 v1 (.inl (.byte, N, .inl (va_cpy fs f 0 T.length S.length))) a = .inr (11, [.ref v1, .int 0, .int mm, .int (ni T.length)]) := (mm_up_n (by omega)).trans s8
  have rl2 : rdI (mm_up h1 v1 (.inl (.byte, N, .inl (va_cpy fs f 0 T.length S.length)))) n1 a 11 3 = some (ni T.length) := rdI_o ⟨s1, s2⟩ ea rfl
  obtain ⟨w1, w2⟩ := wrF_p (n := n1) (k := 3) (v := .int (ni T.length + ni S.length)) ⟨s1, s2⟩ ea (Nat.le_of_ble_eq_true rfl)
  refine ⟨mm_sf (mm_up h1 v1 (.inl (.byte, N, .inl (va_cpy fs f 0 T.length S.length)))) a 3 (.int (ni T.length + ni S.length)), n1, v1, ?_, l1, l2, ⟨N, mm, s1, s2, s3, s4, s5, s6, s7.app t.1, ?_, ⟨va_cpy fs f 0 T.length S.length, ?_, fun i hi => ?_⟩, by rw [List.length_append]; exact hN, sC⟩, hv, fun b h1 h2 h3 => ?_⟩
  · unfold q_J4_append_15ec4 q_J5_append_cf1ce
    rw [ck, Option.bind_some]
    show ((ckS h n s).bind _).bind _ = _
    rw [t3, Option.bind_some, tl, Option.bind_some, rl0, Option.bind_some, Option.bind_some, e1', Option.bind_some]
    show ((rdI h1 n1 a 11 3).bind _).bind _ = _
    rw [rl, Option.bind_some, ck1, Option.bind_some, pu, Option.bind_some, rl2, Option.bind_some, w1]
    rfl
  · rw [w2, List.length_append, ← ni_add]
    rfl
  · rw [mm_sf_n (by omega)]
    exact mm_up_s
  · rw [getD_app]
    by_cases q : i < T.length
    · rw [if_pos q, pk_cpy_out (by omega)]
      exact sA i hi
    · rw [if_neg q]
      by_cases r : i < T.length + S.length
      · rw [pk_cpy_in (by omega) r, Nat.zero_add]
        exact ts' _ (by omega)
      · rw [pk_cpy_out (by omega), sA i hi, List.getD_eq_getElem?_getD, List.getD_eq_getElem?_getD, List.getElem?_eq_none (by omega), List.getElem?_eq_none (by omega)]
  · rw [mm_sf_n h1, mm_up_n, fr b h1 h3]
    rcases hv with rfl | q
    · exact h2
    · omega
/-- a number's digits -/
def dg (v : Nat) : List Nat := if v < 10 then [48 + v] else if v < 100 then [48 + v / 10, 48 + v % 10] else [48 + v / 100, 48 + v / 10 % 10, 48 + v % 10]
theorem dg_7 {v : Nat} (hv : v < 1000) : T7 (dg v) := by
  intro t ht
  unfold dg at ht
  split at ht
  · rcases List.mem_singleton.mp ht with rfl
    omega
  · split at ht
    · simp at ht
      omega
    · simp at ht
      omega
theorem dg_len {v : Nat} : 1 ≤ (dg v).length ∧ (dg v).length ≤ 3 := by
  unfold dg
  split
  · exact ⟨Nat.le_of_ble_eq_true rfl, Nat.le_of_ble_eq_true rfl⟩
  · split
    · exact ⟨Nat.le_of_ble_eq_true rfl, Nat.le_of_ble_eq_true rfl⟩
    · exact ⟨Nat.le_of_ble_eq_true rfl, Nat.le_of_ble_eq_true rfl⟩
theorem dg_i1 : ∀ v : Nat, v < 600 → ((-10 : Int32) < -ni v ↔ v < 10) ∧ ((-100 : Int32) < -ni v ↔ v < 100) ∧ ((-1000 : Int32) < -ni v) ∧ (0 ≤ ni v) ∧ ((-9 : Int32) ≤ -ni v ↔ v < 10) ∧ - -ni v = ni v := by decide +kernel
theorem dg_i2 : ∀ v : Nat, v < 600 → (-ni v / 100 * 100 - -ni v = ni (v % 100)) ∧ (-ni v / 100 = -ni (v / 100)) := by decide +kernel
/-- how many letters a number takes -/
theorem sz_eq (hK : 3000 ≤ K) {v : Nat} (hv : v < 600) : q_J6_stringSize_0f7a4 K h n (ni v) = some (ni (dg v).length) := by
  obtain ⟨i1, i2, i3, i4, i5, -⟩ := dg_i1 v hv
  obtain ⟨k, rfl⟩ : ∃ k, K = k + 1 + 1 + 1 := ⟨K - 3, by omega⟩
  unfold q_J6_stringSize_0f7a4
  rw [if_neg (Int32.not_lt.mpr i4)]
  unfold dg
  by_cases q : v < 10
  · have e : lp_J6_stringSize_0f7a4_16 (k + 1 + 1 + 1) h n (-ni v) 0 (k + 1 + 1 + 1) (-10) 1 = some (0, 1) := by
      unfold lp_J6_stringSize_0f7a4_16
      rw [if_neg (by decide), if_neg (Int32.not_le.mpr (i1.mpr q))]
    rw [e, if_pos q]
    rfl
  · rw [if_neg q]
    by_cases r : v < 100
    · have e : lp_J6_stringSize_0f7a4_16 (k + 1 + 1 + 1) h n (-ni v) 0 (k + 1 + 1 + 1) (-10) 1 = some (0, 2) := by
        unfold lp_J6_stringSize_0f7a4_16
        rw [if_neg (by decide), if_pos (Int32.not_lt.mp (fun z => q (i1.mp z)))]
        unfold lp_J6_stringSize_0f7a4_16
        rw [if_neg (by decide), show (10 : Int32) * -10 = -100 from rfl, if_neg (Int32.not_le.mpr (i2.mpr r))]
        rfl
      rw [e, if_pos r]
      rfl
    · have e : lp_J6_stringSize_0f7a4_16 (k + 1 + 1 + 1) h n (-ni v) 0 (k + 1 + 1 + 1) (-10) 1 = some (0, 3) := by
        unfold lp_J6_stringSize_0f7a4_16
        rw [if_neg (by decide), if_pos (Int32.not_lt.mp (fun z => q (i1.mp z)))]
        unfold lp_J6_stringSize_0f7a4_16
        rw [if_neg (by decide), show (10 : Int32) * -10 = -100 from rfl, if_pos (Int32.not_lt.mp (fun z => r (i2.mp z)))]
        unfold lp_J6_stringSize_0f7a4_16
        rw [if_neg (by decide), show (10 : Int32) * -100 = -1000 from rfl, if_neg (Int32.not_le.mpr i3)]
        rfl
      rw [e, if_neg r]
      rfl
/-- the tables of digits -/
def DT (h : mm_H) : Prop := h 1000200 = .inl (.byte, 100, .inl dgO) ∧ h 1000201 = .inl (.byte, 100, .inl dgT)
theorem DT.at_ (d : DT h) {j : Nat} (hj : j < 100) : ldO h 1000200 (ni j) = some (ni (48 + j % 10)) ∧ ldO h 1000201 (ni j) = some (ni (48 + j / 10)) := by
  constructor
  · unfold ldO
    rw [if_pos (by decide), d.1]
    show (if inb (ni j) 100 = true then some (dgO (ni j).toNatClampNeg) else none) = _
    rw [if_pos (ni_inb (by omega) hj), ni_tn (by omega)]
    rfl
  · unfold ldO
    rw [if_pos (by decide), d.2]
    show (if inb (ni j) 100 = true then some (dgT (ni j).toNatClampNeg) else none) = _
    rw [if_pos (ni_inb (by omega) hj), ni_tn (by omega)]
    rfl
theorem DT.c (d : DT h) (e : ∀ a, 1000000 ≤ a → g a = h a) : DT g := ⟨(e _ (by decide)).trans d.1, (e _ (by decide)).trans d.2⟩
theorem stB_ex {v N i t : Nat} {f : Nat → Int32} (hv : 48 ≤ v ∧ v < n) (e : h v = .inl (.byte, N, .inl f)) (hi : i < N) (hi2 : i < 2147483648) (ht : t < 128) : ∃ g, stB h n v (ni i) (ni t) = some g ∧ g v = .inl (.byte, N, .inl (upd f i (ni t))) ∧ ∀ b, b ≠ v → g b = h b := by
  refine ⟨mm_si h v i (ni t), ?_, ?_, fun b hb => mm_si_n hb⟩
  · unfold stB
    rw [if_pos hv, e]
    show (if inb (ni i) N = true then some (mm_si h v (ni i).toNatClampNeg (vp_nar .byte (ni t))) else none) = _
    rw [if_pos (ni_inb hi2 hi), ni_tn hi2, nar7 t ht]
  · rw [← mm_si_eq e]
    exact mm_up_s
theorem ni_mi (k : Nat) : ni (k + 1) + (-1) = ni k := by
  rw [← ni_sub1 k, Int32.sub_eq_add_neg]
/-- a number's digits are written -/
theorem gc_eq (hK : 3000 ≤ K) {x v N L : Nat} {f : Nat → Int32} (hx : x < 600) (d : DT h) (hv : 48 ≤ v ∧ v < n) (hn9 : n ≤ 1000000) (e : h v = .inl (.byte, N, .inl f)) (hL : L + (dg x).length ≤ N) (hL3 : L < 1000) : ∃ r g f', q_J6_getChars_ba4f3 K h n (ni x) (ni (L + (dg x).length)) (some v) = some (r, g) ∧ g v = .inl (.byte, N, .inl f') ∧ (∀ i, f' i = if L ≤ i ∧ i < L + (dg x).length then ni ((dg x).getD (i - L) 0) else f i) ∧ ∀ b, b ≠ v → g b = h b := by
  obtain ⟨i1, i2, i3, i4, i5, i6⟩ := dg_i1 x hx
  obtain ⟨k, rfl⟩ : ∃ k, K = k + 1 + 1 + 1 := ⟨K - 3, by omega⟩
  unfold q_J6_getChars_ba4f3
  rw [if_pos i4]
  by_cases q : x < 100
  · have lp : ∀ l5, lp_J6_getChars_ba4f3_22 (k + 1 + 1 + 1) n (some v) 0 (k + 1 + 1 + 1) (-ni x) l5 h = some (-ni x, l5, h) := fun l5 => by
      unfold lp_J6_getChars_ba4f3_22
      rw [if_pos (i2.mpr q)]
    rw [lp, Option.bind_some]
    by_cases r : x < 10
    · have dx : dg x = [48 + x] := if_pos r
      rw [dx] at hL ⊢
      have hL' : L + 1 ≤ N := hL
      obtain ⟨g, e1, e2, e3⟩ := stB_ex (n := n) (i := L) (t := 48 + x % 10) hv e (by omega) (by omega) (by omega)
      refine ⟨ni L, g, _, ?_, e2, fun i => ?_, e3⟩
      · show (ldO h 1000200 (- -ni x)).bind _ = _
        rw [i6, (d.at_ (j := x) (by omega)).1, Option.bind_some, Option.bind_some]
        show (stB h n v (ni (L + 1) + (-1)) (ni (48 + x % 10))).bind _ = _
        rw [ni_mi, e1, Option.bind_some]
        show (if (-9 : Int32) ≤ -ni x then some (ni (L + 1) + (-1), g) else _) = _
        rw [if_pos (i5.mpr r), ni_mi]
      · show upd f L (ni (48 + x % 10)) i = if L ≤ i ∧ i < L + 1 then ni (([48 + x] : List Nat).getD (i - L) 0) else f i
        by_cases z : i = L
        · subst z
          rw [upd_s, if_pos (by omega), Nat.sub_self, Nat.mod_eq_of_lt r]
          rfl
        · rw [upd_n z, if_neg (by omega)]
    · have dx : dg x = [48 + x / 10, 48 + x % 10] := by unfold dg; rw [if_neg r, if_pos q]
      rw [dx] at hL ⊢
      have hL' : L + 2 ≤ N := hL
      obtain ⟨g, e1, e2, e3⟩ := stB_ex (n := n) (i := L + 1) (t := 48 + x % 10) hv e (by omega) (by omega) (by omega)
      obtain ⟨g', e1', e2', e3'⟩ := stB_ex (n := n) (i := L) (t := 48 + x / 10) hv e2 (by omega) (by omega) (by omega)
      have dg' : DT g := d.c (fun a ha => e3 a (by omega))
      refine ⟨ni L, g', _, ?_, e2', fun i => ?_, fun b hb => (e3' b hb).trans (e3 b hb)⟩
      · show (ldO h 1000200 (- -ni x)).bind _ = _
        rw [i6, (d.at_ (j := x) (by omega)).1, Option.bind_some, Option.bind_some]
        show (stB h n v (ni (L + 1 + 1) + (-1)) (ni (48 + x % 10))).bind _ = _
        rw [ni_mi, e1, Option.bind_some]
        show (if (-9 : Int32) ≤ -ni x then some (ni (L + 1 + 1) + (-1), g) else (ldO g 1000201 (ni x)).bind fun v22 => (stB g n v (ni (L + 1 + 1) + (-1) + (-1)) v22).bind fun h24 => some (ni (L + 1 + 1) + (-1) + (-1), h24)) = _
        rw [if_neg (fun z => r (i5.mp z)), (dg'.at_ (j := x) (by omega)).2, Option.bind_some, ni_mi, ni_mi, e1', Option.bind_some]
      · show upd (upd f (L + 1) (ni (48 + x % 10))) L (ni (48 + x / 10)) i = if L ≤ i ∧ i < L + 2 then ni (([48 + x / 10, 48 + x % 10] : List Nat).getD (i - L) 0) else f i
        by_cases z : i = L
        · subst z
          rw [upd_s, if_pos (by omega), Nat.sub_self]
          rfl
        · rw [upd_n z]
          by_cases w : i = L + 1
          · subst w
            rw [upd_s, if_pos (by omega), show L + 1 - L = 1 by omega]
            rfl
          · rw [upd_n w, if_neg (by omega)]
  · have dx : dg x = [48 + x / 100, 48 + x / 10 % 10, 48 + x % 10] := by unfold dg; rw [if_neg (by omega), if_neg q]
    obtain ⟨j1, j2⟩ := dg_i2 x hx
    obtain ⟨u1, u2, u3, u4, u5, u6⟩ := dg_i1 (x / 100) (by omega)
    rw [dx] at hL ⊢
    have hL' : L + 3 ≤ N := hL
    obtain ⟨g, e1, e2, e3⟩ := stB_ex (n := n) (i := L + 2) (t := 48 + x % 100 % 10) hv e (by omega) (by omega) (by omega)
    obtain ⟨g', e1', e2', e3'⟩ := stB_ex (n := n) (i := L + 1) (t := 48 + x % 100 / 10) hv e2 (by omega) (by omega) (by omega)
    obtain ⟨g'', e1'', e2'', e3''⟩ := stB_ex (n := n) (i := L) (t := 48 + x / 100 % 10) hv e2' (by omega) (by omega) (by omega)
    have d1 : DT g := d.c (fun a ha => e3 a (by omega))
    have d2 : DT g' := d1.c (fun a ha => e3' a (by omega))
    have lp : lp_J6_getChars_ba4f3_22 (k + 1 + 1 + 1) n (some v) 0 (k + 1 + 1 + 1) (-ni x) (ni (L + 1 + 1 + 1)) h = some (-ni (x / 100), ni (L + 1), g') := by
      unfold lp_J6_getChars_ba4f3_22
      rw [if_neg (fun z => q (i2.mp z)), j1, (d.at_ (j := x % 100) (by omega)).1, Option.bind_some, Option.bind_some, ni_mi, show L + 1 + 1 = L + 2 from rfl, e1, Option.bind_some, (d1.at_ (j := x % 100) (by omega)).2, Option.bind_some, show ni (L + 2) + (-1) = ni (L + 1) from ni_mi _, e1', Option.bind_some, j2]
      unfold lp_J6_getChars_ba4f3_22
      rw [if_pos (u2.mpr (by omega))]
    refine ⟨ni L, g'', _, ?_, e2'', fun i => ?_, fun b hb => (e3'' b hb).trans ((e3' b hb).trans (e3 b hb))⟩
    · show (lp_J6_getChars_ba4f3_22 (k + 1 + 1 + 1) n (some v) 0 (k + 1 + 1 + 1) (-ni x) (ni (L + 1 + 1 + 1)) h).bind _ = _
      rw [lp, Option.bind_some]
      show (ldO g' 1000200 (- -ni (x / 100))).bind _ = _
      rw [u6, (d2.at_ (j := x / 100) (by omega)).1, Option.bind_some, Option.bind_some]
      show (stB g' n v (ni (L + 1) + (-1)) (ni (48 + x / 100 % 10))).bind _ = _
      rw [ni_mi, e1'', Option.bind_some]
      dsimp only
      rw [if_pos (u5.mpr (by omega))]
    · show upd (upd (upd f (L + 2) (ni (48 + x % 100 % 10))) (L + 1) (ni (48 + x % 100 / 10))) L (ni (48 + x / 100 % 10)) i = if L ≤ i ∧ i < L + 3 then ni (([48 + x / 100, 48 + x / 10 % 10, 48 + x % 10] : List Nat).getD (i - L) 0) else f i
      by_cases z : i = L
      · subst z
        rw [upd_s, if_pos (by omega), Nat.sub_self, show 48 + x / 100 % 10 = 48 + x / 100 by omega]
        rfl
      · rw [upd_n z]
        by_cases w : i = L + 1
        · subst w
          rw [upd_s, if_pos (by omega), show L + 1 - L = 1 by omega, show 48 + x % 100 / 10 = 48 + x / 10 % 10 by omega]
          rfl
        · rw [upd_n w]
          by_cases y : i = L + 2
          · subst y
            rw [upd_s, if_pos (by omega), show L + 2 - L = 2 by omega, show 48 + x % 100 % 10 = 48 + x % 10 by omega]
            rfl
          · rw [upd_n y, if_neg (by omega)]
/-- a number put behind -/
theorem sb_int (hK : 3000 ≤ K) {a v x : Nat} {T : List Nat} (b : SBr h n a v T) (hn9 : n + 1 < 1000000) (d : DT h) (hx : x < 600) (hT : T.length + 3 ≤ 286) : ∃ g m v', q_J4_append_bf812 K h n a (ni x) = some (some a, g, m) ∧ n ≤ m ∧ m ≤ n + 1 ∧ SBr g m a v' (T ++ dg x) ∧ (v' = v ∨ n ≤ v') ∧ ∀ b, b ≠ a → b ≠ v → b ≠ n → g b = h b := by
  obtain ⟨N0, m0, z1, z2, z3, z4, z5, z6, z7, z8, -⟩ := id b
  have dl := dg_len (v := x)
  obtain ⟨h1, n1, v1, N, mm, e1, l1, l2, ⟨s1, s2, s3, s4, s5, s6, s7, s8, ⟨f, s9, sA⟩, sB, sC⟩, hN, hv, fr⟩ := sb_ens (K := K) b hn9 (k := (dg x).length) (by omega) (by omega)
  have e1' : q_J5_ensureCapacityInternal_d00df K h n a (ni T.length + ni (dg x).length) = some (h1, n1) := by rw [ni_add]; exact e1
  have hN3 : N ≤ 286 := by unfold capB at sC; omega
  have ck := ckq_o (n := n) ⟨z1, z2⟩ z8
  have ck1 := ckq_o (n := n1) ⟨s1, s2⟩ s8
  have ra : rdR h1 n1 a 11 0 = some (some v1) := rdR_o ⟨s1, s2⟩ s8 rfl
  have rc : rdI h1 n1 a 11 1 = some 0 := rdI_o ⟨s1, s2⟩ s8 rfl
  have rl0 : rdI h n a 11 3 = some (ni T.length) := rdI_o ⟨z1, z2⟩ z8 rfl
  have d1 : DT h1 := d.c (fun q hq => fr q (by omega) (by omega))
  obtain ⟨r, h2, f', eg, g1, g2, g3⟩ := gc_eq (L := T.length) hK hx d1 ⟨s3, s4⟩ (by omega) s9 hN (by omega)
  have eg' : q_J6_getChars_ba4f3 K h1 n1 (ni x) (ni T.length + ni (dg x).length) (some v1) = some (r, h2) := by rw [ni_add]; exact eg
  have il : q_J5_isLatin1_aae02 K h1 n1 a = some 1 := by
    unfold q_J5_isLatin1_aae02
    rw [rc]
    rfl
  have ea : h2 a = .inr (11, [.ref v1, .int 0, .int mm, .int (ni T.length)]) := (g3 a (by omega)).trans s8
  obtain ⟨w1, w2⟩ := wrF_p (n := n1) (k := 3) (v := .int (ni T.length + ni (dg x).length)) ⟨s1, s2⟩ ea (Nat.le_of_ble_eq_true rfl)
  refine ⟨mm_sf h2 a 3 (.int (ni T.length + ni (dg x).length)), n1, v1, ?_, l1, l2, ⟨N, mm, s1, s2, s3, s4, s5, s6, s7.app (dg_7 (by omega)), ?_, ⟨f', ?_, fun i hi => ?_⟩, by rw [List.length_append]; exact hN, sC⟩, hv, fun b h1 h2 h3 => ?_⟩
  · unfold q_J4_append_bf812 q_J5_append_c97b9
    rw [ck, Option.bind_some, rl0, Option.bind_some, sz_eq hK hx, Option.bind_some, Option.bind_some, e1', Option.bind_some]
    show ((ckq h1 n1 a 11).bind _).bind _ = _
    rw [ck1, Option.bind_some, il, Option.bind_some, if_neg (by decide), ra, Option.bind_some, eg', Option.bind_some]
    show ((wrF h2 n1 a 11 3 _).bind _).bind _ = _
    rw [w1]
    rfl
  · rw [w2, List.length_append, ← ni_add]
    rfl
  · rw [mm_sf_n (by omega)]
    exact g1
  · rw [g2, getD_app]
    by_cases q : i < T.length
    · rw [if_neg (by omega), if_pos q]
      exact sA i hi
    · rw [if_neg q]
      by_cases w : i < T.length + (dg x).length
      · rw [if_pos (by omega)]
      · rw [if_neg (by omega), sA i hi, List.getD_eq_getElem?_getD, List.getD_eq_getElem?_getD, List.getElem?_eq_none (by omega), List.getElem?_eq_none (by omega)]
  · rw [mm_sf_n h1, g3 b, fr b h1 h3]
    rcases hv with rfl | q
    · exact h2
    · omega
/-- a new StringBuilder -/
theorem sb_new (hn48 : 48 ≤ n) (hn9 : n + 2 < 1000000) : ∃ h1 g, newO h n 11 [.null, .int 0, .int 0, .int 0] = some h1 ∧ q_J4_init_da8c8 K h1 (n + 1) n = some (g, n + 2) ∧ SBr g (n + 2) n (n + 1) [] ∧ ckq g (n + 2) n 11 = some () ∧ ∀ b, b ≠ n → b ≠ n + 1 → g b = h b := by
  have e0 : newO h n 11 [.null, .int 0, .int 0, .int 0] = some (mm_up h n (.inr (11, [.null, .int 0, .int 0, .int 0]))) := if_pos (by omega)
  refine ⟨_, ?g, e0, ?_⟩
  case g => exact mm_sf (mm_sf (mm_up (mm_up h n (.inr (11, [.null, .int 0, .int 0, .int 0]))) (n + 1) (.inl (.byte, 16, .inl (fun _ => 0)))) n 0 (.ref (n + 1))) n 1 (.int 0)
  have e1 : mm_up (mm_up h n (.inr (11, [.null, .int 0, .int 0, .int 0]))) (n + 1) (.inl (.byte, 16, .inl (fun _ => 0))) n = .inr (11, [.null, .int 0, .int 0, .int 0]) := (mm_up_n (by omega)).trans mm_up_s
  obtain ⟨w1, w2⟩ := wrF_p (n := n + 2) (k := 0) (v := .ref (n + 1)) ⟨hn48, by omega⟩ e1 (Nat.le_of_ble_eq_true rfl)
  obtain ⟨w3, w4⟩ := wrF_p (n := n + 2) (k := 1) (v := .int 0) ⟨hn48, by omega⟩ w2 (Nat.le_of_ble_eq_true rfl)
  refine ⟨?_, ⟨16, 0, hn48, by omega, by omega, by omega, by omega, hn9, (fun t ht => absurd ht List.not_mem_nil), w4, ⟨fun _ => 0, ?_, fun i _ => rfl⟩, Nat.zero_le _, Or.inl rfl⟩, ckq_o ⟨hn48, by omega⟩ w4, fun b h1 h2 => ?_⟩
  · unfold q_J4_init_da8c8 q_J5_init_d00df
    rw [show (16 : Int32) = ni 16 from rfl]
    have nb : newI (mm_up h n (.inr (11, [.null, .int 0, .int 0, .int 0]))) (n + 1) .byte 16 (ni 16) = some (mm_up (mm_up h n (.inr (11, [.null, .int 0, .int 0, .int 0]))) (n + 1) (.inl (.byte, 16, .inl (fun _ => 0)))) := by
      unfold newI
      rw [if_pos ⟨by decide, by decide, by omega⟩]
      rfl
    rw [nb, Option.bind_some]
    show ((wrF _ (n + 2) n 11 0 (.ref (n + 1))).bind _).bind _ = _
    rw [w1, Option.bind_some]
    show ((wrF _ (n + 2) n 11 1 (.int 0)).bind _).bind _ = _
    rw [w3]
    rfl
  · rw [mm_sf_n (by omega), mm_sf_n (by omega)]
    exact mm_up_s
  · rw [mm_sf_n h1, mm_sf_n h1, mm_up_n h2, mm_up_n h1]
/-- the text is made -/
theorem sb_tos {a v : Nat} {T : List Nat} (b : SBr h n a v T) (hn9 : n + 2 < 1000000) : ∃ g, q_J4_toString_0e30d K h n a = some (some n, g, n + 2) ∧ STr g (n + 2) n (n + 1) T ∧ ∀ b, b ≠ n → b ≠ n + 1 → g b = h b := by
  obtain ⟨N, mm, s1, s2, s3, s4, s5, s6, s7, s8, ⟨f, s9, sA⟩, sB, sC⟩ := b
  have hN3 : N ≤ 286 := by unfold capB at sC; omega
  have e0 : newO h n 10 [.null, .int 0, .int 0, .int 0] = some (mm_up h n (.inr (10, [.null, .int 0, .int 0, .int 0]))) := if_pos (by omega)
  have a1 : mm_up h n (.inr (10, [.null, .int 0, .int 0, .int 0])) a = .inr (11, [.ref v, .int 0, .int mm, .int (ni T.length)]) := (mm_up_n (by omega)).trans s8
  obtain ⟨w1, w2⟩ := wrF_p (h := mm_up h n (.inr (10, [.null, .int 0, .int 0, .int 0]))) (n := n + 1) (a := n) (k := 1) (v := .int 0) ⟨by omega, by omega⟩ mm_up_s (Nat.le_of_ble_eq_true rfl)
  have v2 : mm_sf (mm_up h n (.inr (10, [.null, .int 0, .int 0, .int 0]))) n 1 (.int 0) v = .inl (.byte, N, .inl f) := by
    rw [mm_sf_n (by omega), mm_up_n (by omega)]
    exact s9
  generalize hh2 : mm_sf (mm_up h n (.inr (10, [.null, .int 0, .int 0, .int 0]))) n 1 (.int 0) = h2 at w1 w2 v2
  have fr2 : ∀ b, b ≠ n → h2 b = h b := fun b hb => by rw [← hh2, mm_sf_n hb, mm_up_n hb]
  obtain ⟨h3, F, c1, c2, c3, c4⟩ : ∃ h3 F, q_J7_copyOfRange_39247 K h2 (n + 1) (some v) 0 (ni T.length) = some (some (n + 1), h3, n + 2) ∧ h3 (n + 1) = .inl (.byte, T.length, .inl F) ∧ (∀ i, i < T.length → F i = ni (T.getD i 0)) ∧ ∀ b, b ≠ n + 1 → h3 b = h2 b := by
    unfold q_J7_copyOfRange_39247
    rw [if_pos rfl, Option.bind_some, lenB_o ⟨s3, by omega⟩ v2, Option.bind_some]
    by_cases q : T.length = N
    · rw [if_pos (congrArg ni q)]
      refine ⟨mm_up h2 (n + 1) (.inl (.byte, N, .inl f)), f, ?_, by rw [q]; exact mm_up_s, fun i hi => sA i (by omega), fun b hb => mm_up_n hb⟩
      have cl : clB h2 (n + 1) v 300 = some (mm_up h2 (n + 1) (.inl (.byte, N, .inl f))) := by
        unfold clB
        rw [v2]
        refine if_pos ⟨⟨s3, by omega⟩, by omega, by omega, fun i hi => ?_⟩
        rw [sA i hi]
        exact fit7 _ (s7.at_ i)
      have ck : ckB (mm_up h2 (n + 1) (.inl (.byte, N, .inl f))) (n + 1 + 1) (n + 1) = some () := by
        unfold ckB
        rw [mm_up_s]
        exact if_pos ⟨by omega, by omega⟩
      rw [cl, Option.bind_some, ck, Option.bind_some]
    · rw [if_neg (fun z => q ((ni_inj (by omega) (by omega)).mp z))]
      unfold q_J7_copyOfRangeByte_39247 q_J7_checkLength_df160
      have e9 : mm_up h2 (n + 1) (.inl (.byte, T.length, .inl (fun _ => 0))) v = .inl (.byte, N, .inl f) := (mm_up_n (by omega)).trans v2
      have l0 : (0 : Int32) ≤ ni T.length := (ni_le (a := 0) (by omega) (by omega)).mpr (Nat.zero_le _)
      have z0 : ∀ k : Nat, ni k - 0 = ni k := fun k => nb_sub (a := k) (b := 0) (Nat.zero_le k)
      have cp := cpB_o (h := mm_up h2 (n + 1) (.inl (.byte, T.length, .inl (fun _ => 0)))) (n := n + 1 + 1) (a := v) (b := n + 1) (z := T.length) (dp := 0) (Or.inr ⟨s3, by omega⟩) ⟨by omega, by omega⟩ e9 mm_up_s sB (by omega) (by omega) (by omega) (fun i hi => ⟨T.getD i 0, s7.at_ i, sA i (by omega)⟩)
      refine ⟨mm_up (mm_up h2 (n + 1) (.inl (.byte, T.length, .inl (fun _ => 0)))) (n + 1) (.inl (.byte, T.length, .inl (va_cpy f (fun _ => 0) 0 0 T.length))), _, ?_, mm_up_s, fun i hi => ?_, fun b hb => by rw [mm_up_n hb, mm_up_n hb]⟩
      · rw [if_pos l0, Option.bind_some, z0, newB (by omega) (by omega), Option.bind_some, Option.bind_some, lenB_o ⟨s3, by omega⟩ e9, Option.bind_some, z0, imin_n (by omega) (by omega), Nat.min_eq_right sB]
        show ((cpB _ _ _ 0 _ (ni 0) _).bind _).bind _ = _
        rw [cp]
        rfl
      · rw [pk_cpy_in (by omega) (by omega), show 0 + (i - 0) = i by omega]
        exact sA i (by omega)
  have e3 : h3 n = .inr (10, [.null, .int 0, .int 0, .int 0]) := (c4 n (by omega)).trans w2
  obtain ⟨w5, w6⟩ := wrF_p (n := n + 2) (k := 0) (v := va_rf (some (n + 1))) ⟨by omega, by omega⟩ e3 (Nat.le_of_ble_eq_true rfl)
  refine ⟨mm_sf h3 n 0 (va_rf (some (n + 1))), ?_, ⟨s7, by omega, ⟨F, ?_, c3⟩, Or.inr ⟨by omega, by omega, by omega, by omega, by omega, [.int 0, .int 0], w6⟩⟩, fun b h1 h2 => ?_⟩
  · have b1 : mm_up h n (.inr (10, [.null, .int 0, .int 0, .int 0])) n = .inr (10, [.null, .int 0, .int 0, .int 0]) := mm_up_s
    have ck1 := ckq_o (n := n + 1) ⟨s1, by omega⟩ a1
    have r0 : rdR (mm_up h n (.inr (10, [.null, .int 0, .int 0, .int 0]))) (n + 1) a 11 0 = some (some v) := rdR_o ⟨s1, by omega⟩ a1 rfl
    have r1 : rdI (mm_up h n (.inr (10, [.null, .int 0, .int 0, .int 0]))) (n + 1) a 11 1 = some 0 := rdI_o ⟨s1, by omega⟩ a1 rfl
    have r3 : rdI (mm_up h n (.inr (10, [.null, .int 0, .int 0, .int 0]))) (n + 1) a 11 3 = some (ni T.length) := rdI_o ⟨s1, by omega⟩ a1 rfl
    have il : q_J5_isLatin1_aae02 K (mm_up h n (.inr (10, [.null, .int 0, .int 0, .int 0]))) (n + 1) a = some 1 := by
      unfold q_J5_isLatin1_aae02
      rw [r1]
      rfl
    have le : q_J4_length_8abf5 K (mm_up h n (.inr (10, [.null, .int 0, .int 0, .int 0]))) (n + 1) a = some (ni T.length) := by
      unfold q_J4_length_8abf5 q_J5_length_8abf5
      rw [ck1, Option.bind_some, r3]
      rfl
    have gv : q_J5_getValue_6d5f1 K (mm_up h n (.inr (10, [.null, .int 0, .int 0, .int 0]))) (n + 1) a = some (some v) := by
      unfold q_J5_getValue_6d5f1
      rw [r0]
      rfl
    unfold q_J4_toString_0e30d
    rw [e0, Option.bind_some]
    unfold q_J0_init_81219 q_J0_init_db425
    rw [Option.bind_some, ck1, Option.bind_some, gv, Option.bind_some, Option.bind_some, le, Option.bind_some, Option.bind_some, il, Option.bind_some, if_neg (by decide), w1, Option.bind_some, c1, Option.bind_some]
    show (((wrF h3 (n + 2) n 10 0 (va_rf (some (n + 1)))).bind _).bind _).bind _ = _
    rw [w5]
    rfl
  · rw [mm_sf_n (by omega)]
    exact c2
  · rw [mm_sf_n h1, c4 b h2, fr2 b h1]
end SBS

/-! ===== the model's bytes and words ===== -/
section BYTES
variable {b : Nat → Nat} {N : Nat}
/-- a byte as the model holds it -/
def sb (v : Nat) : Int32 := if v < 128 then ni v else Int32.ofInt ((v : Int) - 256)
theorem sb_b4 : ∀ v, v < 256 → ((sb v = 32 ∨ sb v = 10) ↔ kd v = 4) := by decide +kernel
theorem sb_b1 : ∀ v, v < 256 → ((¬ sb v < 97 ∧ ¬ 122 < sb v) ↔ kd v = 1) := by decide +kernel
theorem sb_b2 : ∀ v, v < 256 → ((¬ sb v < 48 ∧ ¬ 57 < sb v) ↔ kd v = 2) := by decide +kernel
theorem sb_ni : ∀ v, v < 256 → kd v = 1 ∨ kd v = 2 → sb v = ni v ∧ 1 ≤ v ∧ (kd v = 2 → 48 ≤ v ∧ v ≤ 57) := by decide +kernel
theorem sb_sg : ∀ c, c ∈ [40, 41, 59, 60, 61, 62] → ∀ v, v < 256 → ((sb v = ni c) ↔ v = c) := by decide +kernel
theorem kd_sg : ∀ c, c ∈ [40, 41, 59, 60, 61, 62] → kd c = 3 := by decide +kernel
theorem sb_nar : ∀ x, x < 256 → (Int8.ofBitVec (BitVec.ofNat 8 x)).toInt32 = sb x := by decide +kernel
/-- the letters from a place on -/
def seg (b : Nat → Nat) (s : Nat) : Nat → List Nat
  | 0 => []
  | m + 1 => seg b s m ++ [b (s + m)]
def vW (b : Nat → Nat) (s : Nat) : Nat → Nat
  | 0 => 0
  | m + 1 => vW b s m * 256 + b (s + m)
/-- a word's number, its last letter first -/
def vR : List Nat → Nat
  | [] => 0
  | c :: t => vR t * 256 + c
theorem seg_len (s : Nat) : ∀ m, (seg b s m).length = m
  | 0 => rfl
  | m + 1 => by
    show (seg b s m ++ [_]).length = m + 1
    rw [List.length_append, seg_len s m, List.length_singleton]
theorem seg_at (s : Nat) : ∀ m i, i < m → (seg b s m)[i]? = some (b (s + i))
  | 0, i, h => by omega
  | m + 1, i, h => by
    show (seg b s m ++ [_])[i]? = _
    by_cases q : i < m
    · rw [List.getElem?_append_left (by rw [seg_len]; exact q)]
      exact seg_at s m i q
    · have : i = m := by omega
      subst this
      rw [List.getElem?_append_right (by rw [seg_len]; exact Nat.le_refl _), seg_len, Nat.sub_self]
      rfl
theorem vW_inj (s : Nat) : ∀ (m : Nat) (r : List Nat), (∀ i, i < m → 1 ≤ b (s + i) ∧ b (s + i) < 256) → (∀ c, c ∈ r → 1 ≤ c ∧ c < 256) → vW b s m = vR r → seg b s m = r.reverse
  | 0, [], _, _, _ => rfl
  | 0, c :: t, _, h2, h3 => by
    have h4 : 0 = vR t * 256 + c := h3
    have := (h2 c List.mem_cons_self).1
    omega
  | m + 1, [], h1, _, h3 => by
    have h4 : vW b s m * 256 + b (s + m) = 0 := h3
    have := (h1 m (by omega)).1
    omega
  | m + 1, c :: t, h1, h2, h3 => by
    have h4 : vW b s m * 256 + b (s + m) = vR t * 256 + c := h3
    have h5 := h1 m (by omega)
    have h6 := h2 c List.mem_cons_self
    have h7 := vW_inj s m t (fun i hi => h1 i (by omega)) (fun c hc => h2 c (List.mem_cons_of_mem _ hc)) (by omega)
    show seg b s m ++ [b (s + m)] = (c :: t).reverse
    rw [h7, List.reverse_cons, show b (s + m) = c by omega]
theorem vW_seg (s : Nat) : ∀ m, vW b s m = vR (seg b s m).reverse
  | 0 => rfl
  | m + 1 => by
    show vW b s m * 256 + b (s + m) = vR (seg b s m ++ [b (s + m)]).reverse
    rw [List.reverse_append, vW_seg s m]
    rfl
theorem vW_lt (s : Nat) : ∀ m, (∀ i, i < m → b (s + i) < 256) → vW b s m < 256 ^ m
  | 0, _ => Nat.zero_lt_one
  | m + 1, h => by
    have h1 := vW_lt s m (fun i hi => h i (by omega))
    have h2 := h m (by omega)
    show vW b s m * 256 + b (s + m) < 256 ^ (m + 1)
    rw [Nat.pow_succ]
    omega
theorem vR_lt : ∀ r : List Nat, (∀ c, c ∈ r → c < 256) → vR r < 256 ^ r.length
  | [], _ => Nat.zero_lt_one
  | c :: t, h => by
    have h1 := vR_lt t (fun c hc => h c (List.mem_cons_of_mem _ hc))
    have h2 := h c List.mem_cons_self
    show vR t * 256 + c < 256 ^ (t.length + 1)
    rw [Nat.pow_succ]
    omega
abbrev jo (k : Nat) : Int64 := Int64.ofNat k
theorem jo_inj {a c : Nat} (ha : a < 2 ^ 63) (hc : c < 2 ^ 63) : jo a = jo c ↔ a = c := by
  constructor
  · intro h
    have h1 := congrArg (fun x : Int64 => x.toBitVec.toNat) h
    have h2 : a % 2 ^ 64 = c % 2 ^ 64 := h1
    omega
  · intro h
    rw [h]
theorem jo_sh {a c : Nat} (ha : a < 2 ^ 48) (hc : c < 256) : ((jo a) <<< ((Int32.toInt64 8) &&& 63)) ||| (Int32.toInt64 (ni c)) = jo (a * 256 + c) := by
  have e8 : ((Int32.toInt64 8) &&& 63 : Int64) = 8 := by decide
  have ec : Int32.toInt64 (ni c) = jo c := by
    have h : ∀ x, x < 256 → Int32.toInt64 (ni x) = jo x := by decide +kernel
    exact h c hc
  rw [e8, ec]
  refine Int64.toBitVec_inj.mp (BitVec.eq_of_toNat_eq ?_)
  rw [Int64.toBitVec_or, BitVec.toNat_or]
  have e1 : (jo a <<< (8 : Int64)).toBitVec.toNat = a * 256 := by
    rw [Int64.toBitVec_shiftLeft]
    show (BitVec.ofNat 64 a <<< (8 : BitVec 64).smod 64).toNat = _
    rw [show (8 : BitVec 64).smod 64 = 8 by decide]
    show (BitVec.ofNat 64 a <<< (8 : Nat)).toNat = _
    rw [BitVec.toNat_shiftLeft, BitVec.toNat_ofNat, Nat.mod_eq_of_lt (by omega), Nat.shiftLeft_eq, Nat.mod_eq_of_lt (by omega)]
  have e2 : (jo c).toBitVec.toNat = c := by
    show c % 2 ^ 64 = c
    omega
  have e3 : (jo (a * 256 + c)).toBitVec.toNat = a * 256 + c := by
    show (a * 256 + c) % 2 ^ 64 = _
    omega
  rw [e1, e2, e3]
  have := Nat.shiftLeft_add_eq_or_of_lt (i := 8) (b := c) (by omega) a
  rw [Nat.shiftLeft_eq] at this
  exact this.symm
/-- a word and its number -/
abbrev okC (w : List Nat) (c : Int64) : Prop := c = jo (vR w.reverse) ∧ w.length ≤ 7 ∧ 1 ≤ w.length ∧ ∀ x, x ∈ w → 1 ≤ x ∧ x < 256
theorem isW_seg {w : List Nat} {s : Nat} (hs : s ≤ N) : isW b N w s = true ↔ tkk b N s = 1 ∧ seg b s (tee b N s - s) = w := by
  have h1 := tee_ge (b := b) (N := N) s
  have h2 := mt_iff (b := b) (N := N) (tee_le hs) w s h1
  unfold isW
  rw [Bool.and_eq_true, decide_eq_true_iff, decide_eq_true_iff, h2]
  constructor
  · rintro ⟨h3, h4, h5⟩
    refine ⟨h3, List.ext_getElem? fun i => ?_⟩
    by_cases q : i < w.length
    · rw [seg_at s _ i (by omega), List.getElem?_eq_getElem q, h5 i _ (List.getElem?_eq_getElem q)]
    · rw [List.getElem?_eq_none (by rw [seg_len]; omega), List.getElem?_eq_none (by omega)]
  · rintro ⟨h3, h4⟩
    have h5 := congrArg List.length h4
    rw [seg_len] at h5
    refine ⟨h3, by omega, fun i c hc => ?_⟩
    have hi := (List.getElem?_eq_some_iff.mp hc).1
    rw [← h4, seg_at s _ i (by omega)] at hc
    exact Option.some.inj hc
/-- the number of the letters that stand at a place -/
def wdV (b : Nat → Nat) (N s : Nat) : Int64 := if rn b N 1 s - s ≤ 7 then jo (vW b s (rn b N 1 s - s)) else 0
theorem tee_rn {s k : Nat} (hk : k = 1 ∨ k = 2) (hs : s ≤ N) : (tkk b N s = k ↔ rn b N k s ≠ s) ∧ (tkk b N s = k → tee b N s = rn b N k s) := by
  have e := rn_eq (b := b) (N := N) k s
  have hg := (rn_ge (b := b) (N := N) k _ (s + 1) rfl).1
  unfold tkk tee
  by_cases q : N ≤ s
  · rw [if_pos q, if_pos q]
    rw [if_neg (fun z => by omega)] at e
    rw [e]
    exact ⟨⟨fun z => by omega, fun z => absurd rfl z⟩, fun z => by omega⟩
  · rw [if_neg q, if_neg q]
    by_cases z : kd (b s) = k
    · rw [if_pos ⟨by omega, z⟩] at e
      rw [e]
      exact ⟨⟨fun _ => by omega, fun _ => z⟩, fun _ => by rw [z, if_pos hk]⟩
    · rw [if_neg (fun y => z y.2)] at e
      rw [e]
      exact ⟨⟨fun y => absurd y z, fun y => absurd rfl y⟩, fun y => absurd y z⟩
theorem wdV_iff {w : List Nat} {c : Int64} (o : okC w c) {s : Nat} (hs : s ≤ N) (hb : ∀ k, k < N → b k < 256) : wdV b N s = c ↔ isW b N w s = true := by
  obtain ⟨o1, o2, o3, o4⟩ := o
  obtain ⟨t1, t2⟩ := tee_rn (b := b) (N := N) (s := s) (Or.inl rfl) hs
  have hr := rn_ge (b := b) (N := N) 1 _ s rfl
  have hrN := hr.2.1 hs
  have bd : ∀ i, i < rn b N 1 s - s → 1 ≤ b (s + i) ∧ b (s + i) < 256 := fun i hi => by
    have hk := rn_in (b := b) (N := N) 1 _ s (s + i) rfl (by omega) (by omega)
    exact ⟨(sb_ni _ (hb _ (by omega)) (Or.inl hk)).2.1, hb _ (by omega)⟩
  have hv : vR w.reverse < 2 ^ 63 := by
    have h1 := vR_lt w.reverse (fun c hc => (o4 c (List.mem_reverse.mp hc)).2)
    rw [List.length_reverse] at h1
    have h2 : 256 ^ w.length ≤ 256 ^ 7 := Nat.pow_le_pow_right (by decide) o2
    have h3 : (256 : Nat) ^ 7 < 2 ^ 63 := by decide
    omega
  have h0 : c ≠ 0 := fun z => by
    rw [o1] at z
    have h1 := (jo_inj hv (show 0 < 2 ^ 63 by decide)).mp z
    have h2 := vW_inj (b := fun _ => 0) 0 0 w.reverse (fun i hi => by omega) (fun c hc => o4 c (List.mem_reverse.mp hc)) h1.symm
    rw [List.reverse_reverse] at h2
    rw [← h2] at o3
    exact absurd o3 (by decide)
  rw [isW_seg hs]
  unfold wdV
  constructor
  · intro h
    by_cases q : rn b N 1 s - s ≤ 7
    · rw [if_pos q, o1] at h
      have h1 : vW b s (rn b N 1 s - s) < 2 ^ 63 := by
        have h1 := vW_lt (b := b) s (rn b N 1 s - s) (fun i hi => (bd i hi).2)
        have h2 : 256 ^ (rn b N 1 s - s) ≤ 256 ^ 7 := Nat.pow_le_pow_right (by decide) q
        have h3 : (256 : Nat) ^ 7 < 2 ^ 63 := by decide
        omega
      have h2 := vW_inj s _ w.reverse bd (fun c hc => o4 c (List.mem_reverse.mp hc)) ((jo_inj h1 hv).mp h)
      rw [List.reverse_reverse] at h2
      have h3 := congrArg List.length h2
      rw [seg_len] at h3
      have h4 : tkk b N s = 1 := t1.mpr (by omega)
      exact ⟨h4, by rw [t2 h4]; exact h2⟩
    · rw [if_neg q] at h
      exact absurd h.symm h0
  · rintro ⟨h1, h2⟩
    rw [t2 h1] at h2
    have h3 := congrArg List.length h2
    rw [seg_len] at h3
    rw [if_pos (by omega), o1, vW_seg, h2]
end BYTES

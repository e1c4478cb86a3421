/-! ===== a text, from a place on ===== -/
section ATS
variable {b : Nat → Nat} {N : Nat}
/-- from s on the text is R, to its end -/
def At (b : Nat → Nat) (N s : Nat) (R : List Nat) : Prop := N = s + R.length ∧ ∀ i, i < R.length → b (s + i) = R.getD i 0
def nk (k : Nat) : List Nat → Bool
  | [] => true
  | c :: _ => decide (kd c ≠ k)
/-- behind a token: one blank is left out -/
def dB : List Nat → List Nat
  | [] => []
  | c :: R => if kd c = 4 then R else c :: R
theorem At.hd {s c : Nat} {R : List Nat} (a : At b N s (c :: R)) : s < N ∧ b s = c ∧ At b N (s + 1) R := by
  obtain ⟨a1, a2⟩ := a
  rw [List.length_cons] at a1
  refine ⟨by omega, a2 0 (by rw [List.length_cons]; omega), by omega, fun i hi => ?_⟩
  have := a2 (i + 1) (by rw [List.length_cons]; omega)
  rw [show s + 1 + i = s + (i + 1) by omega, this]
  rfl
theorem At.app {R : List Nat} : ∀ (w : List Nat) (s : Nat), At b N s (w ++ R) → At b N (s + w.length) R
  | [], _, a => a
  | c :: w, s, a => by
    have := At.app w (s + 1) (At.hd a).2.2
    rw [List.length_cons, show s + (w.length + 1) = s + 1 + w.length by omega]
    exact this
theorem At.run {k : Nat} {R : List Nat} (hR : nk k R = true) : ∀ (w : List Nat) (s : Nat), At b N s (w ++ R) → (∀ c, c ∈ w → kd c = k) → rn b N k s = s + w.length
  | [], s, a, _ => by
    rw [rn_eq]
    cases R with
    | nil =>
      have := a.1
      rw [if_neg (by
        intro q
        have h := q.1
        rw [this] at h
        exact Nat.lt_irrefl _ h)]
      rfl
    | cons c R =>
      obtain ⟨h1, h2, -⟩ := At.hd a
      have h3 := of_decide_eq_true hR
      rw [if_neg (fun q => h3 (by rw [← h2]; exact q.2))]
      rfl
  | c :: w, s, a, hw => by
    obtain ⟨h1, h2, h3⟩ := At.hd a
    rw [rn_eq, if_pos ⟨h1, by rw [h2]; exact hw c (List.mem_cons_self)⟩, At.run hR w (s + 1) h3 (fun d hd => hw d (List.mem_cons_of_mem c hd)), List.length_cons]
    omega
theorem At.skp {p : Nat} {R : List Nat} (a : At b N p R) (h : nk 4 (dB R) = true) : At b N (sk b N p) (dB R) := by
  cases R with
  | nil =>
    have := At.run (b := b) (N := N) (k := 4) (R := []) rfl [] p a (fun c q => absurd q List.not_mem_nil)
    show At b N (rn b N 4 p) []
    rw [this]
    exact a
  | cons c R =>
    by_cases q : kd c = 4
    · have e : dB (c :: R) = R := if_pos q
      rw [e] at h ⊢
      have := At.run (b := b) (N := N) (k := 4) h [c] p a (fun d hd => by rw [List.mem_singleton.mp hd]; exact q)
      show At b N (rn b N 4 p) R
      rw [this]
      exact (At.hd a).2.2
    · have e : dB (c :: R) = c :: R := if_neg q
      rw [e] at h ⊢
      have := At.run (b := b) (N := N) (k := 4) h [] p a (fun c q => absurd q List.not_mem_nil)
      show At b N (rn b N 4 p) (c :: R)
      rw [this]
      exact a
/-- a token of letters, or of digits -/
theorem At.tok {k : Nat} (hk : k = 1 ∨ k = 2) {R : List Nat} (hR : nk k R = true) (hB : nk 4 (dB R) = true) {w : List Nat} {s : Nat} (a : At b N s (w ++ R)) (hw : w ≠ []) (hw2 : ∀ c, c ∈ w → kd c = k) : tkk b N s = k ∧ tee b N s = s + w.length ∧ At b N (nx b N s) (dB R) ∧ s < N := by
  cases w with
  | nil => exact absurd rfl hw
  | cons c w =>
    obtain ⟨h1, h2, h3⟩ := At.hd a
    have hc : kd (b s) = k := by rw [h2]; exact hw2 c List.mem_cons_self
    have t1 : tkk b N s = k := by unfold tkk; rw [if_neg (by omega), hc]
    have t2 : tee b N s = s + (c :: w).length := by
      unfold tee
      rw [if_neg (by omega), hc, if_pos hk, At.run hR w (s + 1) h3 (fun d hd => hw2 d (List.mem_cons_of_mem c hd)), List.length_cons]
      omega
    refine ⟨t1, t2, ?_, h1⟩
    show At b N (sk b N (tee b N s)) _
    rw [t2]
    exact (At.app (c :: w) s a).skp hB
/-- a token of its own -/
theorem At.pun {c s : Nat} {R : List Nat} (hc : kd c = 3) (hB : nk 4 (dB R) = true) (a : At b N s (c :: R)) : tkk b N s = 3 ∧ b s = c ∧ At b N (nx b N s) (dB R) := by
  obtain ⟨h1, h2, h3⟩ := At.hd a
  have t2 : tee b N s = s + 1 := by
    unfold tee
    rw [if_neg (by omega), h2, if_neg (by omega)]
  refine ⟨by unfold tkk; rw [if_neg (by omega), h2, hc], h2, ?_⟩
  show At b N (sk b N (tee b N s)) _
  rw [t2]
  exact h3.skp hB
theorem At.word {R w : List Nat} (hR : nk 1 R = true) (hB : nk 4 (dB R) = true) {s : Nat} (a : At b N s (w ++ R)) (hw : w ≠ []) (hw2 : ∀ c, c ∈ w → kd c = 1) (w' : List Nat) : isW b N w' s = decide (w' = w) := by
  obtain ⟨t1, t2, t3, t4⟩ := At.tok (Or.inl rfl) hR hB a hw hw2
  have a1 := a.1
  rw [List.length_append] at a1
  unfold isW
  rw [t1, t2, decide_eq_true rfl, Bool.true_and]
  refine decide_eq_decide.mpr ((mt_iff (by omega) w' s (by omega)).trans ⟨fun q => ?_, fun q => ?_⟩)
  · obtain ⟨q1, q2⟩ := q
    refine List.ext_getElem? (fun i => ?_)
    by_cases hi : i < w'.length
    · rw [List.getElem?_eq_getElem hi, List.getElem?_eq_getElem (by omega)]
      have e1 := q2 i _ (List.getElem?_eq_getElem hi)
      have e2 := a.2 i (by rw [List.length_append]; omega)
      rw [e1, List.getD_eq_getElem?_getD, List.getElem?_append_left (by omega), List.getElem?_eq_getElem (by omega)] at e2
      exact congrArg some e2
    · rw [List.getElem?_eq_none (by omega), List.getElem?_eq_none (by omega)]
  · subst q
    refine ⟨rfl, fun i c e => ?_⟩
    obtain ⟨h1, h2⟩ := List.getElem?_eq_some_iff.mp e
    have e2 := a.2 i (by rw [List.length_append]; omega)
    rw [e2, List.getD_eq_getElem?_getD, List.getElem?_append_left h1, e]
    rfl
def pkq (w : List Nat) : List (List Nat) → Nat → Option Nat
  | [], _ => none
  | w' :: t, i => if w' = w then some i else pkq w t (i + 1)
theorem pkq_eq {w : List Nat} {s : Nat} (h : ∀ w', isW b N w' s = decide (w' = w)) : ∀ (ws : List (List Nat)) (i : Nat), pkW b N s ws i = pkq w ws i
  | [], _ => rfl
  | w' :: t, i => by
    show (if isW b N w' s = true then some i else pkW b N s t (i + 1)) = if w' = w then some i else pkq w t (i + 1)
    rw [h w', pkq_eq h t (i + 1)]
    by_cases q : w' = w
    · rw [if_pos q, if_pos (decide_eq_true q)]
    · rw [if_neg q, if_neg (by rw [decide_eq_false q]; decide)]
/-- a word is picked -/
theorem At.pick {R w : List Nat} {s : Nat} (a : At b N s (w ++ R)) (hR : nk 1 R = true) (hB : nk 4 (dB R) = true) (hw : w ≠ []) (hw2 : ∀ c, c ∈ w → kd c = 1) {ws : List (List Nat)} {i : Nat} (hp : pkq w ws 0 = some i) : ∃ s', pkS b N ws (.inr s) = (ni i, .inr s') ∧ At b N s' (dB R) := by
  refine ⟨nx b N s, ?_, (At.tok (Or.inl rfl) hR hB a hw hw2).2.2.1⟩
  unfold pkS
  show (match pkW b N s ws 0 with | some i => (ni i, (.inr (nx b N s) : RSt)) | none => (-1, .inl s)) = _
  rw [pkq_eq (a.word hR hB hw hw2) ws 0, hp]
theorem dg_kd {v : Nat} (hv : v < 1000) : ∀ c, c ∈ dg v → kd c = 2 := by
  intro c hc
  have h : 48 ≤ c ∧ c ≤ 57 := by
    unfold dg at hc
    split at hc
    · rw [List.mem_singleton.mp hc]; omega
    · split at hc
      · simp at hc; omega
      · simp at hc; omega
  unfold kd
  rw [if_neg (by omega), if_pos h]
theorem dg_ne {v : Nat} : dg v ≠ [] := fun q => by
  have := (dg_len (v := v)).1
  rw [q] at this
  exact absurd this (by decide)
theorem vlF_dg {v s : Nat} (hv : v < 1000) (h : ∀ i, i < (dg v).length → b (s + i) = (dg v).getD i 0) : vlF b s (dg v).length = v := by
  unfold dg at h ⊢
  by_cases q : v < 10
  · rw [if_pos q] at h ⊢
    have h0 : b (s + 0) = 48 + v := h 0 (Nat.le_of_ble_eq_true rfl)
    show (0 * 10 + (b (s + 0) - 48)) = v
    rw [h0]
    omega
  · rw [if_neg q] at h ⊢
    by_cases r : v < 100
    · rw [if_pos r] at h ⊢
      have h0 : b (s + 0) = 48 + v / 10 := h 0 (Nat.le_of_ble_eq_true rfl)
      have h1 : b (s + 1) = 48 + v % 10 := h 1 (Nat.le_of_ble_eq_true rfl)
      show ((0 * 10 + (b (s + 0) - 48)) * 10 + (b (s + 1) - 48)) = v
      rw [h0, h1]
      omega
    · rw [if_neg r] at h ⊢
      have h0 : b (s + 0) = 48 + v / 100 := h 0 (Nat.le_of_ble_eq_true rfl)
      have h1 : b (s + 1) = 48 + v / 10 % 10 := h 1 (Nat.le_of_ble_eq_true rfl)
      have h2 : b (s + 2) = 48 + v % 10 := h 2 (Nat.le_of_ble_eq_true rfl)
      show (((0 * 10 + (b (s + 0) - 48)) * 10 + (b (s + 1) - 48)) * 10 + (b (s + 2) - 48)) = v
      rw [h0, h1, h2]
      omega
/-- a number is read -/
theorem At.num {R : List Nat} {s v lo hi : Nat} (a : At b N s (dg v ++ R)) (hR : nk 2 R = true) (hB : nk 4 (dB R) = true) (hv : v < 1000) (h1 : lo ≤ v) (h2 : v ≤ hi) : ∃ s', nmS b N lo hi (.inr s) = (ni v, .inr s') ∧ At b N s' (dB R) := by
  obtain ⟨t1, t2, t3, t4⟩ := At.tok (Or.inr rfl) hR hB a dg_ne (dg_kd hv)
  have e : vl b N s = v := by
    unfold vl
    rw [t2, Nat.add_sub_cancel_left]
    refine vlF_dg hv (fun i hi => ?_)
    rw [a.2 i (by rw [List.length_append]; omega), List.getD_eq_getElem?_getD, List.getD_eq_getElem?_getD, List.getElem?_append_left hi]
  have dl := (dg_len (v := v)).2
  refine ⟨nx b N s, ?_, t3⟩
  unfold nmS
  show (if tkk b N s = 2 ∧ tee b N s - s ≤ 5 ∧ lo ≤ vl b N s ∧ vl b N s ≤ hi then (ni (vl b N s), (.inr (nx b N s) : RSt)) else (-1, .inl s)) = _
  rw [e, if_pos ⟨t1, by omega, h1, h2⟩]
theorem dB_id {R : List Nat} (h : nk 4 R = true) : dB R = R := by
  cases R with
  | nil => rfl
  | cons c R => exact if_neg (of_decide_eq_true h)
/-- the end of a statement -/
theorem At.semi {R : List Nat} {s : Nat} (a : At b N s (59 :: R)) (h : nk 4 R = true) : ∃ s', sgS b N 59 (.inr s) = .inr s' ∧ At b N s' R := by
  obtain ⟨t1, t2, t3⟩ := At.pun (c := 59) rfl (by rw [dB_id h]; exact h) a
  rw [dB_id h] at t3
  refine ⟨nx b N s, ?_, t3⟩
  unfold sgS isG
  show (if (decide (tkk b N s = 3) && decide (b s = 59)) = true then stpS b N (.inr s) else flS (.inr s)) = _
  rw [t1, t2]
  rfl
theorem At.noW {R : List Nat} {s c : Nat} (a : At b N s (c :: R)) (h : kd c ≠ 1) (w : List Nat) : isWS b N w (.inr s) = false := by
  obtain ⟨h1, h2, -⟩ := At.hd a
  show isW b N w s = false
  unfold isW tkk
  rw [if_neg (by omega), h2, decide_eq_false h, Bool.false_and]
theorem nk_dg {k v : Nat} (hv : v < 1000) (hk : k ≠ 2) (R : List Nat) : nk k (dg v ++ R) = true := by
  have hd := dg_kd hv
  cases e : dg v with
  | nil => exact absurd e dg_ne
  | cons c t =>
    rw [e] at hd
    show decide (kd c ≠ k) = true
    rw [hd c List.mem_cons_self]
    exact decide_eq_true (fun q => hk q.symm)
end ATS

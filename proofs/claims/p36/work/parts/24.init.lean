/-! ===== what the two constructors make ===== -/
/-- a constructor's way: the cells ahead of n0 but its own object's stay; its object's fields; the cells that it has made, from n0 on -/
abbrev IS (h0 h : mm_H) (a ci N n0 : Nat) (fs : List Value) (hi : List mm_E) : Prop :=
  (∀ b, (b < n0 ∨ 1000000 ≤ b) → b ≠ a → h b = h0 b) ∧ h a = .inr (ci, fs) ∧ (∀ (i : Nat) (e : mm_E), hi[i]? = some e → h (n0 + (hi.length - 1 - i)) = e) ∧ fs.length = N ∧ a < n0 ∧ 48 ≤ a ∧ n0 ≤ 1000
theorem IS.fr {h0 h : mm_H} {a ci N n0 : Nat} {fs : List Value} {hi : List mm_E} (s : IS h0 h a ci N n0 fs hi) : ∀ b, (b < n0 ∨ 1000000 ≤ b) → b ≠ a → h b = h0 b := s.1
theorem IS.ob {h0 h : mm_H} {a ci N n0 : Nat} {fs : List Value} {hi : List mm_E} (s : IS h0 h a ci N n0 fs hi) : h a = .inr (ci, fs) := s.2.1
theorem IS.nw {h0 h : mm_H} {a ci N n0 : Nat} {fs : List Value} {hi : List mm_E} (s : IS h0 h a ci N n0 fs hi) : ∀ (i : Nat) (e : mm_E), hi[i]? = some e → h (n0 + (hi.length - 1 - i)) = e := s.2.2.1
theorem IS.ln {h0 h : mm_H} {a ci N n0 : Nat} {fs : List Value} {hi : List mm_E} (s : IS h0 h a ci N n0 fs hi) : fs.length = N := s.2.2.2.1
theorem IS.lt {h0 h : mm_H} {a ci N n0 : Nat} {fs : List Value} {hi : List mm_E} (s : IS h0 h a ci N n0 fs hi) : a < n0 := s.2.2.2.2.1
theorem IS.ge {h0 h : mm_H} {a ci N n0 : Nat} {fs : List Value} {hi : List mm_E} (s : IS h0 h a ci N n0 fs hi) : 48 ≤ a := s.2.2.2.2.2.1
theorem IS.bd {h0 h : mm_H} {a ci N n0 : Nat} {fs : List Value} {hi : List mm_E} (s : IS h0 h a ci N n0 fs hi) : n0 ≤ 1000 := s.2.2.2.2.2.2
theorem IS.go_ {h : mm_H} {a ci N n : Nat} {fs : List Value} (ha : 48 ≤ a) (hn : a < n) (ho : h a = .inr (ci, fs)) (hl : fs.length = N) (hz : n ≤ 1000) : IS h h a ci N n fs [] :=
  ⟨fun _ _ _ => rfl, ho, fun i e q => (by cases q), hl, hn, ha, hz⟩
theorem IS.ny {h0 h : mm_H} {a ci N n0 : Nat} {fs : List Value} {t : List mm_E} {e : mm_E} (s : IS h0 h a ci N n0 fs (e :: t)) {b : Nat} (hb : b = n0 + t.length) : h b = e := by
  subst hb
  exact s.nw 0 e rfl
theorem IS.up {h0 h : mm_H} {a ci N n0 : Nat} {fs : List Value} {hi : List mm_E} (s : IS h0 h a ci N n0 fs hi) {n : Nat} (e : mm_E) (hn : n = n0 + hi.length) (hlen : hi.length < 100000) : IS h0 (mm_up h n e) a ci N n0 fs (e :: hi) := by
  subst hn
  have h1 := s.lt
  have h9 := s.bd
  refine ⟨fun b hb hba => by rw [mm_up_n (by omega)]; exact s.fr b hb hba, by rw [mm_up_n (by omega)]; exact s.ob, fun i e2 q => ?_, s.ln, h1, s.ge, s.bd⟩
  cases i with
  | zero =>
    cases q
    exact mm_up_s
  | succ i =>
    rw [List.getElem?_cons_succ] at q
    have h2 := (List.getElem?_eq_some_iff.mp q).1
    rw [List.length_cons, show hi.length + 1 - 1 - (i + 1) = hi.length - 1 - i by omega, mm_up_n (by omega)]
    exact s.nw i e2 q
theorem IS.nO {h0 h : mm_H} {a ci0 N n0 : Nat} {fs0 : List Value} {hi : List mm_E} (s : IS h0 h a ci0 N n0 fs0 hi) {n ci : Nat} {fs : List Value} (hn : n = n0 + hi.length) (hlen : hi.length < 100000 := by exact Nat.le_of_ble_eq_true rfl) : ∃ h1, newO h n ci fs = some h1 ∧ IS h0 h1 a ci0 N n0 fs0 (.inr (ci, fs) :: hi) := ⟨_, if_pos (by have := s.bd; omega), s.up _ hn hlen⟩
theorem IS.nI {h0 h : mm_H} {a ci0 N0 n0 : Nat} {fs0 : List Value} {hi : List mm_E} (s : IS h0 h a ci0 N0 n0 fs0 hi) {n N M : Nat} {ty : FieldType} {i : Int32} (hn : n = n0 + hi.length) (hc : ¬ i < 0 ∧ i.toNatClampNeg ≤ N) (hm : i.toNatClampNeg = M) (hlen : hi.length < 100000 := by exact Nat.le_of_ble_eq_true rfl) : ∃ h1, newI h n ty N i = some h1 ∧ IS h0 h1 a ci0 N0 n0 fs0 (.inl (ty, M, .inl (fun _ => 0)) :: hi) := by
  subst hm
  exact ⟨_, if_pos ⟨hc.1, hc.2, by have := s.bd; omega⟩, s.up _ hn hlen⟩
theorem IS.nJ {h0 h : mm_H} {a ci0 N0 n0 : Nat} {fs0 : List Value} {hi : List mm_E} (s : IS h0 h a ci0 N0 n0 fs0 hi) {n N M : Nat} {i : Int32} (hn : n = n0 + hi.length) (hc : ¬ i < 0 ∧ i.toNatClampNeg ≤ N) (hm : i.toNatClampNeg = M) (hlen : hi.length < 100000 := by exact Nat.le_of_ble_eq_true rfl) : ∃ h1, newJ h n N i = some h1 ∧ IS h0 h1 a ci0 N0 n0 fs0 (.inl (.long, M, .inr (.inl (fun _ => 0))) :: hi) := by
  subst hm
  exact ⟨_, if_pos ⟨hc.1, hc.2, by have := s.bd; omega⟩, s.up _ hn hlen⟩
theorem IS.nA {h0 h : mm_H} {a ci0 N0 n0 : Nat} {fs0 : List Value} {hi : List mm_E} (s : IS h0 h a ci0 N0 n0 fs0 hi) {n N M : Nat} {ty : FieldType} {i : Int32} (hn : n = n0 + hi.length) (hc : ¬ i < 0 ∧ i.toNatClampNeg ≤ N) (hm : i.toNatClampNeg = M) (hlen : hi.length < 100000 := by exact Nat.le_of_ble_eq_true rfl) : ∃ h1, newA h n ty N i = some h1 ∧ IS h0 h1 a ci0 N0 n0 fs0 (.inl (ty, M, .inr (.inr (.inr (.inr (fun _ => none))))) :: hi) := by
  subst hm
  exact ⟨_, if_pos ⟨hc.1, hc.2, by have := s.bd; omega⟩, s.up _ hn hlen⟩
theorem IS.ro_ {h0 h : mm_H} {a ci N0 n0 : Nat} {fs : List Value} {hi : List mm_E} (s : IS h0 h a ci N0 n0 fs hi) {n N : Nat} (ty : FieldType) (e : vp_A) (hn : n = n0 + hi.length) (hNN : N < 100000) (hlen : hi.length < 100000) : IS h0 (mm_row h n N ty e) a ci N0 n0 fs (List.replicate N (.inl (ty, e)) ++ .inl (.array ty, N, .inr (.inr (.inr (.inr (fun j => if j < N then some (n + 1 + j) else none))))) :: hi) := by
  subst hn
  have h1 := s.lt
  have h9 := s.bd
  refine ⟨fun b hb hba => ?_, ?_, fun i e2 q => ?_, s.ln, h1, s.ge, s.bd⟩
  · unfold mm_row
    rw [if_neg (by omega), if_neg (by omega)]
    exact s.fr b hb hba
  · unfold mm_row
    rw [if_neg (by omega), if_neg (by omega)]
    exact s.ob
  · rw [List.length_append, List.length_replicate, List.length_cons]
    by_cases hi1 : i < N
    · rw [List.getElem?_append_left (by rw [List.length_replicate]; exact hi1), List.getElem?_replicate, if_pos hi1] at q
      cases q
      unfold mm_row
      rw [if_neg (by omega), if_pos (by omega)]
    · rw [List.getElem?_append_right (by rw [List.length_replicate]; omega), List.length_replicate] at q
      by_cases h3 : i = N
      · subst h3
        rw [Nat.sub_self] at q
        cases q
        unfold mm_row
        rw [if_pos (by omega)]
      · obtain ⟨k, hk⟩ : ∃ k, i - N = k + 1 := ⟨i - N - 1, by omega⟩
        rw [hk, List.getElem?_cons_succ] at q
        have h4 := (List.getElem?_eq_some_iff.mp q).1
        rw [show N + (hi.length + 1) - 1 - i = hi.length - 1 - k by omega]
        unfold mm_row
        rw [if_neg (by omega), if_neg (by omega)]
        exact s.nw k e2 q
theorem IS.nMI {h0 h : mm_H} {a ci N0 n0 : Nat} {fs : List Value} {hi : List mm_E} (s : IS h0 h a ci N0 n0 fs hi) {n N M : Nat} (hn : n = n0 + hi.length) (hNN : N < 100000 := by decide) (hlen : hi.length < 100000 := by exact Nat.le_of_ble_eq_true rfl) : ∃ h1, newMI h n N M = some h1 ∧ IS h0 h1 a ci N0 n0 fs (List.replicate N (.inl (.int, M, .inl (fun _ => 0))) ++ .inl (.array .int, N, .inr (.inr (.inr (.inr (fun j => if j < N then some (n + 1 + j) else none))))) :: hi) := ⟨_, if_pos (by have := s.bd; omega), s.ro_ _ _ hn hNN hlen⟩
theorem IS.nMJ {h0 h : mm_H} {a ci N0 n0 : Nat} {fs : List Value} {hi : List mm_E} (s : IS h0 h a ci N0 n0 fs hi) {n N M : Nat} (hn : n = n0 + hi.length) (hNN : N < 100000 := by decide) (hlen : hi.length < 100000 := by exact Nat.le_of_ble_eq_true rfl) : ∃ h1, newMJ h n N M = some h1 ∧ IS h0 h1 a ci N0 n0 fs (List.replicate N (.inl (.long, M, .inr (.inl (fun _ => 0)))) ++ .inl (.array .long, N, .inr (.inr (.inr (.inr (fun j => if j < N then some (n + 1 + j) else none))))) :: hi) := ⟨_, if_pos (by have := s.bd; omega), s.ro_ _ _ hn hNN hlen⟩
theorem IS.wr_ {h0 h : mm_H} {a ci N n0 : Nat} {fs : List Value} {hi : List mm_E} (s : IS h0 h a ci N n0 fs hi) {n k : Nat} {v : Value} (hn : a < n) (hk : k < N) : ∃ h1, wrF h n a ci k v = some h1 ∧ IS h0 h1 a ci N n0 (fs.set k v) hi := by
  have h1 := s.lt
  refine ⟨mm_up h a (.inr (ci, fs.set k v)), ?_, ⟨fun b hb hba => by rw [mm_up_n hba]; exact s.fr b hb hba, mm_up_s, fun i e q => by rw [mm_up_n (by omega)]; exact s.nw i e q, by rw [List.length_set]; exact s.ln, h1, s.ge, s.bd⟩⟩
  unfold wrF
  rw [if_pos ⟨s.ge, hn⟩, s.ob, mm_sf_eq s.ob]
  exact if_pos ⟨rfl, by rw [s.ln]; exact hk⟩
theorem IS.rd_ {h0 h : mm_H} {a ci N n0 : Nat} {fs : List Value} {hi : List mm_E} (s : IS h0 h a ci N n0 fs hi) {n k x : Nat} (hn : a < n) (hk : fs[k]? = some (.ref x)) : rdR h n a ci k = some (some x) := by
  unfold rdR
  rw [if_pos ⟨s.ge, hn⟩, s.ob]
  dsimp only
  rw [if_pos rfl, hk]
/-- a loop that fills an int array -/
theorem fill_lp {K n a N : Nat} {v l3 : Int32} (ha : 48 ≤ a ∧ a < n) (hN : N < 2 ^ 31) (hl : l3 = Int32.ofNat N) : ∀ (k i : Nat) (h : mm_H) (f : Nat → Int32), h a = .inl (.int, N, .inl f) → i ≤ N → N - i < k → lp_J7_fill_53178_5 K n a v l3 k (Int32.ofNat i) h = some (mm_up h a (.inl (.int, N, .inl (fun j => if i ≤ j ∧ j < N then v else f j)))) := by
  intro k
  induction k with
  | zero => intro i h f _ _ q; omega
  | succ k ih =>
    intro i h f hf hi hk
    unfold lp_J7_fill_53178_5
    by_cases hiN : i = N
    · subst hiN
      rw [hl, if_pos (Int32.le_refl _)]
      congr 1
      funext b
      unfold mm_up
      split
      · rename_i q
        rw [q, hf]
        congr 4
        funext j
        rw [if_neg (by omega)]
      · rfl
    · rw [hl, if_neg (by rw [Int32.le_iff_toInt_le, Int32.toInt_ofNat_of_lt hN, Int32.toInt_ofNat_of_lt (by omega)]; omega)]
      have e1 : stI h n a (Int32.ofNat i) v = some (mm_up h a (.inl (.int, N, .inl (upd f i v)))) := by
        unfold stI
        rw [if_pos ha, hf]
        dsimp only
        have hc : (Int32.ofNat i).toNatClampNeg = i := Int32.toNatClampNeg_ofNat_of_lt (by omega)
        rw [if_pos (by unfold inb; rw [Int32.toInt_ofNat_of_lt (by omega)]; simp; omega), hc, mm_si_eq hf]
      rw [e1, Option.bind_some]
      have e2 : Int32.ofNat i + 1 = Int32.ofNat (i + 1) := (Int32.ofNat_add i 1).symm
      rw [e2, ← hl, ih (i + 1) _ _ mm_up_s (by omega) (by omega)]
      congr 1
      funext b
      unfold mm_up
      by_cases q : b = a
      · rw [if_pos q, if_pos q]
        congr 4
        funext j
        by_cases hj : j = i
        · subst hj
          rw [if_neg (by omega), if_pos (by omega)]
          simp [upd]
        · unfold upd
          rw [if_neg hj]
          by_cases hj2 : i ≤ j ∧ j < N
          · rw [if_pos hj2, if_pos (by omega)]
          · rw [if_neg hj2, if_neg (by omega)]
      · rw [if_neg q, if_neg q, if_neg q]
theorem IS.st_ {h0 h : mm_H} {a ci N0 n0 : Nat} {fs : List Value} {hi : List mm_E} (s : IS h0 h a ci N0 n0 fs hi) {j b : Nat} (e : mm_E) (hj : j < hi.length) (hb : b = n0 + (hi.length - 1 - j)) (hlen : hi.length < 100000) : IS h0 (mm_up h b e) a ci N0 n0 fs (hi.set j e) := by
  subst hb
  have h1 := s.lt
  have h9 := s.bd
  refine ⟨fun b hb hba => by rw [mm_up_n (by omega)]; exact s.fr b hb hba, by rw [mm_up_n (by omega)]; exact s.ob, fun i e2 q => ?_, s.ln, h1, s.ge, s.bd⟩
  rw [List.length_set]
  by_cases hij : i = j
  · subst hij
    rw [List.getElem?_set_self hj] at q
    cases q
    exact mm_up_s
  · rw [List.getElem?_set_ne (Ne.symm hij)] at q
    have h2 := (List.getElem?_eq_some_iff.mp q).1
    rw [mm_up_n (by omega)]
    exact s.nw i e2 q
theorem IS.fl_ {h0 h : mm_H} {a ci N0 n0 K : Nat} {fs : List Value} {t : List mm_E} {N : Nat} {f : Nat → Int32} (s : IS h0 h a ci N0 n0 fs (.inl (.int, N, .inl f) :: t)) {n b : Nat} {v : Int32} (hK : 3000 ≤ K) (hb : b = n0 + t.length) (hn : b < n) (hN : N < 3000) (hlen : t.length < 99999 := by exact Nat.le_of_ble_eq_true rfl) : ∃ h1, q_J7_fill_53178 K h n (some b) v = some h1 ∧ IS h0 h1 a ci N0 n0 fs (.inl (.int, N, .inl (fun i => if i < N then v else f i)) :: t) := by
  have h1 := s.lt
  have h2 := s.ge
  have hv := s.ny hb
  have e0 : lenA h n b 0 = some (Int32.ofNat N) := by
    unfold lenA
    rw [if_pos ⟨by omega, hn⟩, hv]
    rfl
  have e1 := fill_lp (K := K) (v := v) (l3 := Int32.ofNat N) (a := b) (n := n) ⟨by omega, hn⟩ (by omega) rfl K 0 h f hv (Nat.zero_le _) (by omega)
  refine ⟨_, ?_, s.st_ (j := 0) (b := b) _ (by rw [List.length_cons]; omega) (by rw [List.length_cons]; omega) (by rw [List.length_cons]; omega)⟩
  unfold q_J7_fill_53178
  rw [Option.bind_some, e0, Option.bind_some]
  rw [show (0 : Int32) = Int32.ofNat 0 from rfl, e1, Option.bind_some]
  have e9 : (fun j => if 0 ≤ j ∧ j < N then v else f j) = (fun i => if i < N then v else f i) := by funext i; simp
  rw [e9]
/-- a constructor inside: its object was the cell made last -/
theorem IS.sb_ {h0 h h' : mm_H} {a ci N n0 : Nat} {fs : List Value} {t : List mm_E} {e0 : mm_E} (s : IS h0 h a ci N n0 fs (e0 :: t)) {n a' ci' N' : Nat} {fs' : List Value} {hi' : List mm_E} (q : IS h h' a' ci' N' n fs' hi') (ha : a' = n0 + t.length) (hn : n = n0 + t.length + 1) : IS h0 h' a ci N n0 fs (hi' ++ .inr (ci', fs') :: t) := by
  subst ha
  subst hn
  have h1 := s.lt
  have h9 := q.bd
  refine ⟨fun b hb hba => (q.fr b (by omega) (by omega)).trans (s.fr b hb hba), (q.fr a (by omega) (by omega)).trans s.ob, fun i e z => ?_, s.ln, h1, s.ge, s.bd⟩
  rw [List.length_append, List.length_cons]
  by_cases hi1 : i < hi'.length
  · rw [List.getElem?_append_left hi1] at z
    have := q.nw i e z
    rw [show n0 + (hi'.length + (t.length + 1) - 1 - i) = n0 + t.length + 1 + (hi'.length - 1 - i) by omega]
    exact this
  · rw [List.getElem?_append_right (by omega)] at z
    by_cases h3 : i = hi'.length
    · subst h3
      rw [Nat.sub_self] at z
      cases z
      rw [show hi'.length + (t.length + 1) - 1 - hi'.length = t.length by omega]
      exact q.ob
    · obtain ⟨k, hk⟩ : ∃ k, i - hi'.length = k + 1 := ⟨i - hi'.length - 1, by omega⟩
      rw [hk, List.getElem?_cons_succ] at z
      have h4 := (List.getElem?_eq_some_iff.mp z).1
      rw [show hi'.length + (t.length + 1) - 1 - i = t.length - 1 - k by omega, q.fr _ (by omega) (by omega)]
      have := s.nw (k + 1) e (by rw [List.getElem?_cons_succ]; exact z)
      rw [List.length_cons, show t.length + 1 - 1 - (k + 1) = t.length - 1 - k by omega] at this
      exact this
theorem bnd {α β : Type} {o : Option α} {f : α → Option β} {a : α} {r : β} (e : o = some a) (h : f a = some r) : o.bind f = some r := by rw [e]; exact h

def fsn_X0 (n : Nat) : List Value := [(.ref n), (.ref (n + 1)), (.ref (n + 2)), (.ref (n + 3)), .int 0]
def fin_X0 (n : Nat) : List mm_E := [.inl (.int, 2805, .inl (fun i => if i < 2805 then (-1) else 0)),
    .inl (.int, 500, .inl (fun _ => 0)),
    .inl (.int, 500, .inl (fun _ => 0)),
    .inl (.int, 500, .inl (fun _ => 0))]
set_option maxRecDepth 100000 in
set_option maxHeartbeats 4000000 in
theorem i_X0 {K : Nat} (hK : 3000 ≤ K) {h : mm_H} {n a : Nat} (ha : 48 ≤ a) (hn : a < n) (hz_ : n ≤ 1000) (ho : h a = .inr (0, [.null, .null, .null, .null, .int 0])) : ∃ h1, q_X0_init K h n a = some (h1, n + 4) ∧ IS h h1 a 0 5 n (fsn_X0 n) (fin_X0 n) := by
  have s0 : IS h h a 0 5 n [.null, .null, .null, .null, .int 0] [] := IS.go_ ha hn ho rfl (by omega)
  obtain ⟨h1, e1, s1⟩ := s0.nI (n := n) (ty := .int) (N := 500) (i := 500) (M := 500) rfl ⟨by decide, by decide⟩ (by decide)
  obtain ⟨h3, e2, s2⟩ := s1.wr_ (n := (n + 1)) (k := 0) (v := (.ref n)) (Nat.lt_add_right 1 hn) (by decide)
  obtain ⟨h5, e3, s3⟩ := s2.nI (n := (n + 1)) (ty := .int) (N := 500) (i := 500) (M := 500) rfl ⟨by decide, by decide⟩ (by decide)
  obtain ⟨h7, e4, s4⟩ := s3.wr_ (n := (n + 2)) (k := 1) (v := (.ref (n + 1))) (Nat.lt_add_right 2 hn) (by decide)
  obtain ⟨h9, e5, s5⟩ := s4.nI (n := (n + 2)) (ty := .int) (N := 500) (i := 500) (M := 500) rfl ⟨by decide, by decide⟩ (by decide)
  obtain ⟨h11, e6, s6⟩ := s5.wr_ (n := (n + 3)) (k := 2) (v := (.ref (n + 2))) (Nat.lt_add_right 3 hn) (by decide)
  obtain ⟨h13, e7, s7⟩ := s6.nI (n := (n + 3)) (ty := .int) (N := 2805) (i := 2805) (M := 2805) rfl ⟨by decide, by decide⟩ (by decide)
  obtain ⟨h15, e8, s8⟩ := s7.wr_ (n := (n + 4)) (k := 3) (v := (.ref (n + 3))) (Nat.lt_add_right 4 hn) (by decide)
  have e9 := s8.rd_ (n := (n + 4)) (k := 3) (x := (n + 3)) (Nat.lt_add_right 4 hn) rfl
  have s9 := s8
  obtain ⟨v19, e10, s10⟩ := s9.fl_ (K := K) (n := (n + 4)) (b := (n + 3)) (v := (-1)) hK rfl (Nat.add_lt_add_left (by decide) n) (by decide)
  exact ⟨v19, (by unfold q_X0_init; exact bnd e1 (bnd e2 (bnd e3 (bnd e4 (bnd e5 (bnd e6 (bnd e7 (bnd e8 (bnd e9 (bnd e10 ( rfl))))))))))), s10⟩
def fsn_X1 (n : Nat) : List Value := [(.ref n), (.ref (n + 1)), (.ref (n + 2)), (.ref (n + 3)), (.ref (n + 4)), .int 0]
def fin_X1 (n : Nat) : List mm_E := [.inl (.int, 20, .inl (fun _ => 0)),
    .inl (.int, 20, .inl (fun _ => 0)),
    .inl (.int, 20, .inl (fun _ => 0)),
    .inl (.int, 20, .inl (fun _ => 0)),
    .inl (.int, 20, .inl (fun _ => 0))]
set_option maxRecDepth 100000 in
set_option maxHeartbeats 4000000 in
theorem i_X1 {K : Nat} (hK : 3000 ≤ K) {h : mm_H} {n a : Nat} (ha : 48 ≤ a) (hn : a < n) (hz_ : n ≤ 1000) (ho : h a = .inr (1, [.null, .null, .null, .null, .null, .int 0])) : ∃ h1, q_X1_init K h n a = some (h1, n + 5) ∧ IS h h1 a 1 6 n (fsn_X1 n) (fin_X1 n) := by
  have s0 : IS h h a 1 6 n [.null, .null, .null, .null, .null, .int 0] [] := IS.go_ ha hn ho rfl (by omega)
  obtain ⟨h1, e1, s1⟩ := s0.nI (n := n) (ty := .int) (N := 20) (i := 20) (M := 20) rfl ⟨by decide, by decide⟩ (by decide)
  obtain ⟨h3, e2, s2⟩ := s1.wr_ (n := (n + 1)) (k := 0) (v := (.ref n)) (Nat.lt_add_right 1 hn) (by decide)
  obtain ⟨h5, e3, s3⟩ := s2.nI (n := (n + 1)) (ty := .int) (N := 20) (i := 20) (M := 20) rfl ⟨by decide, by decide⟩ (by decide)
  obtain ⟨h7, e4, s4⟩ := s3.wr_ (n := (n + 2)) (k := 1) (v := (.ref (n + 1))) (Nat.lt_add_right 2 hn) (by decide)
  obtain ⟨h9, e5, s5⟩ := s4.nI (n := (n + 2)) (ty := .int) (N := 20) (i := 20) (M := 20) rfl ⟨by decide, by decide⟩ (by decide)
  obtain ⟨h11, e6, s6⟩ := s5.wr_ (n := (n + 3)) (k := 2) (v := (.ref (n + 2))) (Nat.lt_add_right 3 hn) (by decide)
  obtain ⟨h13, e7, s7⟩ := s6.nI (n := (n + 3)) (ty := .int) (N := 20) (i := 20) (M := 20) rfl ⟨by decide, by decide⟩ (by decide)
  obtain ⟨h15, e8, s8⟩ := s7.wr_ (n := (n + 4)) (k := 3) (v := (.ref (n + 3))) (Nat.lt_add_right 4 hn) (by decide)
  obtain ⟨h17, e9, s9⟩ := s8.nI (n := (n + 4)) (ty := .int) (N := 20) (i := 20) (M := 20) rfl ⟨by decide, by decide⟩ (by decide)
  obtain ⟨h19, e10, s10⟩ := s9.wr_ (n := (n + 5)) (k := 4) (v := (.ref (n + 4))) (Nat.lt_add_right 5 hn) (by decide)
  exact ⟨h19, (by unfold q_X1_init; exact bnd e1 (bnd e2 (bnd e3 (bnd e4 (bnd e5 (bnd e6 (bnd e7 (bnd e8 (bnd e9 (bnd e10 ( rfl))))))))))), s10⟩
def fsn_X2 (n : Nat) (r1 : Nat) : List Value := [.ref r1, (.ref n), (.ref (n + 1)), (.ref (n + 2)), .int 0, .long 0, .long 0, .long 0, .long 0, .long 0]
def fin_X2 (n : Nat) (r1 : Nat) : List mm_E := [.inl (.int, 50, .inl (fun _ => 0)),
    .inl (.int, 50, .inl (fun _ => 0)),
    .inl (.int, 50, .inl (fun _ => 0))]
set_option maxRecDepth 100000 in
set_option maxHeartbeats 4000000 in
theorem i_X2 {K : Nat} (hK : 3000 ≤ K) {h : mm_H} {n a : Nat} {r1 : Nat} (ha : 48 ≤ a) (hn : a < n) (hz_ : n ≤ 1000) (ho : h a = .inr (2, [.null, .null, .null, .null, .int 0, .long 0, .long 0, .long 0, .long 0, .long 0])) : ∃ h1, q_X2_init K h n a (some r1) = some (h1, n + 3) ∧ IS h h1 a 2 10 n (fsn_X2 n r1) (fin_X2 n r1) := by
  have s0 : IS h h a 2 10 n [.null, .null, .null, .null, .int 0, .long 0, .long 0, .long 0, .long 0, .long 0] [] := IS.go_ ha hn ho rfl (by omega)
  obtain ⟨h1, e1, s1⟩ := s0.nI (n := n) (ty := .int) (N := 50) (i := 50) (M := 50) rfl ⟨by decide, by decide⟩ (by decide)
  obtain ⟨h3, e2, s2⟩ := s1.wr_ (n := (n + 1)) (k := 1) (v := (.ref n)) (Nat.lt_add_right 1 hn) (by decide)
  obtain ⟨h5, e3, s3⟩ := s2.nI (n := (n + 1)) (ty := .int) (N := 50) (i := 50) (M := 50) rfl ⟨by decide, by decide⟩ (by decide)
  obtain ⟨h7, e4, s4⟩ := s3.wr_ (n := (n + 2)) (k := 2) (v := (.ref (n + 1))) (Nat.lt_add_right 2 hn) (by decide)
  obtain ⟨h9, e5, s5⟩ := s4.nI (n := (n + 2)) (ty := .int) (N := 50) (i := 50) (M := 50) rfl ⟨by decide, by decide⟩ (by decide)
  obtain ⟨h11, e6, s6⟩ := s5.wr_ (n := (n + 3)) (k := 3) (v := (.ref (n + 2))) (Nat.lt_add_right 3 hn) (by decide)
  obtain ⟨h13, e7, s7⟩ := s6.wr_ (n := (n + 3)) (k := 0) (v := (va_rf (some r1))) (Nat.lt_add_right 3 hn) (by decide)
  exact ⟨h13, (by unfold q_X2_init; exact bnd e1 (bnd e2 (bnd e3 (bnd e4 (bnd e5 (bnd e6 (bnd e7 ( rfl)))))))), s7⟩
def fsn_X3 (n : Nat) : List Value := [(.ref 2), .int 0, .int 0, .int 0, .int 0, (.int (-1)), (.ref n), .int 0, (.ref (n + 1)), .int 0, (.ref (n + 2)), .int 0]
def fin_X3 (n : Nat) : List mm_E := [.inl (.int, 900, .inl (fun _ => 0)),
    .inl ((.object "WaterReview$Rule"), 30, .inr (.inr (.inr (.inr (fun _ => none))))),
    .inl (.int, 270, .inl (fun _ => 0))]
set_option maxRecDepth 100000 in
set_option maxHeartbeats 4000000 in
theorem i_X3 {K : Nat} (hK : 3000 ≤ K) {h : mm_H} {n a : Nat} (ha : 48 ≤ a) (hn : a < n) (hz_ : n ≤ 1000) (ho : h a = .inr (3, [.null, .int 0, .int 0, .int 0, .int 0, .int 0, .null, .int 0, .null, .int 0, .null, .int 0])) : ∃ h1, q_X3_init K h n a = some (h1, n + 3) ∧ IS h h1 a 3 12 n (fsn_X3 n) (fin_X3 n) := by
  have s0 : IS h h a 3 12 n [.null, .int 0, .int 0, .int 0, .int 0, .int 0, .null, .int 0, .null, .int 0, .null, .int 0] [] := IS.go_ ha hn ho rfl (by omega)
  obtain ⟨h1, e1, s1⟩ := s0.wr_ (n := n) (k := 0) (v := (.ref 2)) hn (by decide)
  obtain ⟨h3, e2, s2⟩ := s1.wr_ (n := n) (k := 5) (v := (.int (-1))) hn (by decide)
  obtain ⟨h5, e3, s3⟩ := s2.nI (n := n) (ty := .int) (N := 270) (i := 270) (M := 270) rfl ⟨by decide, by decide⟩ (by decide)
  obtain ⟨h7, e4, s4⟩ := s3.wr_ (n := (n + 1)) (k := 6) (v := (.ref n)) (Nat.lt_add_right 1 hn) (by decide)
  obtain ⟨h9, e5, s5⟩ := s4.nA (n := (n + 1)) (ty := (.object "WaterReview$Rule")) (N := 30) (i := 30) (M := 30) rfl ⟨by decide, by decide⟩ (by decide)
  obtain ⟨h11, e6, s6⟩ := s5.wr_ (n := (n + 2)) (k := 8) (v := (.ref (n + 1))) (Nat.lt_add_right 2 hn) (by decide)
  obtain ⟨h13, e7, s7⟩ := s6.nI (n := (n + 2)) (ty := .int) (N := 900) (i := 900) (M := 900) rfl ⟨by decide, by decide⟩ (by decide)
  obtain ⟨h15, e8, s8⟩ := s7.wr_ (n := (n + 3)) (k := 10) (v := (.ref (n + 2))) (Nat.lt_add_right 3 hn) (by decide)
  exact ⟨h15, (by unfold q_X3_init; exact bnd e1 (bnd e2 (bnd e3 (bnd e4 (bnd e5 (bnd e6 (bnd e7 (bnd e8 ( rfl))))))))), s8⟩
def fsn_X9 (n : Nat) : List Value := [(.ref n), (.ref (n + 1)), (.ref (n + 2)), (.ref (n + 3)), .int 0, .int 0]
def fin_X9 (n : Nat) : List mm_E := [.inl (.int, 40, .inl (fun _ => 0)),
    .inl (.int, 40, .inl (fun _ => 0)),
    .inl (.int, 40, .inl (fun _ => 0)),
    .inl (.int, 40, .inl (fun _ => 0))]
set_option maxRecDepth 100000 in
set_option maxHeartbeats 4000000 in
theorem i_X9 {K : Nat} (hK : 3000 ≤ K) {h : mm_H} {n a : Nat} (ha : 48 ≤ a) (hn : a < n) (hz_ : n ≤ 1000) (ho : h a = .inr (8, [.null, .null, .null, .null, .int 0, .int 0])) : ∃ h1, q_X9_init K h n a = some (h1, n + 4) ∧ IS h h1 a 8 6 n (fsn_X9 n) (fin_X9 n) := by
  have s0 : IS h h a 8 6 n [.null, .null, .null, .null, .int 0, .int 0] [] := IS.go_ ha hn ho rfl (by omega)
  obtain ⟨h1, e1, s1⟩ := s0.nI (n := n) (ty := .int) (N := 40) (i := 40) (M := 40) rfl ⟨by decide, by decide⟩ (by decide)
  obtain ⟨h3, e2, s2⟩ := s1.wr_ (n := (n + 1)) (k := 0) (v := (.ref n)) (Nat.lt_add_right 1 hn) (by decide)
  obtain ⟨h5, e3, s3⟩ := s2.nI (n := (n + 1)) (ty := .int) (N := 40) (i := 40) (M := 40) rfl ⟨by decide, by decide⟩ (by decide)
  obtain ⟨h7, e4, s4⟩ := s3.wr_ (n := (n + 2)) (k := 1) (v := (.ref (n + 1))) (Nat.lt_add_right 2 hn) (by decide)
  obtain ⟨h9, e5, s5⟩ := s4.nI (n := (n + 2)) (ty := .int) (N := 40) (i := 40) (M := 40) rfl ⟨by decide, by decide⟩ (by decide)
  obtain ⟨h11, e6, s6⟩ := s5.wr_ (n := (n + 3)) (k := 2) (v := (.ref (n + 2))) (Nat.lt_add_right 3 hn) (by decide)
  obtain ⟨h13, e7, s7⟩ := s6.nI (n := (n + 3)) (ty := .int) (N := 40) (i := 40) (M := 40) rfl ⟨by decide, by decide⟩ (by decide)
  obtain ⟨h15, e8, s8⟩ := s7.wr_ (n := (n + 4)) (k := 3) (v := (.ref (n + 3))) (Nat.lt_add_right 4 hn) (by decide)
  exact ⟨h15, (by unfold q_X9_init; exact bnd e1 (bnd e2 (bnd e3 (bnd e4 (bnd e5 (bnd e6 (bnd e7 (bnd e8 ( rfl))))))))), s8⟩
def fsn_X4 (n : Nat) : List Value := [(.ref n), (.ref (n + 1)), (.ref ((n + 2) + 4)), (.ref ((((n + 2) + 4) + 1) + 4)), (.ref ((((((n + 2) + 4) + 1) + 4) + 1) + 5)), .int 0, .int 0]
def fin_X4 (n : Nat) : List mm_E := [.inl (.int, 20, .inl (fun _ => 0)),
    .inl (.int, 20, .inl (fun _ => 0)),
    .inl (.int, 20, .inl (fun _ => 0)),
    .inl (.int, 20, .inl (fun _ => 0)),
    .inl (.int, 20, .inl (fun _ => 0)),
    .inr (1, [(.ref (((((((n + 2) + 4) + 1) + 4) + 1) + 5) + 1)), (.ref ((((((((n + 2) + 4) + 1) + 4) + 1) + 5) + 1) + 1)), (.ref ((((((((n + 2) + 4) + 1) + 4) + 1) + 5) + 1) + 2)), (.ref ((((((((n + 2) + 4) + 1) + 4) + 1) + 5) + 1) + 3)), (.ref ((((((((n + 2) + 4) + 1) + 4) + 1) + 5) + 1) + 4)), .int 0]),
    .inl (.int, 20, .inl (fun _ => 0)),
    .inl (.int, 20, .inl (fun _ => 0)),
    .inl (.int, 20, .inl (fun _ => 0)),
    .inl (.int, 20, .inl (fun _ => 0)),
    .inl (.int, 20, .inl (fun _ => 0)),
    .inr (1, [(.ref (((((n + 2) + 4) + 1) + 4) + 1)), (.ref ((((((n + 2) + 4) + 1) + 4) + 1) + 1)), (.ref ((((((n + 2) + 4) + 1) + 4) + 1) + 2)), (.ref ((((((n + 2) + 4) + 1) + 4) + 1) + 3)), (.ref ((((((n + 2) + 4) + 1) + 4) + 1) + 4)), .int 0]),
    .inl (.int, 40, .inl (fun _ => 0)),
    .inl (.int, 40, .inl (fun _ => 0)),
    .inl (.int, 40, .inl (fun _ => 0)),
    .inl (.int, 40, .inl (fun _ => 0)),
    .inr (8, [(.ref (((n + 2) + 4) + 1)), (.ref ((((n + 2) + 4) + 1) + 1)), (.ref ((((n + 2) + 4) + 1) + 2)), (.ref ((((n + 2) + 4) + 1) + 3)), .int 0, .int 0]),
    .inl (.int, 2805, .inl (fun i => if i < 2805 then (-1) else 0)),
    .inl (.int, 500, .inl (fun _ => 0)),
    .inl (.int, 500, .inl (fun _ => 0)),
    .inl (.int, 500, .inl (fun _ => 0)),
    .inr (0, [(.ref (n + 2)), (.ref ((n + 2) + 1)), (.ref ((n + 2) + 2)), (.ref ((n + 2) + 3)), .int 0]),
    .inl (.int, 11, .inl (fun _ => 0))]
set_option maxRecDepth 100000 in
set_option maxHeartbeats 4000000 in
theorem i_X4 {K : Nat} (hK : 3000 ≤ K) {h : mm_H} {n a : Nat} (ha : 48 ≤ a) (hn : a < n) (hz_ : n ≤ 800) (ho : h a = .inr (4, [.null, .null, .null, .null, .null, .int 0, .int 0])) : ∃ h1, q_X4_init K h n a = some (h1, n + 23) ∧ IS h h1 a 4 7 n (fsn_X4 n) (fin_X4 n) := by
  have s0 : IS h h a 4 7 n [.null, .null, .null, .null, .null, .int 0, .int 0] [] := IS.go_ ha hn ho rfl (by omega)
  obtain ⟨h1, e1, s1⟩ := s0.nI (n := n) (ty := .int) (N := 11) (i := 11) (M := 11) rfl ⟨by decide, by decide⟩ (by decide)
  obtain ⟨h3, e2, s2⟩ := s1.wr_ (n := (n + 1)) (k := 0) (v := (.ref n)) (Nat.lt_add_right 1 hn) (by decide)
  obtain ⟨h5, e3, s3⟩ := s2.nO (n := (n + 1)) (ci := 0) (fs := [.null, .null, .null, .null, .int 0]) rfl
  obtain ⟨h7, e4, t4⟩ := i_X0 (K := K) hK (h := h5) (n := (n + 2)) (a := (n + 1)) (by omega) (by omega) (by omega) (s3.ny rfl)
  have s4 := s3.sb_ (n := (n + 2)) t4 rfl rfl
  obtain ⟨h12, e5, s5⟩ := s4.wr_ (n := ((n + 2) + 4)) (k := 1) (v := (.ref (n + 1))) (by omega) (by decide)
  obtain ⟨h14, e6, s6⟩ := s5.nO (n := ((n + 2) + 4)) (ci := 8) (fs := [.null, .null, .null, .null, .int 0, .int 0]) rfl
  obtain ⟨h16, e7, t7⟩ := i_X9 (K := K) hK (h := h14) (n := (((n + 2) + 4) + 1)) (a := ((n + 2) + 4)) (by omega) (by omega) (by omega) (s6.ny rfl)
  have s7 := s6.sb_ (n := (((n + 2) + 4) + 1)) t7 rfl rfl
  obtain ⟨h21, e8, s8⟩ := s7.wr_ (n := ((((n + 2) + 4) + 1) + 4)) (k := 2) (v := (.ref ((n + 2) + 4))) (by omega) (by decide)
  obtain ⟨h23, e9, s9⟩ := s8.nO (n := ((((n + 2) + 4) + 1) + 4)) (ci := 1) (fs := [.null, .null, .null, .null, .null, .int 0]) rfl
  obtain ⟨h25, e10, t10⟩ := i_X1 (K := K) hK (h := h23) (n := (((((n + 2) + 4) + 1) + 4) + 1)) (a := ((((n + 2) + 4) + 1) + 4)) (by omega) (by omega) (by omega) (s9.ny rfl)
  have s10 := s9.sb_ (n := (((((n + 2) + 4) + 1) + 4) + 1)) t10 rfl rfl
  obtain ⟨h30, e11, s11⟩ := s10.wr_ (n := ((((((n + 2) + 4) + 1) + 4) + 1) + 5)) (k := 3) (v := (.ref ((((n + 2) + 4) + 1) + 4))) (by omega) (by decide)
  obtain ⟨h32, e12, s12⟩ := s11.nO (n := ((((((n + 2) + 4) + 1) + 4) + 1) + 5)) (ci := 1) (fs := [.null, .null, .null, .null, .null, .int 0]) rfl
  obtain ⟨h34, e13, t13⟩ := i_X1 (K := K) hK (h := h32) (n := (((((((n + 2) + 4) + 1) + 4) + 1) + 5) + 1)) (a := ((((((n + 2) + 4) + 1) + 4) + 1) + 5)) (by omega) (by omega) (by omega) (s12.ny rfl)
  have s13 := s12.sb_ (n := (((((((n + 2) + 4) + 1) + 4) + 1) + 5) + 1)) t13 rfl rfl
  obtain ⟨h39, e14, s14⟩ := s13.wr_ (n := ((((((((n + 2) + 4) + 1) + 4) + 1) + 5) + 1) + 5)) (k := 4) (v := (.ref ((((((n + 2) + 4) + 1) + 4) + 1) + 5))) (by omega) (by decide)
  exact ⟨h39, (by unfold q_X4_init; exact bnd e1 (bnd e2 (bnd e3 (bnd e4 (bnd e5 (bnd e6 (bnd e7 (bnd e8 (bnd e9 (bnd e10 (bnd e11 (bnd e12 (bnd e13 (bnd e14 ( rfl))))))))))))))), s14⟩
def fsn_X7 (n : Nat) (r1 : Nat) : List Value := [.ref r1, (.ref (n + 69)), (.ref n), (.ref (n + 1)), (.ref (n + 17)), (.ref (n + 33)), (.ref (n + 34)), (.ref (n + 50)), (.ref (n + 66)), (.ref (n + 67)), (.ref (n + 68)), .int 0, .int 0]
def fin_X7 (n : Nat) (r1 : Nat) : List mm_E := [.inl (.int, 50, .inl (fun _ => 0)),
    .inl (.int, 50, .inl (fun _ => 0)),
    .inl (.int, 50, .inl (fun _ => 0)),
    .inr (2, [.ref r1, (.ref (n + 70)), (.ref ((n + 70) + 1)), (.ref ((n + 70) + 2)), .int 0, .long 0, .long 0, .long 0, .long 0, .long 0]),
    .inl (.long, 5, .inr (.inl (fun _ => 0))),
    .inl (.long, 15, .inr (.inl (fun _ => 0))),
    .inl (.long, 15, .inr (.inl (fun _ => 0))),
    .inl (.long, 15, .inr (.inl (fun _ => 0))),
    .inl (.long, 15, .inr (.inl (fun _ => 0))),
    .inl (.long, 15, .inr (.inl (fun _ => 0))),
    .inl (.long, 15, .inr (.inl (fun _ => 0))),
    .inl (.long, 15, .inr (.inl (fun _ => 0))),
    .inl (.long, 15, .inr (.inl (fun _ => 0))),
    .inl (.long, 15, .inr (.inl (fun _ => 0))),
    .inl (.long, 15, .inr (.inl (fun _ => 0))),
    .inl (.long, 15, .inr (.inl (fun _ => 0))),
    .inl (.long, 15, .inr (.inl (fun _ => 0))),
    .inl (.long, 15, .inr (.inl (fun _ => 0))),
    .inl (.long, 15, .inr (.inl (fun _ => 0))),
    .inl (.long, 15, .inr (.inl (fun _ => 0))),
    .inl (.long, 15, .inr (.inl (fun _ => 0))),
    .inl (.long, 15, .inr (.inl (fun _ => 0))),
    .inl (.array .long, 15, .inr (.inr (.inr (.inr (fun j => if j < 15 then some ((n + 50) + 1 + j) else none))))),
    .inl (.long, 4, .inr (.inl (fun _ => 0))),
    .inl (.long, 4, .inr (.inl (fun _ => 0))),
    .inl (.long, 4, .inr (.inl (fun _ => 0))),
    .inl (.long, 4, .inr (.inl (fun _ => 0))),
    .inl (.long, 4, .inr (.inl (fun _ => 0))),
    .inl (.long, 4, .inr (.inl (fun _ => 0))),
    .inl (.long, 4, .inr (.inl (fun _ => 0))),
    .inl (.long, 4, .inr (.inl (fun _ => 0))),
    .inl (.long, 4, .inr (.inl (fun _ => 0))),
    .inl (.long, 4, .inr (.inl (fun _ => 0))),
    .inl (.long, 4, .inr (.inl (fun _ => 0))),
    .inl (.long, 4, .inr (.inl (fun _ => 0))),
    .inl (.long, 4, .inr (.inl (fun _ => 0))),
    .inl (.long, 4, .inr (.inl (fun _ => 0))),
    .inl (.long, 4, .inr (.inl (fun _ => 0))),
    .inl (.array .long, 15, .inr (.inr (.inr (.inr (fun j => if j < 15 then some ((n + 34) + 1 + j) else none))))),
    .inl (.long, 16, .inr (.inl (fun _ => 0))),
    .inl (.int, 9, .inl (fun _ => 0)),
    .inl (.int, 9, .inl (fun _ => 0)),
    .inl (.int, 9, .inl (fun _ => 0)),
    .inl (.int, 9, .inl (fun _ => 0)),
    .inl (.int, 9, .inl (fun _ => 0)),
    .inl (.int, 9, .inl (fun _ => 0)),
    .inl (.int, 9, .inl (fun _ => 0)),
    .inl (.int, 9, .inl (fun _ => 0)),
    .inl (.int, 9, .inl (fun _ => 0)),
    .inl (.int, 9, .inl (fun _ => 0)),
    .inl (.int, 9, .inl (fun _ => 0)),
    .inl (.int, 9, .inl (fun _ => 0)),
    .inl (.int, 9, .inl (fun _ => 0)),
    .inl (.int, 9, .inl (fun _ => 0)),
    .inl (.int, 9, .inl (fun _ => 0)),
    .inl (.array .int, 15, .inr (.inr (.inr (.inr (fun j => if j < 15 then some ((n + 17) + 1 + j) else none))))),
    .inl (.int, 17, .inl (fun _ => 0)),
    .inl (.int, 17, .inl (fun _ => 0)),
    .inl (.int, 17, .inl (fun _ => 0)),
    .inl (.int, 17, .inl (fun _ => 0)),
    .inl (.int, 17, .inl (fun _ => 0)),
    .inl (.int, 17, .inl (fun _ => 0)),
    .inl (.int, 17, .inl (fun _ => 0)),
    .inl (.int, 17, .inl (fun _ => 0)),
    .inl (.int, 17, .inl (fun _ => 0)),
    .inl (.int, 17, .inl (fun _ => 0)),
    .inl (.int, 17, .inl (fun _ => 0)),
    .inl (.int, 17, .inl (fun _ => 0)),
    .inl (.int, 17, .inl (fun _ => 0)),
    .inl (.int, 17, .inl (fun _ => 0)),
    .inl (.int, 17, .inl (fun _ => 0)),
    .inl (.array .int, 15, .inr (.inr (.inr (.inr (fun j => if j < 15 then some ((n + 1) + 1 + j) else none))))),
    .inl ((.object "WaterReview$RuleBook"), 3, .inr (.inr (.inr (.inr (fun _ => none)))))]
set_option maxRecDepth 100000 in
set_option maxHeartbeats 4000000 in
theorem i_X7 {K : Nat} (hK : 3000 ≤ K) {h : mm_H} {n a : Nat} {r1 : Nat} (ha : 48 ≤ a) (hn : a < n) (hz_ : n ≤ 800) (ho : h a = .inr (7, [.null, .null, .null, .null, .null, .null, .null, .null, .null, .null, .null, .int 0, .int 0])) : ∃ h1, q_X7_init K h n a (some r1) = some (h1, n + 73) ∧ IS h h1 a 7 13 n (fsn_X7 n r1) (fin_X7 n r1) := by
  have s0 : IS h h a 7 13 n [.null, .null, .null, .null, .null, .null, .null, .null, .null, .null, .null, .int 0, .int 0] [] := IS.go_ ha hn ho rfl (by omega)
  obtain ⟨h1, e1, s1⟩ := s0.nA (n := n) (ty := (.object "WaterReview$RuleBook")) (N := 3) (i := 3) (M := 3) rfl ⟨by decide, by decide⟩ (by decide)
  obtain ⟨h3, e2, s2⟩ := s1.wr_ (n := (n + 1)) (k := 2) (v := (.ref n)) (Nat.lt_add_right 1 hn) (by decide)
  obtain ⟨h5, e3, s3⟩ := s2.nMI (n := (n + 1)) (N := 15) (M := 17) rfl
  obtain ⟨h7, e4, s4⟩ := s3.wr_ (n := (n + 17)) (k := 3) (v := (.ref (n + 1))) (Nat.lt_add_right 17 hn) (by decide)
  obtain ⟨h9, e5, s5⟩ := s4.nMI (n := (n + 17)) (N := 15) (M := 9) rfl
  obtain ⟨h11, e6, s6⟩ := s5.wr_ (n := (n + 33)) (k := 4) (v := (.ref (n + 17))) (Nat.lt_add_right 33 hn) (by decide)
  obtain ⟨h13, e7, s7⟩ := s6.nJ (n := (n + 33)) (N := 16) (i := 16) (M := 16) rfl ⟨by decide, by decide⟩ (by decide)
  obtain ⟨h15, e8, s8⟩ := s7.wr_ (n := (n + 34)) (k := 5) (v := (.ref (n + 33))) (Nat.lt_add_right 34 hn) (by decide)
  obtain ⟨h17, e9, s9⟩ := s8.nMJ (n := (n + 34)) (N := 15) (M := 4) rfl
  obtain ⟨h19, e10, s10⟩ := s9.wr_ (n := (n + 50)) (k := 6) (v := (.ref (n + 34))) (Nat.lt_add_right 50 hn) (by decide)
  obtain ⟨h21, e11, s11⟩ := s10.nMJ (n := (n + 50)) (N := 15) (M := 15) rfl
  obtain ⟨h23, e12, s12⟩ := s11.wr_ (n := (n + 66)) (k := 7) (v := (.ref (n + 50))) (Nat.lt_add_right 66 hn) (by decide)
  obtain ⟨h25, e13, s13⟩ := s12.nJ (n := (n + 66)) (N := 15) (i := 15) (M := 15) rfl ⟨by decide, by decide⟩ (by decide)
  obtain ⟨h27, e14, s14⟩ := s13.wr_ (n := (n + 67)) (k := 8) (v := (.ref (n + 66))) (Nat.lt_add_right 67 hn) (by decide)
  obtain ⟨h29, e15, s15⟩ := s14.nJ (n := (n + 67)) (N := 15) (i := 15) (M := 15) rfl ⟨by decide, by decide⟩ (by decide)
  obtain ⟨h31, e16, s16⟩ := s15.wr_ (n := (n + 68)) (k := 9) (v := (.ref (n + 67))) (Nat.lt_add_right 68 hn) (by decide)
  obtain ⟨h33, e17, s17⟩ := s16.nJ (n := (n + 68)) (N := 5) (i := 5) (M := 5) rfl ⟨by decide, by decide⟩ (by decide)
  obtain ⟨h35, e18, s18⟩ := s17.wr_ (n := (n + 69)) (k := 10) (v := (.ref (n + 68))) (Nat.lt_add_right 69 hn) (by decide)
  obtain ⟨h37, e19, s19⟩ := s18.wr_ (n := (n + 69)) (k := 0) (v := (va_rf (some r1))) (Nat.lt_add_right 69 hn) (by decide)
  obtain ⟨h39, e20, s20⟩ := s19.nO (n := (n + 69)) (ci := 2) (fs := [.null, .null, .null, .null, .int 0, .long 0, .long 0, .long 0, .long 0, .long 0]) rfl
  obtain ⟨h41, e21, t21⟩ := i_X2 (K := K) hK (h := h39) (n := (n + 70)) (a := (n + 69)) (r1 := r1) (by omega) (by omega) (by omega) (s20.ny rfl)
  have s21 := s20.sb_ (n := (n + 70)) t21 rfl rfl
  obtain ⟨h46, e22, s22⟩ := s21.wr_ (n := ((n + 70) + 3)) (k := 1) (v := (.ref (n + 69))) (by omega) (by decide)
  exact ⟨h46, (by unfold q_X7_init; exact bnd e1 (bnd e2 (bnd e3 (bnd e4 (bnd e5 (bnd e6 (bnd e7 (bnd e8 (bnd e9 (bnd e10 (bnd e11 (bnd e12 (bnd e13 (bnd e14 (bnd e15 (bnd e16 (bnd e17 (bnd e18 (bnd e19 (bnd e20 (bnd e21 (bnd e22 ( rfl))))))))))))))))))))))), s22⟩
def fsn_X10 (n : Nat) : List Value := [(.ref n), (.ref ((n + 1) + 23)), (.ref ((((n + 1) + 23) + 1) + 73)), (.ref ((((((n + 1) + 23) + 1) + 73) + 1) + 3)), (.ref ((((((((n + 1) + 23) + 1) + 73) + 1) + 3) + 1) + 3)), .int 0, (.ref (((((((((n + 1) + 23) + 1) + 73) + 1) + 3) + 1) + 3) + 1)), .int 0, .null, (.ref (((((((((n + 1) + 23) + 1) + 73) + 1) + 3) + 1) + 3) + 2)), .int 0, (.ref (((((((((n + 1) + 23) + 1) + 73) + 1) + 3) + 1) + 3) + 3))]
def fin_X10 (n : Nat) : List mm_E := [.inl (.int, 15, .inl (fun _ => 0)),
    .inl ((.object "WaterReview$RuleBook"), 4, .inr (.inr (.inr (.inr (fun _ => none))))),
    .inl ((.object "WaterReview$RuleBook"), 8, .inr (.inr (.inr (.inr (fun _ => none))))),
    .inl (.int, 900, .inl (fun _ => 0)),
    .inl (.int, 900, .inl (fun _ => 0)),
    .inl ((.object "WaterReview$Rule"), 30, .inr (.inr (.inr (.inr (fun _ => none))))),
    .inl (.int, 270, .inl (fun _ => 0)),
    .inr (3, [(.ref 2), .int 0, .int 0, .int 0, .int 0, (.int (-1)), (.ref (((((((n + 1) + 23) + 1) + 73) + 1) + 3) + 1)), .int 0, (.ref ((((((((n + 1) + 23) + 1) + 73) + 1) + 3) + 1) + 1)), .int 0, (.ref ((((((((n + 1) + 23) + 1) + 73) + 1) + 3) + 1) + 2)), .int 0]),
    .inl (.int, 50, .inl (fun _ => 0)),
    .inl (.int, 50, .inl (fun _ => 0)),
    .inl (.int, 50, .inl (fun _ => 0)),
    .inr (2, [.ref n, (.ref (((((n + 1) + 23) + 1) + 73) + 1)), (.ref ((((((n + 1) + 23) + 1) + 73) + 1) + 1)), (.ref ((((((n + 1) + 23) + 1) + 73) + 1) + 2)), .int 0, .long 0, .long 0, .long 0, .long 0, .long 0]),
    .inl (.int, 50, .inl (fun _ => 0)),
    .inl (.int, 50, .inl (fun _ => 0)),
    .inl (.int, 50, .inl (fun _ => 0)),
    .inr (2, [.ref n, (.ref ((((n + 1) + 23) + 1) + 70)), (.ref (((((n + 1) + 23) + 1) + 70) + 1)), (.ref (((((n + 1) + 23) + 1) + 70) + 2)), .int 0, .long 0, .long 0, .long 0, .long 0, .long 0]),
    .inl (.long, 5, .inr (.inl (fun _ => 0))),
    .inl (.long, 15, .inr (.inl (fun _ => 0))),
    .inl (.long, 15, .inr (.inl (fun _ => 0))),
    .inl (.long, 15, .inr (.inl (fun _ => 0))),
    .inl (.long, 15, .inr (.inl (fun _ => 0))),
    .inl (.long, 15, .inr (.inl (fun _ => 0))),
    .inl (.long, 15, .inr (.inl (fun _ => 0))),
    .inl (.long, 15, .inr (.inl (fun _ => 0))),
    .inl (.long, 15, .inr (.inl (fun _ => 0))),
    .inl (.long, 15, .inr (.inl (fun _ => 0))),
    .inl (.long, 15, .inr (.inl (fun _ => 0))),
    .inl (.long, 15, .inr (.inl (fun _ => 0))),
    .inl (.long, 15, .inr (.inl (fun _ => 0))),
    .inl (.long, 15, .inr (.inl (fun _ => 0))),
    .inl (.long, 15, .inr (.inl (fun _ => 0))),
    .inl (.long, 15, .inr (.inl (fun _ => 0))),
    .inl (.long, 15, .inr (.inl (fun _ => 0))),
    .inl (.long, 15, .inr (.inl (fun _ => 0))),
    .inl (.array .long, 15, .inr (.inr (.inr (.inr (fun j => if j < 15 then some (((((n + 1) + 23) + 1) + 50) + 1 + j) else none))))),
    .inl (.long, 4, .inr (.inl (fun _ => 0))),
    .inl (.long, 4, .inr (.inl (fun _ => 0))),
    .inl (.long, 4, .inr (.inl (fun _ => 0))),
    .inl (.long, 4, .inr (.inl (fun _ => 0))),
    .inl (.long, 4, .inr (.inl (fun _ => 0))),
    .inl (.long, 4, .inr (.inl (fun _ => 0))),
    .inl (.long, 4, .inr (.inl (fun _ => 0))),
    .inl (.long, 4, .inr (.inl (fun _ => 0))),
    .inl (.long, 4, .inr (.inl (fun _ => 0))),
    .inl (.long, 4, .inr (.inl (fun _ => 0))),
    .inl (.long, 4, .inr (.inl (fun _ => 0))),
    .inl (.long, 4, .inr (.inl (fun _ => 0))),
    .inl (.long, 4, .inr (.inl (fun _ => 0))),
    .inl (.long, 4, .inr (.inl (fun _ => 0))),
    .inl (.long, 4, .inr (.inl (fun _ => 0))),
    .inl (.array .long, 15, .inr (.inr (.inr (.inr (fun j => if j < 15 then some (((((n + 1) + 23) + 1) + 34) + 1 + j) else none))))),
    .inl (.long, 16, .inr (.inl (fun _ => 0))),
    .inl (.int, 9, .inl (fun _ => 0)),
    .inl (.int, 9, .inl (fun _ => 0)),
    .inl (.int, 9, .inl (fun _ => 0)),
    .inl (.int, 9, .inl (fun _ => 0)),
    .inl (.int, 9, .inl (fun _ => 0)),
    .inl (.int, 9, .inl (fun _ => 0)),
    .inl (.int, 9, .inl (fun _ => 0)),
    .inl (.int, 9, .inl (fun _ => 0)),
    .inl (.int, 9, .inl (fun _ => 0)),
    .inl (.int, 9, .inl (fun _ => 0)),
    .inl (.int, 9, .inl (fun _ => 0)),
    .inl (.int, 9, .inl (fun _ => 0)),
    .inl (.int, 9, .inl (fun _ => 0)),
    .inl (.int, 9, .inl (fun _ => 0)),
    .inl (.int, 9, .inl (fun _ => 0)),
    .inl (.array .int, 15, .inr (.inr (.inr (.inr (fun j => if j < 15 then some (((((n + 1) + 23) + 1) + 17) + 1 + j) else none))))),
    .inl (.int, 17, .inl (fun _ => 0)),
    .inl (.int, 17, .inl (fun _ => 0)),
    .inl (.int, 17, .inl (fun _ => 0)),
    .inl (.int, 17, .inl (fun _ => 0)),
    .inl (.int, 17, .inl (fun _ => 0)),
    .inl (.int, 17, .inl (fun _ => 0)),
    .inl (.int, 17, .inl (fun _ => 0)),
    .inl (.int, 17, .inl (fun _ => 0)),
    .inl (.int, 17, .inl (fun _ => 0)),
    .inl (.int, 17, .inl (fun _ => 0)),
    .inl (.int, 17, .inl (fun _ => 0)),
    .inl (.int, 17, .inl (fun _ => 0)),
    .inl (.int, 17, .inl (fun _ => 0)),
    .inl (.int, 17, .inl (fun _ => 0)),
    .inl (.int, 17, .inl (fun _ => 0)),
    .inl (.array .int, 15, .inr (.inr (.inr (.inr (fun j => if j < 15 then some (((((n + 1) + 23) + 1) + 1) + 1 + j) else none))))),
    .inl ((.object "WaterReview$RuleBook"), 3, .inr (.inr (.inr (.inr (fun _ => none))))),
    .inr (7, [.ref n, (.ref ((((n + 1) + 23) + 1) + 69)), (.ref (((n + 1) + 23) + 1)), (.ref ((((n + 1) + 23) + 1) + 1)), (.ref ((((n + 1) + 23) + 1) + 17)), (.ref ((((n + 1) + 23) + 1) + 33)), (.ref ((((n + 1) + 23) + 1) + 34)), (.ref ((((n + 1) + 23) + 1) + 50)), (.ref ((((n + 1) + 23) + 1) + 66)), (.ref ((((n + 1) + 23) + 1) + 67)), (.ref ((((n + 1) + 23) + 1) + 68)), .int 0, .int 0]),
    .inl (.int, 20, .inl (fun _ => 0)),
    .inl (.int, 20, .inl (fun _ => 0)),
    .inl (.int, 20, .inl (fun _ => 0)),
    .inl (.int, 20, .inl (fun _ => 0)),
    .inl (.int, 20, .inl (fun _ => 0)),
    .inr (1, [(.ref ((((((((n + 1) + 2) + 4) + 1) + 4) + 1) + 5) + 1)), (.ref (((((((((n + 1) + 2) + 4) + 1) + 4) + 1) + 5) + 1) + 1)), (.ref (((((((((n + 1) + 2) + 4) + 1) + 4) + 1) + 5) + 1) + 2)), (.ref (((((((((n + 1) + 2) + 4) + 1) + 4) + 1) + 5) + 1) + 3)), (.ref (((((((((n + 1) + 2) + 4) + 1) + 4) + 1) + 5) + 1) + 4)), .int 0]),
    .inl (.int, 20, .inl (fun _ => 0)),
    .inl (.int, 20, .inl (fun _ => 0)),
    .inl (.int, 20, .inl (fun _ => 0)),
    .inl (.int, 20, .inl (fun _ => 0)),
    .inl (.int, 20, .inl (fun _ => 0)),
    .inr (1, [(.ref ((((((n + 1) + 2) + 4) + 1) + 4) + 1)), (.ref (((((((n + 1) + 2) + 4) + 1) + 4) + 1) + 1)), (.ref (((((((n + 1) + 2) + 4) + 1) + 4) + 1) + 2)), (.ref (((((((n + 1) + 2) + 4) + 1) + 4) + 1) + 3)), (.ref (((((((n + 1) + 2) + 4) + 1) + 4) + 1) + 4)), .int 0]),
    .inl (.int, 40, .inl (fun _ => 0)),
    .inl (.int, 40, .inl (fun _ => 0)),
    .inl (.int, 40, .inl (fun _ => 0)),
    .inl (.int, 40, .inl (fun _ => 0)),
    .inr (8, [(.ref ((((n + 1) + 2) + 4) + 1)), (.ref (((((n + 1) + 2) + 4) + 1) + 1)), (.ref (((((n + 1) + 2) + 4) + 1) + 2)), (.ref (((((n + 1) + 2) + 4) + 1) + 3)), .int 0, .int 0]),
    .inl (.int, 2805, .inl (fun i => if i < 2805 then (-1) else 0)),
    .inl (.int, 500, .inl (fun _ => 0)),
    .inl (.int, 500, .inl (fun _ => 0)),
    .inl (.int, 500, .inl (fun _ => 0)),
    .inr (0, [(.ref ((n + 1) + 2)), (.ref (((n + 1) + 2) + 1)), (.ref (((n + 1) + 2) + 2)), (.ref (((n + 1) + 2) + 3)), .int 0]),
    .inl (.int, 11, .inl (fun _ => 0)),
    .inr (4, [(.ref (n + 1)), (.ref ((n + 1) + 1)), (.ref (((n + 1) + 2) + 4)), (.ref (((((n + 1) + 2) + 4) + 1) + 4)), (.ref (((((((n + 1) + 2) + 4) + 1) + 4) + 1) + 5)), .int 0, .int 0])]
set_option maxRecDepth 100000 in
set_option maxHeartbeats 4000000 in
theorem i_X10 {K : Nat} (hK : 3000 ≤ K) {h : mm_H} {n a : Nat} (ha : 48 ≤ a) (hn : a < n) (hz_ : n ≤ 600) (ho : h a = .inr (9, [.null, .null, .null, .null, .null, .int 0, .null, .int 0, .null, .null, .int 0, .null])) : ∃ h1, q_X10_init K h n a = some (h1, n + 110) ∧ IS h h1 a 9 12 n (fsn_X10 n) (fin_X10 n) := by
  have s0 : IS h h a 9 12 n [.null, .null, .null, .null, .null, .int 0, .null, .int 0, .null, .null, .int 0, .null] [] := IS.go_ ha hn ho rfl (by omega)
  obtain ⟨h1, e1, s1⟩ := s0.nO (n := n) (ci := 4) (fs := [.null, .null, .null, .null, .null, .int 0, .int 0]) rfl
  obtain ⟨h3, e2, t2⟩ := i_X4 (K := K) hK (h := h1) (n := (n + 1)) (a := n) (by omega) (by omega) (by omega) (s1.ny rfl)
  have s2 := s1.sb_ (n := (n + 1)) t2 rfl rfl
  obtain ⟨h8, e3, s3⟩ := s2.wr_ (n := ((n + 1) + 23)) (k := 0) (v := (.ref n)) (by omega) (by decide)
  obtain ⟨h10, e4, s4⟩ := s3.nO (n := ((n + 1) + 23)) (ci := 7) (fs := [.null, .null, .null, .null, .null, .null, .null, .null, .null, .null, .null, .int 0, .int 0]) rfl
  have e5 := s4.rd_ (n := (((n + 1) + 23) + 1)) (k := 0) (x := n) (by omega) rfl
  have s5 := s4
  obtain ⟨h14, e6, t6⟩ := i_X7 (K := K) hK (h := h10) (n := (((n + 1) + 23) + 1)) (a := ((n + 1) + 23)) (r1 := n) (by omega) (by omega) (by omega) (s5.ny rfl)
  have s6 := s5.sb_ (n := (((n + 1) + 23) + 1)) t6 rfl rfl
  obtain ⟨h19, e7, s7⟩ := s6.wr_ (n := ((((n + 1) + 23) + 1) + 73)) (k := 1) (v := (.ref ((n + 1) + 23))) (by omega) (by decide)
  obtain ⟨h21, e8, s8⟩ := s7.nO (n := ((((n + 1) + 23) + 1) + 73)) (ci := 2) (fs := [.null, .null, .null, .null, .int 0, .long 0, .long 0, .long 0, .long 0, .long 0]) rfl
  have e9 := s8.rd_ (n := (((((n + 1) + 23) + 1) + 73) + 1)) (k := 0) (x := n) (by omega) rfl
  have s9 := s8
  obtain ⟨h25, e10, t10⟩ := i_X2 (K := K) hK (h := h21) (n := (((((n + 1) + 23) + 1) + 73) + 1)) (a := ((((n + 1) + 23) + 1) + 73)) (r1 := n) (by omega) (by omega) (by omega) (s9.ny rfl)
  have s10 := s9.sb_ (n := (((((n + 1) + 23) + 1) + 73) + 1)) t10 rfl rfl
  obtain ⟨h30, e11, s11⟩ := s10.wr_ (n := ((((((n + 1) + 23) + 1) + 73) + 1) + 3)) (k := 2) (v := (.ref ((((n + 1) + 23) + 1) + 73))) (by omega) (by decide)
  obtain ⟨h32, e12, s12⟩ := s11.nO (n := ((((((n + 1) + 23) + 1) + 73) + 1) + 3)) (ci := 3) (fs := [.null, .int 0, .int 0, .int 0, .int 0, .int 0, .null, .int 0, .null, .int 0, .null, .int 0]) rfl
  obtain ⟨h34, e13, t13⟩ := i_X3 (K := K) hK (h := h32) (n := (((((((n + 1) + 23) + 1) + 73) + 1) + 3) + 1)) (a := ((((((n + 1) + 23) + 1) + 73) + 1) + 3)) (by omega) (by omega) (by omega) (s12.ny rfl)
  have s13 := s12.sb_ (n := (((((((n + 1) + 23) + 1) + 73) + 1) + 3) + 1)) t13 rfl rfl
  obtain ⟨h39, e14, s14⟩ := s13.wr_ (n := ((((((((n + 1) + 23) + 1) + 73) + 1) + 3) + 1) + 3)) (k := 3) (v := (.ref ((((((n + 1) + 23) + 1) + 73) + 1) + 3))) (by omega) (by decide)
  obtain ⟨h41, e15, s15⟩ := s14.nI (n := ((((((((n + 1) + 23) + 1) + 73) + 1) + 3) + 1) + 3)) (ty := .int) (N := 900) (i := 900) (M := 900) rfl ⟨by decide, by decide⟩ (by decide)
  obtain ⟨h43, e16, s16⟩ := s15.wr_ (n := (((((((((n + 1) + 23) + 1) + 73) + 1) + 3) + 1) + 3) + 1)) (k := 4) (v := (.ref ((((((((n + 1) + 23) + 1) + 73) + 1) + 3) + 1) + 3))) (by omega) (by decide)
  obtain ⟨h45, e17, s17⟩ := s16.nA (n := (((((((((n + 1) + 23) + 1) + 73) + 1) + 3) + 1) + 3) + 1)) (ty := (.object "WaterReview$RuleBook")) (N := 8) (i := 8) (M := 8) rfl ⟨by decide, by decide⟩ (by decide)
  obtain ⟨h47, e18, s18⟩ := s17.wr_ (n := (((((((((n + 1) + 23) + 1) + 73) + 1) + 3) + 1) + 3) + 2)) (k := 6) (v := (.ref (((((((((n + 1) + 23) + 1) + 73) + 1) + 3) + 1) + 3) + 1))) (by omega) (by decide)
  obtain ⟨h49, e19, s19⟩ := s18.nA (n := (((((((((n + 1) + 23) + 1) + 73) + 1) + 3) + 1) + 3) + 2)) (ty := (.object "WaterReview$RuleBook")) (N := 4) (i := 4) (M := 4) rfl ⟨by decide, by decide⟩ (by decide)
  obtain ⟨h51, e20, s20⟩ := s19.wr_ (n := (((((((((n + 1) + 23) + 1) + 73) + 1) + 3) + 1) + 3) + 3)) (k := 9) (v := (.ref (((((((((n + 1) + 23) + 1) + 73) + 1) + 3) + 1) + 3) + 2))) (by omega) (by decide)
  obtain ⟨h53, e21, s21⟩ := s20.nI (n := (((((((((n + 1) + 23) + 1) + 73) + 1) + 3) + 1) + 3) + 3)) (ty := .int) (N := 15) (i := 15) (M := 15) rfl ⟨by decide, by decide⟩ (by decide)
  obtain ⟨h55, e22, s22⟩ := s21.wr_ (n := (((((((((n + 1) + 23) + 1) + 73) + 1) + 3) + 1) + 3) + 4)) (k := 11) (v := (.ref (((((((((n + 1) + 23) + 1) + 73) + 1) + 3) + 1) + 3) + 3))) (by omega) (by decide)
  exact ⟨h55, (by unfold q_X10_init; exact bnd e1 (bnd e2 (bnd e3 (bnd e4 (bnd e5 (bnd e6 (bnd e7 (bnd e8 (bnd e9 (bnd e10 (bnd e11 (bnd e12 (bnd e13 (bnd e14 (bnd e15 (bnd e16 (bnd e17 (bnd e18 (bnd e19 (bnd e20 (bnd e21 (bnd e22 ( rfl))))))))))))))))))))))), s22⟩

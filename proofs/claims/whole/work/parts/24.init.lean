/-! ===== what the two constructors make ===== -/
/-- a constructor's way: the cells ahead of n0 but its own object's stay; its object's fields; the cells that it has made, from n0 on -/
abbrev IS (h0 h : mm_H) (a ci N n0 : Nat) (fs : List Value) (hi : List mm_E) : Prop :=
  (∀ b, b < n0 → b ≠ a → h b = h0 b) ∧ h a = .inr (ci, fs) ∧ (∀ (i : Nat) (e : mm_E), hi[i]? = some e → h (n0 + i) = e) ∧ fs.length = N ∧ a < n0 ∧ 48 ≤ a
theorem IS.fr {h0 h : mm_H} {a ci N n0 : Nat} {fs : List Value} {hi : List mm_E} (s : IS h0 h a ci N n0 fs hi) : ∀ b, b < n0 → b ≠ a → h b = h0 b := s.1
theorem IS.ob {h0 h : mm_H} {a ci N n0 : Nat} {fs : List Value} {hi : List mm_E} (s : IS h0 h a ci N n0 fs hi) : h a = .inr (ci, fs) := s.2.1
theorem IS.nw {h0 h : mm_H} {a ci N n0 : Nat} {fs : List Value} {hi : List mm_E} (s : IS h0 h a ci N n0 fs hi) : ∀ (i : Nat) (e : mm_E), hi[i]? = some e → h (n0 + i) = e := s.2.2.1
theorem IS.ln {h0 h : mm_H} {a ci N n0 : Nat} {fs : List Value} {hi : List mm_E} (s : IS h0 h a ci N n0 fs hi) : fs.length = N := s.2.2.2.1
theorem IS.lt {h0 h : mm_H} {a ci N n0 : Nat} {fs : List Value} {hi : List mm_E} (s : IS h0 h a ci N n0 fs hi) : a < n0 := s.2.2.2.2.1
theorem IS.ge {h0 h : mm_H} {a ci N n0 : Nat} {fs : List Value} {hi : List mm_E} (s : IS h0 h a ci N n0 fs hi) : 48 ≤ a := s.2.2.2.2.2
theorem IS.go_ {h : mm_H} {a ci N n : Nat} {fs : List Value} (ha : 48 ≤ a) (hn : a < n) (ho : h a = .inr (ci, fs)) (hl : fs.length = N) : IS h h a ci N n fs [] :=
  ⟨fun _ _ _ => rfl, ho, fun i e q => by cases q, hl, hn, ha⟩
theorem IS.ny {h0 h : mm_H} {a ci N n0 : Nat} {fs : List Value} {hi : List mm_E} (s : IS h0 h a ci N n0 fs hi) {j : Nat} {e : mm_E} (q : hi[j]? = some e) : h (n0 + j) = e := s.nw j e q
theorem IS.up {h0 h : mm_H} {a ci N n0 : Nat} {fs : List Value} {hi : List mm_E} (s : IS h0 h a ci N n0 fs hi) {n : Nat} (e : mm_E) (hn : n = n0 + hi.length) : IS h0 (mm_up h n e) a ci N n0 fs (hi ++ [e]) := by
  subst hn
  have h1 := s.lt
  refine ⟨fun b hb hba => by rw [mm_up_n (by omega)]; exact s.fr b hb hba, by rw [mm_up_n (by omega)]; exact s.ob, fun i e2 q => ?_, s.ln, h1, s.ge⟩
  by_cases hi1 : i < hi.length
  · rw [List.getElem?_append_left hi1] at q
    rw [mm_up_n (by omega)]
    exact s.nw i e2 q
  · rw [List.getElem?_append_right (by omega)] at q
    have h2 := (List.getElem?_eq_some_iff.mp q).1
    rw [List.length_singleton] at h2
    have h3 : i = hi.length := by omega
    subst h3
    rw [Nat.sub_self] at q
    cases q
    exact mm_up_s
theorem IS.nO {h0 h : mm_H} {a ci0 N n0 : Nat} {fs0 : List Value} {hi : List mm_E} (s : IS h0 h a ci0 N n0 fs0 hi) {n ci : Nat} {fs : List Value} (hn : n = n0 + hi.length) : ∃ h1, newO h n ci fs = some h1 ∧ IS h0 h1 a ci0 N n0 fs0 (hi ++ [.inr (ci, fs)]) := ⟨_, rfl, s.up _ hn⟩
theorem IS.nI {h0 h : mm_H} {a ci0 N0 n0 : Nat} {fs0 : List Value} {hi : List mm_E} (s : IS h0 h a ci0 N0 n0 fs0 hi) {n N M : Nat} {ty : FieldType} {i : Int32} (hn : n = n0 + hi.length) (hc : ¬ i < 0 ∧ i.toNatClampNeg ≤ N) (hm : i.toNatClampNeg = M) : ∃ h1, newI h n ty N i = some h1 ∧ IS h0 h1 a ci0 N0 n0 fs0 (hi ++ [.inl (ty, M, .inl (fun _ => 0))]) := by
  subst hm
  exact ⟨_, if_pos hc, s.up _ hn⟩
theorem IS.nJ {h0 h : mm_H} {a ci0 N0 n0 : Nat} {fs0 : List Value} {hi : List mm_E} (s : IS h0 h a ci0 N0 n0 fs0 hi) {n N M : Nat} {i : Int32} (hn : n = n0 + hi.length) (hc : ¬ i < 0 ∧ i.toNatClampNeg ≤ N) (hm : i.toNatClampNeg = M) : ∃ h1, newJ h n N i = some h1 ∧ IS h0 h1 a ci0 N0 n0 fs0 (hi ++ [.inl (.long, M, .inr (.inl (fun _ => 0)))]) := by
  subst hm
  exact ⟨_, if_pos hc, s.up _ hn⟩
theorem IS.nA {h0 h : mm_H} {a ci0 N0 n0 : Nat} {fs0 : List Value} {hi : List mm_E} (s : IS h0 h a ci0 N0 n0 fs0 hi) {n N M : Nat} {ty : FieldType} {i : Int32} (hn : n = n0 + hi.length) (hc : ¬ i < 0 ∧ i.toNatClampNeg ≤ N) (hm : i.toNatClampNeg = M) : ∃ h1, newA h n ty N i = some h1 ∧ IS h0 h1 a ci0 N0 n0 fs0 (hi ++ [.inl (ty, M, .inr (.inr (.inr (.inr (fun _ => none)))))]) := by
  subst hm
  exact ⟨_, if_pos hc, s.up _ hn⟩
theorem IS.ro_ {h0 h : mm_H} {a ci N0 n0 : Nat} {fs : List Value} {hi : List mm_E} (s : IS h0 h a ci N0 n0 fs hi) {n N : Nat} (ty : FieldType) (e : vp_A) (hn : n = n0 + hi.length) : IS h0 (mm_row h n N ty e) a ci N0 n0 fs (hi ++ (.inl (.array ty, N, .inr (.inr (.inr (.inr (fun j => if j < N then some (n + 1 + j) else none))))) :: List.replicate N (.inl (ty, e)))) := by
  subst hn
  have h1 := s.lt
  refine ⟨fun b hb hba => ?_, ?_, fun i e2 q => ?_, s.ln, h1, s.ge⟩
  · unfold mm_row
    rw [if_neg (by omega), if_neg (by omega)]
    exact s.fr b hb hba
  · unfold mm_row
    rw [if_neg (by omega), if_neg (by omega)]
    exact s.ob
  · by_cases hi1 : i < hi.length
    · rw [List.getElem?_append_left hi1] at q
      unfold mm_row
      rw [if_neg (by omega), if_neg (by omega)]
      exact s.nw i e2 q
    · rw [List.getElem?_append_right (by omega)] at q
      by_cases h3 : i = hi.length
      · subst h3
        rw [Nat.sub_self] at q
        cases q
        unfold mm_row
        rw [if_pos rfl]
      · obtain ⟨k, hk⟩ : ∃ k, i - hi.length = k + 1 := ⟨i - hi.length - 1, by omega⟩
        rw [hk, List.getElem?_cons_succ] at q
        have h4 := (List.getElem?_eq_some_iff.mp q).1
        rw [List.length_replicate] at h4
        rw [List.getElem?_replicate, if_pos h4] at q
        cases q
        unfold mm_row
        rw [if_neg (by omega), if_pos (by omega)]
theorem IS.nMI {h0 h : mm_H} {a ci N0 n0 : Nat} {fs : List Value} {hi : List mm_E} (s : IS h0 h a ci N0 n0 fs hi) {n N M : Nat} (hn : n = n0 + hi.length) : ∃ h1, newMI h n N M = some h1 ∧ IS h0 h1 a ci N0 n0 fs (hi ++ (.inl (.array .int, N, .inr (.inr (.inr (.inr (fun j => if j < N then some (n + 1 + j) else none))))) :: List.replicate N (.inl (.int, M, .inl (fun _ => 0))))) := ⟨_, rfl, s.ro_ _ _ hn⟩
theorem IS.nMJ {h0 h : mm_H} {a ci N0 n0 : Nat} {fs : List Value} {hi : List mm_E} (s : IS h0 h a ci N0 n0 fs hi) {n N M : Nat} (hn : n = n0 + hi.length) : ∃ h1, newMJ h n N M = some h1 ∧ IS h0 h1 a ci N0 n0 fs (hi ++ (.inl (.array .long, N, .inr (.inr (.inr (.inr (fun j => if j < N then some (n + 1 + j) else none))))) :: List.replicate N (.inl (.long, M, .inr (.inl (fun _ => 0)))))) := ⟨_, rfl, s.ro_ _ _ hn⟩
theorem IS.wr_ {h0 h : mm_H} {a ci N n0 : Nat} {fs : List Value} {hi : List mm_E} (s : IS h0 h a ci N n0 fs hi) {n k : Nat} {v : Value} (hn : a < n) (hk : k < N) : ∃ h1, wrF h n a ci k v = some h1 ∧ IS h0 h1 a ci N n0 (fs.set k v) hi := by
  have h1 := s.lt
  refine ⟨mm_up h a (.inr (ci, fs.set k v)), ?_, ⟨fun b hb hba => by rw [mm_up_n hba]; exact s.fr b hb hba, mm_up_s, fun i e q => by rw [mm_up_n (by omega)]; exact s.nw i e q, by rw [List.length_set]; exact s.ln, h1, s.ge⟩⟩
  unfold wrF
  rw [if_pos ⟨s.ge, hn⟩, s.ob, mm_sf_eq s.ob]
  exact if_pos ⟨rfl, by rw [s.ln]; exact hk⟩
theorem IS.rd_ {h0 h : mm_H} {a ci N n0 : Nat} {fs : List Value} {hi : List mm_E} (s : IS h0 h a ci N n0 fs hi) {n k x : Nat} (hn : a < n) (hk : fs[k]? = some (.ref x)) : rdR h n a ci k = some (some x) := by
  unfold rdR
  rw [if_pos ⟨s.ge, hn⟩, s.ob]
  dsimp only
  rw [if_pos rfl, hk]
/-- a loop that fills an int array -/
theorem fill_lp {K n a N : Nat} {v l3 : Int32} (ha : 48 ≤ a ∧ a < n) (hN : N < 2 ^ 31) (hl : l3 = Int32.ofNat N) : ∀ (k i : Nat) (h : mm_H) (f : Nat → Int32), h a = .inl (.int, N, .inl f) → i ≤ N → N - i < k → lp_J7_fill_53178_5 K n a v l3 k (Int32.ofNat i) h = some (mm_up h a (.inl (.int, N, .inl (fun j => if i ≤ j ∧ j < N then v else f j)))) := by
  intro k
  induction k with
  | zero => intro i h f _ _ q; omega
  | succ k ih =>
    intro i h f hf hi hk
    unfold lp_J7_fill_53178_5
    by_cases hiN : i = N
    · subst hiN
      rw [hl, if_pos (Int32.le_refl _)]
      congr 1
      funext b
      unfold mm_up
      split
      · rename_i q
        rw [q, hf]
        congr 4
        funext j
        rw [if_neg (by omega)]
      · rfl
    · rw [hl, if_neg (by rw [Int32.le_iff_toInt_le, Int32.toInt_ofNat_of_lt hN, Int32.toInt_ofNat_of_lt (by omega)]; omega)]
      have e1 : stI h n a (Int32.ofNat i) v = some (mm_up h a (.inl (.int, N, .inl (upd f i v)))) := by
        unfold stI
        rw [if_pos ha, hf]
        dsimp only
        have hc : (Int32.ofNat i).toNatClampNeg = i := Int32.toNatClampNeg_ofNat_of_lt (by omega)
        rw [if_pos (by unfold inb; rw [Int32.toInt_ofNat_of_lt (by omega)]; simp; omega), hc, mm_si_eq hf]
      rw [e1, Option.bind_some]
      have e2 : Int32.ofNat i + 1 = Int32.ofNat (i + 1) := (Int32.ofNat_add i 1).symm
      rw [e2, ← hl, ih (i + 1) _ _ mm_up_s (by omega) (by omega)]
      congr 1
      funext b
      unfold mm_up
      by_cases q : b = a
      · rw [if_pos q, if_pos q]
        congr 4
        funext j
        by_cases hj : j = i
        · subst hj
          rw [if_neg (by omega), if_pos (by omega)]
          simp [upd]
        · unfold upd
          rw [if_neg hj]
          by_cases hj2 : i ≤ j ∧ j < N
          · rw [if_pos hj2, if_pos (by omega)]
          · rw [if_neg hj2, if_neg (by omega)]
      · rw [if_neg q, if_neg q, if_neg q]
theorem IS.st_ {h0 h : mm_H} {a ci N0 n0 : Nat} {fs : List Value} {hi : List mm_E} (s : IS h0 h a ci N0 n0 fs hi) {j : Nat} (e : mm_E) (hj : j < hi.length) : IS h0 (mm_up h (n0 + j) e) a ci N0 n0 fs (hi.set j e) := by
  have h1 := s.lt
  refine ⟨fun b hb hba => by rw [mm_up_n (by omega)]; exact s.fr b hb hba, by rw [mm_up_n (by omega)]; exact s.ob, fun i e2 q => ?_, s.ln, h1, s.ge⟩
  by_cases hij : i = j
  · subst hij
    rw [List.getElem?_set_self hj] at q
    cases q
    exact mm_up_s
  · rw [List.getElem?_set_ne (Ne.symm hij)] at q
    rw [mm_up_n (by omega)]
    exact s.nw i e2 q
theorem IS.fl_ {h0 h : mm_H} {a ci N0 n0 K : Nat} {fs : List Value} {hi : List mm_E} (s : IS h0 h a ci N0 n0 fs hi) {n j N : Nat} {f : Nat → Int32} {v : Int32} (hK : 3000 ≤ K) (hn : n0 + j < n) (hN : N < 3000) (hj : hi[j]? = some (.inl (.int, N, .inl f))) (hjl : j < hi.length) : ∃ h1, q_J7_fill_53178 K h n (some (n0 + j)) v = some h1 ∧ IS h0 h1 a ci N0 n0 fs (hi.set j (.inl (.int, N, .inl (fun i => if i < N then v else f i)))) := by
  have h1 := s.lt
  have h2 := s.ge
  have hv := s.nw j _ hj
  have e0 : lenA h n (n0 + j) 0 = some (Int32.ofNat N) := by
    unfold lenA
    rw [if_pos ⟨by omega, hn⟩, hv]
    rfl
  have e1 := fill_lp (K := K) (v := v) (l3 := Int32.ofNat N) (a := n0 + j) (n := n) ⟨by omega, hn⟩ (by omega) rfl K 0 h f hv (Nat.zero_le _) (by omega)
  refine ⟨_, ?_, s.st_ _ hjl⟩
  unfold q_J7_fill_53178
  rw [Option.bind_some, e0, Option.bind_some]
  rw [show (0 : Int32) = Int32.ofNat 0 from rfl, e1, Option.bind_some]
  congr 3
  · congr 3
    funext i
    simp
theorem fill11_lp {K n a m N : Nat} {fs : List Value} (ha : 48 ≤ a ∧ a < n) (hm : 48 ≤ m ∧ m < n) (hma : m ≠ a) (hN : N = 2805) (hf0 : fs[6]? = some (.ref a)) : ∀ (k i : Nat) (h : mm_H) (f : Nat → Int32), h m = .inr (10, fs) → h a = .inl (.int, N, .inl f) → i ≤ N → N - i < k → lp_X11_init_415 K n m k (Int32.ofNat i) h = some (mm_up h a (.inl (.int, N, .inl (fun j => if i ≤ j ∧ j < N then -1 else f j)))) := by
  intro k
  induction k with
  | zero => intro i h f _ _ _ q; omega
  | succ k ih =>
    intro i h f ho hf hi hk
    unfold lp_X11_init_415
    by_cases hiN : i = N
    · subst hiN
      rw [if_pos (by rw [hN]; decide)]
      congr 1
      funext b
      unfold mm_up
      split
      · rename_i q
        rw [q, hf]
        congr 4
        funext j
        rw [if_neg (by omega)]
      · rfl
    · rw [if_neg (by rw [Int32.le_iff_toInt_le, Int32.toInt_ofNat_of_lt (by omega)]; show ¬ (2805 : Int) ≤ _; omega)]
      have e0 : rdR h n m 10 6 = some (some a) := by
        unfold rdR
        rw [if_pos hm, ho]
        dsimp only
        rw [if_pos rfl, hf0]
      have e1 : stI h n a (Int32.ofNat i) (-1) = some (mm_up h a (.inl (.int, N, .inl (upd f i (-1))))) := by
        unfold stI
        rw [if_pos ha, hf]
        dsimp only
        have hc : (Int32.ofNat i).toNatClampNeg = i := Int32.toNatClampNeg_ofNat_of_lt (by omega)
        rw [if_pos (by unfold inb; rw [Int32.toInt_ofNat_of_lt (by omega)]; simp; omega), hc, mm_si_eq hf]
      rw [e0, Option.bind_some, Option.bind_some, e1, Option.bind_some]
      have e2 : Int32.ofNat i + 1 = Int32.ofNat (i + 1) := (Int32.ofNat_add i 1).symm
      rw [e2, ih (i + 1) _ _ (by rw [mm_up_n hma]; exact ho) mm_up_s (by omega) (by omega)]
      congr 1
      funext b
      unfold mm_up
      by_cases q : b = a
      · rw [if_pos q, if_pos q]
        congr 4
        funext j
        by_cases hj : j = i
        · subst hj
          rw [if_neg (by omega), if_pos (by omega)]
          simp [upd]
        · unfold upd
          rw [if_neg hj]
          by_cases hj2 : i ≤ j ∧ j < N
          · rw [if_pos hj2, if_pos (by omega)]
          · rw [if_neg hj2, if_neg (by omega)]
      · rw [if_neg q, if_neg q, if_neg q]
theorem IS.fl11 {h0 h : mm_H} {a N0 n0 K : Nat} {fs : List Value} {hi : List mm_E} (s : IS h0 h a 10 N0 n0 fs hi) {n j N : Nat} {f : Nat → Int32} (hK : 3000 ≤ K) (hn : n0 + j < n) (hN : N < 3000) (hj : hi[j]? = some (.inl (.int, N, .inl f))) (hjl : j < hi.length) (hN2 : N = 2805) (h6 : fs[6]? = some (.ref (n0 + j))) : ∃ h1, lp_X11_init_415 K n a K 0 h = some h1 ∧ IS h0 h1 a 10 N0 n0 fs (hi.set j (.inl (.int, N, .inl (fun i => if i < N then -1 else f i)))) := by
  have h1 := s.lt
  have h2 := s.ge
  have hv := s.nw j _ hj
  have e1 := fill11_lp (K := K) (a := n0 + j) (n := n) (m := a) (fs := fs) ⟨by omega, hn⟩ ⟨h2, by omega⟩ (by omega) hN2 h6 K 0 h f s.ob hv (Nat.zero_le _) (by omega)
  refine ⟨_, ?_, s.st_ _ hjl⟩
  rw [show (0 : Int32) = Int32.ofNat 0 from rfl, e1]
  congr 4
  · congr 3
    funext i
    simp
/-- a constructor inside: its object was the j-th cell made -/
theorem IS.sb_ {h0 h h' : mm_H} {a ci N n0 : Nat} {fs : List Value} {hi : List mm_E} (s : IS h0 h a ci N n0 fs hi) {n j a' ci' N' : Nat} {fs' : List Value} {hi' : List mm_E} (t : IS h h' a' ci' N' n fs' hi') (ha : a' = n0 + j) (hn : n = n0 + hi.length) (hj : j < hi.length) : IS h0 h' a ci N n0 fs (hi.set j (.inr (ci', fs')) ++ hi') := by
  subst ha
  subst hn
  have h1 := s.lt
  refine ⟨fun b hb hba => (t.fr b (by omega) (by omega)).trans (s.fr b hb hba), (t.fr a (by omega) (by omega)).trans s.ob, fun i e q => ?_, s.ln, h1, s.ge⟩
  by_cases hi1 : i < hi.length
  · rw [List.getElem?_append_left (by rw [List.length_set]; exact hi1)] at q
    by_cases hij : i = j
    · subst hij
      rw [List.getElem?_set_self hi1] at q
      cases q
      exact t.ob
    · rw [List.getElem?_set_ne (Ne.symm hij)] at q
      rw [t.fr (n0 + i) (by omega) (by omega)]
      exact s.nw i e q
  · rw [List.getElem?_append_right (by rw [List.length_set]; omega), List.length_set] at q
    have := t.nw (i - hi.length) e q
    rw [show n0 + hi.length + (i - hi.length) = n0 + i by omega] at this
    exact this

set_option maxRecDepth 100000 in
set_option maxHeartbeats 4000000 in
theorem i_X0 {K : Nat} (hK : 3000 ≤ K) {h : mm_H} {n a : Nat} (ha : 48 ≤ a) (hn : a < n) (ho : h a = .inr (0, [.null, .null, .null, .null, .int 0])) : ∃ h1, q_X0_init K h n a = some (h1, n + 4) ∧ IS h h1 a 0 5 n [(.ref n), (.ref (n + 1)), (.ref (n + 2)), (.ref (n + 3)), .int 0] [.inl (.int, 500, .inl (fun _ => 0)),
    .inl (.int, 500, .inl (fun _ => 0)),
    .inl (.int, 500, .inl (fun _ => 0)),
    .inl (.int, 2805, .inl (fun i => if i < 2805 then (-1) else 0))] := by
  unfold q_X0_init
  have s0 : IS h h a 0 5 n [.null, .null, .null, .null, .int 0] [] := IS.go_ ha hn ho rfl
  obtain ⟨h1, e1, s1⟩ := s0.nI (n := n) (ty := .int) (N := 500) (i := 500) (M := 500) rfl ⟨by decide, by decide⟩ (by decide)
  simp only [e1, Option.bind_some]
  obtain ⟨h3, e2, s2⟩ := s1.wr_ (n := (n + 1)) (k := 0) (v := (.ref n)) (by omega) (by decide)
  simp only [e2, Option.bind_some]
  obtain ⟨h5, e3, s3⟩ := s2.nI (n := (n + 1)) (ty := .int) (N := 500) (i := 500) (M := 500) rfl ⟨by decide, by decide⟩ (by decide)
  simp only [e3, Option.bind_some]
  obtain ⟨h7, e4, s4⟩ := s3.wr_ (n := (n + 2)) (k := 1) (v := (.ref (n + 1))) (by omega) (by decide)
  simp only [e4, Option.bind_some]
  obtain ⟨h9, e5, s5⟩ := s4.nI (n := (n + 2)) (ty := .int) (N := 500) (i := 500) (M := 500) rfl ⟨by decide, by decide⟩ (by decide)
  simp only [e5, Option.bind_some]
  obtain ⟨h11, e6, s6⟩ := s5.wr_ (n := (n + 3)) (k := 2) (v := (.ref (n + 2))) (by omega) (by decide)
  simp only [e6, Option.bind_some]
  obtain ⟨h13, e7, s7⟩ := s6.nI (n := (n + 3)) (ty := .int) (N := 2805) (i := 2805) (M := 2805) rfl ⟨by decide, by decide⟩ (by decide)
  simp only [e7, Option.bind_some]
  obtain ⟨h15, e8, s8⟩ := s7.wr_ (n := (n + 4)) (k := 3) (v := (.ref (n + 3))) (by omega) (by decide)
  simp only [e8, Option.bind_some]
  have e9 := s8.rd_ (n := (n + 4)) (k := 3) (x := (n + 3)) (by omega) rfl
  simp only [e9, Option.bind_some]
  have s9 := s8
  obtain ⟨v19, e10, s10⟩ := s9.fl_ (K := K) (n := (n + 4)) (j := 3) (N := 2805) (f := fun _ => 0) (v := (-1)) hK (by omega) (by decide) rfl rfl
  simp only [e10, Option.bind_some]
  exact ⟨v19, rfl, s10⟩
set_option maxRecDepth 100000 in
set_option maxHeartbeats 4000000 in
theorem i_X1 {K : Nat} (hK : 3000 ≤ K) {h : mm_H} {n a : Nat} (ha : 48 ≤ a) (hn : a < n) (ho : h a = .inr (1, [.null, .null, .null, .null, .null, .int 0])) : ∃ h1, q_X1_init K h n a = some (h1, n + 5) ∧ IS h h1 a 1 6 n [(.ref n), (.ref (n + 1)), (.ref (n + 2)), (.ref (n + 3)), (.ref (n + 4)), .int 0] [.inl (.int, 20, .inl (fun _ => 0)),
    .inl (.int, 20, .inl (fun _ => 0)),
    .inl (.int, 20, .inl (fun _ => 0)),
    .inl (.int, 20, .inl (fun _ => 0)),
    .inl (.int, 20, .inl (fun _ => 0))] := by
  unfold q_X1_init
  have s0 : IS h h a 1 6 n [.null, .null, .null, .null, .null, .int 0] [] := IS.go_ ha hn ho rfl
  obtain ⟨h1, e1, s1⟩ := s0.nI (n := n) (ty := .int) (N := 20) (i := 20) (M := 20) rfl ⟨by decide, by decide⟩ (by decide)
  simp only [e1, Option.bind_some]
  obtain ⟨h3, e2, s2⟩ := s1.wr_ (n := (n + 1)) (k := 0) (v := (.ref n)) (by omega) (by decide)
  simp only [e2, Option.bind_some]
  obtain ⟨h5, e3, s3⟩ := s2.nI (n := (n + 1)) (ty := .int) (N := 20) (i := 20) (M := 20) rfl ⟨by decide, by decide⟩ (by decide)
  simp only [e3, Option.bind_some]
  obtain ⟨h7, e4, s4⟩ := s3.wr_ (n := (n + 2)) (k := 1) (v := (.ref (n + 1))) (by omega) (by decide)
  simp only [e4, Option.bind_some]
  obtain ⟨h9, e5, s5⟩ := s4.nI (n := (n + 2)) (ty := .int) (N := 20) (i := 20) (M := 20) rfl ⟨by decide, by decide⟩ (by decide)
  simp only [e5, Option.bind_some]
  obtain ⟨h11, e6, s6⟩ := s5.wr_ (n := (n + 3)) (k := 2) (v := (.ref (n + 2))) (by omega) (by decide)
  simp only [e6, Option.bind_some]
  obtain ⟨h13, e7, s7⟩ := s6.nI (n := (n + 3)) (ty := .int) (N := 20) (i := 20) (M := 20) rfl ⟨by decide, by decide⟩ (by decide)
  simp only [e7, Option.bind_some]
  obtain ⟨h15, e8, s8⟩ := s7.wr_ (n := (n + 4)) (k := 3) (v := (.ref (n + 3))) (by omega) (by decide)
  simp only [e8, Option.bind_some]
  obtain ⟨h17, e9, s9⟩ := s8.nI (n := (n + 4)) (ty := .int) (N := 20) (i := 20) (M := 20) rfl ⟨by decide, by decide⟩ (by decide)
  simp only [e9, Option.bind_some]
  obtain ⟨h19, e10, s10⟩ := s9.wr_ (n := (n + 5)) (k := 4) (v := (.ref (n + 4))) (by omega) (by decide)
  simp only [e10, Option.bind_some]
  exact ⟨h19, rfl, s10⟩
set_option maxRecDepth 100000 in
set_option maxHeartbeats 4000000 in
theorem i_X2 {K : Nat} (hK : 3000 ≤ K) {h : mm_H} {n a : Nat} {r1 : Nat} (ha : 48 ≤ a) (hn : a < n) (ho : h a = .inr (2, [.null, .null, .null, .null, .int 0, .long 0, .long 0, .long 0, .long 0, .long 0])) : ∃ h1, q_X2_init K h n a (some r1) = some (h1, n + 3) ∧ IS h h1 a 2 10 n [.ref r1, (.ref n), (.ref (n + 1)), (.ref (n + 2)), .int 0, .long 0, .long 0, .long 0, .long 0, .long 0] [.inl (.int, 50, .inl (fun _ => 0)),
    .inl (.int, 50, .inl (fun _ => 0)),
    .inl (.int, 50, .inl (fun _ => 0))] := by
  unfold q_X2_init
  have s0 : IS h h a 2 10 n [.null, .null, .null, .null, .int 0, .long 0, .long 0, .long 0, .long 0, .long 0] [] := IS.go_ ha hn ho rfl
  obtain ⟨h1, e1, s1⟩ := s0.nI (n := n) (ty := .int) (N := 50) (i := 50) (M := 50) rfl ⟨by decide, by decide⟩ (by decide)
  simp only [e1, Option.bind_some]
  obtain ⟨h3, e2, s2⟩ := s1.wr_ (n := (n + 1)) (k := 1) (v := (.ref n)) (by omega) (by decide)
  simp only [e2, Option.bind_some]
  obtain ⟨h5, e3, s3⟩ := s2.nI (n := (n + 1)) (ty := .int) (N := 50) (i := 50) (M := 50) rfl ⟨by decide, by decide⟩ (by decide)
  simp only [e3, Option.bind_some]
  obtain ⟨h7, e4, s4⟩ := s3.wr_ (n := (n + 2)) (k := 2) (v := (.ref (n + 1))) (by omega) (by decide)
  simp only [e4, Option.bind_some]
  obtain ⟨h9, e5, s5⟩ := s4.nI (n := (n + 2)) (ty := .int) (N := 50) (i := 50) (M := 50) rfl ⟨by decide, by decide⟩ (by decide)
  simp only [e5, Option.bind_some]
  obtain ⟨h11, e6, s6⟩ := s5.wr_ (n := (n + 3)) (k := 3) (v := (.ref (n + 2))) (by omega) (by decide)
  simp only [e6, Option.bind_some]
  obtain ⟨h13, e7, s7⟩ := s6.wr_ (n := (n + 3)) (k := 0) (v := (va_rf (some r1))) (by omega) (by decide)
  simp only [e7, Option.bind_some]
  exact ⟨h13, rfl, s7⟩
set_option maxRecDepth 100000 in
set_option maxHeartbeats 4000000 in
theorem i_X3 {K : Nat} (hK : 3000 ≤ K) {h : mm_H} {n a : Nat} (ha : 48 ≤ a) (hn : a < n) (ho : h a = .inr (3, [.null, .int 0, .int 0, .int 0, .int 0, .int 0, .null, .int 0, .null, .int 0, .null, .int 0])) : ∃ h1, q_X3_init K h n a = some (h1, n + 3) ∧ IS h h1 a 3 12 n [(.ref 2), .int 0, .int 0, .int 0, .int 0, (.int (-1)), (.ref n), .int 0, (.ref (n + 1)), .int 0, (.ref (n + 2)), .int 0] [.inl (.int, 270, .inl (fun _ => 0)),
    .inl ((.object "WaterReview$Rule"), 30, .inr (.inr (.inr (.inr (fun _ => none))))),
    .inl (.int, 900, .inl (fun _ => 0))] := by
  unfold q_X3_init
  have s0 : IS h h a 3 12 n [.null, .int 0, .int 0, .int 0, .int 0, .int 0, .null, .int 0, .null, .int 0, .null, .int 0] [] := IS.go_ ha hn ho rfl
  obtain ⟨h1, e1, s1⟩ := s0.wr_ (n := n) (k := 0) (v := (.ref 2)) (by omega) (by decide)
  simp only [e1, Option.bind_some]
  obtain ⟨h3, e2, s2⟩ := s1.wr_ (n := n) (k := 5) (v := (.int (-1))) (by omega) (by decide)
  simp only [e2, Option.bind_some]
  obtain ⟨h5, e3, s3⟩ := s2.nI (n := n) (ty := .int) (N := 270) (i := 270) (M := 270) rfl ⟨by decide, by decide⟩ (by decide)
  simp only [e3, Option.bind_some]
  obtain ⟨h7, e4, s4⟩ := s3.wr_ (n := (n + 1)) (k := 6) (v := (.ref n)) (by omega) (by decide)
  simp only [e4, Option.bind_some]
  obtain ⟨h9, e5, s5⟩ := s4.nA (n := (n + 1)) (ty := (.object "WaterReview$Rule")) (N := 30) (i := 30) (M := 30) rfl ⟨by decide, by decide⟩ (by decide)
  simp only [e5, Option.bind_some]
  obtain ⟨h11, e6, s6⟩ := s5.wr_ (n := (n + 2)) (k := 8) (v := (.ref (n + 1))) (by omega) (by decide)
  simp only [e6, Option.bind_some]
  obtain ⟨h13, e7, s7⟩ := s6.nI (n := (n + 2)) (ty := .int) (N := 900) (i := 900) (M := 900) rfl ⟨by decide, by decide⟩ (by decide)
  simp only [e7, Option.bind_some]
  obtain ⟨h15, e8, s8⟩ := s7.wr_ (n := (n + 3)) (k := 10) (v := (.ref (n + 2))) (by omega) (by decide)
  simp only [e8, Option.bind_some]
  exact ⟨h15, rfl, s8⟩
set_option maxRecDepth 100000 in
set_option maxHeartbeats 4000000 in
theorem i_X9 {K : Nat} (hK : 3000 ≤ K) {h : mm_H} {n a : Nat} (ha : 48 ≤ a) (hn : a < n) (ho : h a = .inr (8, [.null, .null, .null, .null, .int 0, .int 0])) : ∃ h1, q_X9_init K h n a = some (h1, n + 4) ∧ IS h h1 a 8 6 n [(.ref n), (.ref (n + 1)), (.ref (n + 2)), (.ref (n + 3)), .int 0, .int 0] [.inl (.int, 40, .inl (fun _ => 0)),
    .inl (.int, 40, .inl (fun _ => 0)),
    .inl (.int, 40, .inl (fun _ => 0)),
    .inl (.int, 40, .inl (fun _ => 0))] := by
  unfold q_X9_init
  have s0 : IS h h a 8 6 n [.null, .null, .null, .null, .int 0, .int 0] [] := IS.go_ ha hn ho rfl
  obtain ⟨h1, e1, s1⟩ := s0.nI (n := n) (ty := .int) (N := 40) (i := 40) (M := 40) rfl ⟨by decide, by decide⟩ (by decide)
  simp only [e1, Option.bind_some]
  obtain ⟨h3, e2, s2⟩ := s1.wr_ (n := (n + 1)) (k := 0) (v := (.ref n)) (by omega) (by decide)
  simp only [e2, Option.bind_some]
  obtain ⟨h5, e3, s3⟩ := s2.nI (n := (n + 1)) (ty := .int) (N := 40) (i := 40) (M := 40) rfl ⟨by decide, by decide⟩ (by decide)
  simp only [e3, Option.bind_some]
  obtain ⟨h7, e4, s4⟩ := s3.wr_ (n := (n + 2)) (k := 1) (v := (.ref (n + 1))) (by omega) (by decide)
  simp only [e4, Option.bind_some]
  obtain ⟨h9, e5, s5⟩ := s4.nI (n := (n + 2)) (ty := .int) (N := 40) (i := 40) (M := 40) rfl ⟨by decide, by decide⟩ (by decide)
  simp only [e5, Option.bind_some]
  obtain ⟨h11, e6, s6⟩ := s5.wr_ (n := (n + 3)) (k := 2) (v := (.ref (n + 2))) (by omega) (by decide)
  simp only [e6, Option.bind_some]
  obtain ⟨h13, e7, s7⟩ := s6.nI (n := (n + 3)) (ty := .int) (N := 40) (i := 40) (M := 40) rfl ⟨by decide, by decide⟩ (by decide)
  simp only [e7, Option.bind_some]
  obtain ⟨h15, e8, s8⟩ := s7.wr_ (n := (n + 4)) (k := 3) (v := (.ref (n + 3))) (by omega) (by decide)
  simp only [e8, Option.bind_some]
  exact ⟨h15, rfl, s8⟩
set_option maxRecDepth 100000 in
set_option maxHeartbeats 4000000 in
theorem i_X4 {K : Nat} (hK : 3000 ≤ K) {h : mm_H} {n a : Nat} (ha : 48 ≤ a) (hn : a < n) (ho : h a = .inr (4, [.null, .null, .null, .null, .null, .int 0, .int 0])) : ∃ h1, q_X4_init K h n a = some (h1, n + 23) ∧ IS h h1 a 4 7 n [(.ref n), (.ref (n + 1)), (.ref ((n + 2) + 4)), (.ref ((((n + 2) + 4) + 1) + 4)), (.ref ((((((n + 2) + 4) + 1) + 4) + 1) + 5)), .int 0, .int 0] [.inl (.int, 11, .inl (fun _ => 0)),
    .inr (0, [(.ref (n + 2)), (.ref ((n + 2) + 1)), (.ref ((n + 2) + 2)), (.ref ((n + 2) + 3)), .int 0]),
    .inl (.int, 500, .inl (fun _ => 0)),
    .inl (.int, 500, .inl (fun _ => 0)),
    .inl (.int, 500, .inl (fun _ => 0)),
    .inl (.int, 2805, .inl (fun i => if i < 2805 then (-1) else 0)),
    .inr (8, [(.ref (((n + 2) + 4) + 1)), (.ref ((((n + 2) + 4) + 1) + 1)), (.ref ((((n + 2) + 4) + 1) + 2)), (.ref ((((n + 2) + 4) + 1) + 3)), .int 0, .int 0]),
    .inl (.int, 40, .inl (fun _ => 0)),
    .inl (.int, 40, .inl (fun _ => 0)),
    .inl (.int, 40, .inl (fun _ => 0)),
    .inl (.int, 40, .inl (fun _ => 0)),
    .inr (1, [(.ref (((((n + 2) + 4) + 1) + 4) + 1)), (.ref ((((((n + 2) + 4) + 1) + 4) + 1) + 1)), (.ref ((((((n + 2) + 4) + 1) + 4) + 1) + 2)), (.ref ((((((n + 2) + 4) + 1) + 4) + 1) + 3)), (.ref ((((((n + 2) + 4) + 1) + 4) + 1) + 4)), .int 0]),
    .inl (.int, 20, .inl (fun _ => 0)),
    .inl (.int, 20, .inl (fun _ => 0)),
    .inl (.int, 20, .inl (fun _ => 0)),
    .inl (.int, 20, .inl (fun _ => 0)),
    .inl (.int, 20, .inl (fun _ => 0)),
    .inr (1, [(.ref (((((((n + 2) + 4) + 1) + 4) + 1) + 5) + 1)), (.ref ((((((((n + 2) + 4) + 1) + 4) + 1) + 5) + 1) + 1)), (.ref ((((((((n + 2) + 4) + 1) + 4) + 1) + 5) + 1) + 2)), (.ref ((((((((n + 2) + 4) + 1) + 4) + 1) + 5) + 1) + 3)), (.ref ((((((((n + 2) + 4) + 1) + 4) + 1) + 5) + 1) + 4)), .int 0]),
    .inl (.int, 20, .inl (fun _ => 0)),
    .inl (.int, 20, .inl (fun _ => 0)),
    .inl (.int, 20, .inl (fun _ => 0)),
    .inl (.int, 20, .inl (fun _ => 0)),
    .inl (.int, 20, .inl (fun _ => 0))] := by
  unfold q_X4_init
  have s0 : IS h h a 4 7 n [.null, .null, .null, .null, .null, .int 0, .int 0] [] := IS.go_ ha hn ho rfl
  obtain ⟨h1, e1, s1⟩ := s0.nI (n := n) (ty := .int) (N := 11) (i := 11) (M := 11) rfl ⟨by decide, by decide⟩ (by decide)
  simp only [e1, Option.bind_some]
  obtain ⟨h3, e2, s2⟩ := s1.wr_ (n := (n + 1)) (k := 0) (v := (.ref n)) (by omega) (by decide)
  simp only [e2, Option.bind_some]
  obtain ⟨h5, e3, s3⟩ := s2.nO (n := (n + 1)) (ci := 0) (fs := [.null, .null, .null, .null, .int 0]) rfl
  simp only [e3, Option.bind_some]
  obtain ⟨h7, e4, t4⟩ := i_X0 (K := K) hK (h := h5) (n := (n + 2)) (a := (n + 1)) (by omega) (by omega) (s3.ny (j := 1) rfl)
  have s4 := s3.sb_ (j := 1) (n := (n + 2)) t4 rfl rfl (by decide)
  simp only [e4, Option.bind_some]
  obtain ⟨h12, e5, s5⟩ := s4.wr_ (n := ((n + 2) + 4)) (k := 1) (v := (.ref (n + 1))) (by omega) (by decide)
  simp only [e5, Option.bind_some]
  obtain ⟨h14, e6, s6⟩ := s5.nO (n := ((n + 2) + 4)) (ci := 8) (fs := [.null, .null, .null, .null, .int 0, .int 0]) rfl
  simp only [e6, Option.bind_some]
  obtain ⟨h16, e7, t7⟩ := i_X9 (K := K) hK (h := h14) (n := (((n + 2) + 4) + 1)) (a := ((n + 2) + 4)) (by omega) (by omega) (s6.ny (j := 6) rfl)
  have s7 := s6.sb_ (j := 6) (n := (((n + 2) + 4) + 1)) t7 rfl rfl (by decide)
  simp only [e7, Option.bind_some]
  obtain ⟨h21, e8, s8⟩ := s7.wr_ (n := ((((n + 2) + 4) + 1) + 4)) (k := 2) (v := (.ref ((n + 2) + 4))) (by omega) (by decide)
  simp only [e8, Option.bind_some]
  obtain ⟨h23, e9, s9⟩ := s8.nO (n := ((((n + 2) + 4) + 1) + 4)) (ci := 1) (fs := [.null, .null, .null, .null, .null, .int 0]) rfl
  simp only [e9, Option.bind_some]
  obtain ⟨h25, e10, t10⟩ := i_X1 (K := K) hK (h := h23) (n := (((((n + 2) + 4) + 1) + 4) + 1)) (a := ((((n + 2) + 4) + 1) + 4)) (by omega) (by omega) (s9.ny (j := 11) rfl)
  have s10 := s9.sb_ (j := 11) (n := (((((n + 2) + 4) + 1) + 4) + 1)) t10 rfl rfl (by decide)
  simp only [e10, Option.bind_some]
  obtain ⟨h30, e11, s11⟩ := s10.wr_ (n := ((((((n + 2) + 4) + 1) + 4) + 1) + 5)) (k := 3) (v := (.ref ((((n + 2) + 4) + 1) + 4))) (by omega) (by decide)
  simp only [e11, Option.bind_some]
  obtain ⟨h32, e12, s12⟩ := s11.nO (n := ((((((n + 2) + 4) + 1) + 4) + 1) + 5)) (ci := 1) (fs := [.null, .null, .null, .null, .null, .int 0]) rfl
  simp only [e12, Option.bind_some]
  obtain ⟨h34, e13, t13⟩ := i_X1 (K := K) hK (h := h32) (n := (((((((n + 2) + 4) + 1) + 4) + 1) + 5) + 1)) (a := ((((((n + 2) + 4) + 1) + 4) + 1) + 5)) (by omega) (by omega) (s12.ny (j := 17) rfl)
  have s13 := s12.sb_ (j := 17) (n := (((((((n + 2) + 4) + 1) + 4) + 1) + 5) + 1)) t13 rfl rfl (by decide)
  simp only [e13, Option.bind_some]
  obtain ⟨h39, e14, s14⟩ := s13.wr_ (n := ((((((((n + 2) + 4) + 1) + 4) + 1) + 5) + 1) + 5)) (k := 4) (v := (.ref ((((((n + 2) + 4) + 1) + 4) + 1) + 5))) (by omega) (by decide)
  simp only [e14, Option.bind_some]
  exact ⟨h39, rfl, s14⟩
set_option maxRecDepth 100000 in
set_option maxHeartbeats 4000000 in
theorem i_X7 {K : Nat} (hK : 3000 ≤ K) {h : mm_H} {n a : Nat} {r1 : Nat} (ha : 48 ≤ a) (hn : a < n) (ho : h a = .inr (7, [.null, .null, .null, .null, .null, .null, .null, .null, .null, .null, .null, .int 0, .int 0])) : ∃ h1, q_X7_init K h n a (some r1) = some (h1, n + 73) ∧ IS h h1 a 7 13 n [.ref r1, (.ref (n + 69)), (.ref n), (.ref (n + 1)), (.ref (n + 17)), (.ref (n + 33)), (.ref (n + 34)), (.ref (n + 50)), (.ref (n + 66)), (.ref (n + 67)), (.ref (n + 68)), .int 0, .int 0] [.inl ((.object "WaterReview$RuleBook"), 3, .inr (.inr (.inr (.inr (fun _ => none))))),
    .inl (.array .int, 15, .inr (.inr (.inr (.inr (fun j => if j < 15 then some ((n + 1) + 1 + j) else none))))),
    .inl (.int, 17, .inl (fun _ => 0)),
    .inl (.int, 17, .inl (fun _ => 0)),
    .inl (.int, 17, .inl (fun _ => 0)),
    .inl (.int, 17, .inl (fun _ => 0)),
    .inl (.int, 17, .inl (fun _ => 0)),
    .inl (.int, 17, .inl (fun _ => 0)),
    .inl (.int, 17, .inl (fun _ => 0)),
    .inl (.int, 17, .inl (fun _ => 0)),
    .inl (.int, 17, .inl (fun _ => 0)),
    .inl (.int, 17, .inl (fun _ => 0)),
    .inl (.int, 17, .inl (fun _ => 0)),
    .inl (.int, 17, .inl (fun _ => 0)),
    .inl (.int, 17, .inl (fun _ => 0)),
    .inl (.int, 17, .inl (fun _ => 0)),
    .inl (.int, 17, .inl (fun _ => 0)),
    .inl (.array .int, 15, .inr (.inr (.inr (.inr (fun j => if j < 15 then some ((n + 17) + 1 + j) else none))))),
    .inl (.int, 9, .inl (fun _ => 0)),
    .inl (.int, 9, .inl (fun _ => 0)),
    .inl (.int, 9, .inl (fun _ => 0)),
    .inl (.int, 9, .inl (fun _ => 0)),
    .inl (.int, 9, .inl (fun _ => 0)),
    .inl (.int, 9, .inl (fun _ => 0)),
    .inl (.int, 9, .inl (fun _ => 0)),
    .inl (.int, 9, .inl (fun _ => 0)),
    .inl (.int, 9, .inl (fun _ => 0)),
    .inl (.int, 9, .inl (fun _ => 0)),
    .inl (.int, 9, .inl (fun _ => 0)),
    .inl (.int, 9, .inl (fun _ => 0)),
    .inl (.int, 9, .inl (fun _ => 0)),
    .inl (.int, 9, .inl (fun _ => 0)),
    .inl (.int, 9, .inl (fun _ => 0)),
    .inl (.long, 16, .inr (.inl (fun _ => 0))),
    .inl (.array .long, 15, .inr (.inr (.inr (.inr (fun j => if j < 15 then some ((n + 34) + 1 + j) else none))))),
    .inl (.long, 4, .inr (.inl (fun _ => 0))),
    .inl (.long, 4, .inr (.inl (fun _ => 0))),
    .inl (.long, 4, .inr (.inl (fun _ => 0))),
    .inl (.long, 4, .inr (.inl (fun _ => 0))),
    .inl (.long, 4, .inr (.inl (fun _ => 0))),
    .inl (.long, 4, .inr (.inl (fun _ => 0))),
    .inl (.long, 4, .inr (.inl (fun _ => 0))),
    .inl (.long, 4, .inr (.inl (fun _ => 0))),
    .inl (.long, 4, .inr (.inl (fun _ => 0))),
    .inl (.long, 4, .inr (.inl (fun _ => 0))),
    .inl (.long, 4, .inr (.inl (fun _ => 0))),
    .inl (.long, 4, .inr (.inl (fun _ => 0))),
    .inl (.long, 4, .inr (.inl (fun _ => 0))),
    .inl (.long, 4, .inr (.inl (fun _ => 0))),
    .inl (.long, 4, .inr (.inl (fun _ => 0))),
    .inl (.array .long, 15, .inr (.inr (.inr (.inr (fun j => if j < 15 then some ((n + 50) + 1 + j) else none))))),
    .inl (.long, 15, .inr (.inl (fun _ => 0))),
    .inl (.long, 15, .inr (.inl (fun _ => 0))),
    .inl (.long, 15, .inr (.inl (fun _ => 0))),
    .inl (.long, 15, .inr (.inl (fun _ => 0))),
    .inl (.long, 15, .inr (.inl (fun _ => 0))),
    .inl (.long, 15, .inr (.inl (fun _ => 0))),
    .inl (.long, 15, .inr (.inl (fun _ => 0))),
    .inl (.long, 15, .inr (.inl (fun _ => 0))),
    .inl (.long, 15, .inr (.inl (fun _ => 0))),
    .inl (.long, 15, .inr (.inl (fun _ => 0))),
    .inl (.long, 15, .inr (.inl (fun _ => 0))),
    .inl (.long, 15, .inr (.inl (fun _ => 0))),
    .inl (.long, 15, .inr (.inl (fun _ => 0))),
    .inl (.long, 15, .inr (.inl (fun _ => 0))),
    .inl (.long, 15, .inr (.inl (fun _ => 0))),
    .inl (.long, 15, .inr (.inl (fun _ => 0))),
    .inl (.long, 15, .inr (.inl (fun _ => 0))),
    .inl (.long, 5, .inr (.inl (fun _ => 0))),
    .inr (2, [.ref r1, (.ref (n + 70)), (.ref ((n + 70) + 1)), (.ref ((n + 70) + 2)), .int 0, .long 0, .long 0, .long 0, .long 0, .long 0]),
    .inl (.int, 50, .inl (fun _ => 0)),
    .inl (.int, 50, .inl (fun _ => 0)),
    .inl (.int, 50, .inl (fun _ => 0))] := by
  unfold q_X7_init
  have s0 : IS h h a 7 13 n [.null, .null, .null, .null, .null, .null, .null, .null, .null, .null, .null, .int 0, .int 0] [] := IS.go_ ha hn ho rfl
  obtain ⟨h1, e1, s1⟩ := s0.nA (n := n) (ty := (.object "WaterReview$RuleBook")) (N := 3) (i := 3) (M := 3) rfl ⟨by decide, by decide⟩ (by decide)
  simp only [e1, Option.bind_some]
  obtain ⟨h3, e2, s2⟩ := s1.wr_ (n := (n + 1)) (k := 2) (v := (.ref n)) (by omega) (by decide)
  simp only [e2, Option.bind_some]
  obtain ⟨h5, e3, s3⟩ := s2.nMI (n := (n + 1)) (N := 15) (M := 17) rfl
  simp only [e3, Option.bind_some]
  obtain ⟨h7, e4, s4⟩ := s3.wr_ (n := (n + 17)) (k := 3) (v := (.ref (n + 1))) (by omega) (by decide)
  simp only [e4, Option.bind_some]
  obtain ⟨h9, e5, s5⟩ := s4.nMI (n := (n + 17)) (N := 15) (M := 9) rfl
  simp only [e5, Option.bind_some]
  obtain ⟨h11, e6, s6⟩ := s5.wr_ (n := (n + 33)) (k := 4) (v := (.ref (n + 17))) (by omega) (by decide)
  simp only [e6, Option.bind_some]
  obtain ⟨h13, e7, s7⟩ := s6.nJ (n := (n + 33)) (N := 16) (i := 16) (M := 16) rfl ⟨by decide, by decide⟩ (by decide)
  simp only [e7, Option.bind_some]
  obtain ⟨h15, e8, s8⟩ := s7.wr_ (n := (n + 34)) (k := 5) (v := (.ref (n + 33))) (by omega) (by decide)
  simp only [e8, Option.bind_some]
  obtain ⟨h17, e9, s9⟩ := s8.nMJ (n := (n + 34)) (N := 15) (M := 4) rfl
  simp only [e9, Option.bind_some]
  obtain ⟨h19, e10, s10⟩ := s9.wr_ (n := (n + 50)) (k := 6) (v := (.ref (n + 34))) (by omega) (by decide)
  simp only [e10, Option.bind_some]
  obtain ⟨h21, e11, s11⟩ := s10.nMJ (n := (n + 50)) (N := 15) (M := 15) rfl
  simp only [e11, Option.bind_some]
  obtain ⟨h23, e12, s12⟩ := s11.wr_ (n := (n + 66)) (k := 7) (v := (.ref (n + 50))) (by omega) (by decide)
  simp only [e12, Option.bind_some]
  obtain ⟨h25, e13, s13⟩ := s12.nJ (n := (n + 66)) (N := 15) (i := 15) (M := 15) rfl ⟨by decide, by decide⟩ (by decide)
  simp only [e13, Option.bind_some]
  obtain ⟨h27, e14, s14⟩ := s13.wr_ (n := (n + 67)) (k := 8) (v := (.ref (n + 66))) (by omega) (by decide)
  simp only [e14, Option.bind_some]
  obtain ⟨h29, e15, s15⟩ := s14.nJ (n := (n + 67)) (N := 15) (i := 15) (M := 15) rfl ⟨by decide, by decide⟩ (by decide)
  simp only [e15, Option.bind_some]
  obtain ⟨h31, e16, s16⟩ := s15.wr_ (n := (n + 68)) (k := 9) (v := (.ref (n + 67))) (by omega) (by decide)
  simp only [e16, Option.bind_some]
  obtain ⟨h33, e17, s17⟩ := s16.nJ (n := (n + 68)) (N := 5) (i := 5) (M := 5) rfl ⟨by decide, by decide⟩ (by decide)
  simp only [e17, Option.bind_some]
  obtain ⟨h35, e18, s18⟩ := s17.wr_ (n := (n + 69)) (k := 10) (v := (.ref (n + 68))) (by omega) (by decide)
  simp only [e18, Option.bind_some]
  obtain ⟨h37, e19, s19⟩ := s18.wr_ (n := (n + 69)) (k := 0) (v := (va_rf (some r1))) (by omega) (by decide)
  simp only [e19, Option.bind_some]
  obtain ⟨h39, e20, s20⟩ := s19.nO (n := (n + 69)) (ci := 2) (fs := [.null, .null, .null, .null, .int 0, .long 0, .long 0, .long 0, .long 0, .long 0]) rfl
  simp only [e20, Option.bind_some]
  obtain ⟨h41, e21, t21⟩ := i_X2 (K := K) hK (h := h39) (n := (n + 70)) (a := (n + 69)) (r1 := r1) (by omega) (by omega) (s20.ny (j := 69) rfl)
  have s21 := s20.sb_ (j := 69) (n := (n + 70)) t21 rfl rfl (by decide)
  simp only [e21, Option.bind_some]
  obtain ⟨h46, e22, s22⟩ := s21.wr_ (n := ((n + 70) + 3)) (k := 1) (v := (.ref (n + 69))) (by omega) (by decide)
  simp only [e22, Option.bind_some]
  exact ⟨h46, rfl, s22⟩
set_option maxRecDepth 100000 in
set_option maxHeartbeats 4000000 in
theorem i_X10 {K : Nat} (hK : 3000 ≤ K) {h : mm_H} {n a : Nat} (ha : 48 ≤ a) (hn : a < n) (ho : h a = .inr (9, [.null, .null, .null, .null, .null, .int 0, .null, .int 0, .null, .null, .int 0, .null])) : ∃ h1, q_X10_init K h n a = some (h1, n + 110) ∧ IS h h1 a 9 12 n [(.ref n), (.ref ((n + 1) + 23)), (.ref ((((n + 1) + 23) + 1) + 73)), (.ref ((((((n + 1) + 23) + 1) + 73) + 1) + 3)), (.ref ((((((((n + 1) + 23) + 1) + 73) + 1) + 3) + 1) + 3)), .int 0, (.ref (((((((((n + 1) + 23) + 1) + 73) + 1) + 3) + 1) + 3) + 1)), .int 0, .null, (.ref (((((((((n + 1) + 23) + 1) + 73) + 1) + 3) + 1) + 3) + 2)), .int 0, (.ref (((((((((n + 1) + 23) + 1) + 73) + 1) + 3) + 1) + 3) + 3))] [.inr (4, [(.ref (n + 1)), (.ref ((n + 1) + 1)), (.ref (((n + 1) + 2) + 4)), (.ref (((((n + 1) + 2) + 4) + 1) + 4)), (.ref (((((((n + 1) + 2) + 4) + 1) + 4) + 1) + 5)), .int 0, .int 0]),
    .inl (.int, 11, .inl (fun _ => 0)),
    .inr (0, [(.ref ((n + 1) + 2)), (.ref (((n + 1) + 2) + 1)), (.ref (((n + 1) + 2) + 2)), (.ref (((n + 1) + 2) + 3)), .int 0]),
    .inl (.int, 500, .inl (fun _ => 0)),
    .inl (.int, 500, .inl (fun _ => 0)),
    .inl (.int, 500, .inl (fun _ => 0)),
    .inl (.int, 2805, .inl (fun i => if i < 2805 then (-1) else 0)),
    .inr (8, [(.ref ((((n + 1) + 2) + 4) + 1)), (.ref (((((n + 1) + 2) + 4) + 1) + 1)), (.ref (((((n + 1) + 2) + 4) + 1) + 2)), (.ref (((((n + 1) + 2) + 4) + 1) + 3)), .int 0, .int 0]),
    .inl (.int, 40, .inl (fun _ => 0)),
    .inl (.int, 40, .inl (fun _ => 0)),
    .inl (.int, 40, .inl (fun _ => 0)),
    .inl (.int, 40, .inl (fun _ => 0)),
    .inr (1, [(.ref ((((((n + 1) + 2) + 4) + 1) + 4) + 1)), (.ref (((((((n + 1) + 2) + 4) + 1) + 4) + 1) + 1)), (.ref (((((((n + 1) + 2) + 4) + 1) + 4) + 1) + 2)), (.ref (((((((n + 1) + 2) + 4) + 1) + 4) + 1) + 3)), (.ref (((((((n + 1) + 2) + 4) + 1) + 4) + 1) + 4)), .int 0]),
    .inl (.int, 20, .inl (fun _ => 0)),
    .inl (.int, 20, .inl (fun _ => 0)),
    .inl (.int, 20, .inl (fun _ => 0)),
    .inl (.int, 20, .inl (fun _ => 0)),
    .inl (.int, 20, .inl (fun _ => 0)),
    .inr (1, [(.ref ((((((((n + 1) + 2) + 4) + 1) + 4) + 1) + 5) + 1)), (.ref (((((((((n + 1) + 2) + 4) + 1) + 4) + 1) + 5) + 1) + 1)), (.ref (((((((((n + 1) + 2) + 4) + 1) + 4) + 1) + 5) + 1) + 2)), (.ref (((((((((n + 1) + 2) + 4) + 1) + 4) + 1) + 5) + 1) + 3)), (.ref (((((((((n + 1) + 2) + 4) + 1) + 4) + 1) + 5) + 1) + 4)), .int 0]),
    .inl (.int, 20, .inl (fun _ => 0)),
    .inl (.int, 20, .inl (fun _ => 0)),
    .inl (.int, 20, .inl (fun _ => 0)),
    .inl (.int, 20, .inl (fun _ => 0)),
    .inl (.int, 20, .inl (fun _ => 0)),
    .inr (7, [.ref n, (.ref ((((n + 1) + 23) + 1) + 69)), (.ref (((n + 1) + 23) + 1)), (.ref ((((n + 1) + 23) + 1) + 1)), (.ref ((((n + 1) + 23) + 1) + 17)), (.ref ((((n + 1) + 23) + 1) + 33)), (.ref ((((n + 1) + 23) + 1) + 34)), (.ref ((((n + 1) + 23) + 1) + 50)), (.ref ((((n + 1) + 23) + 1) + 66)), (.ref ((((n + 1) + 23) + 1) + 67)), (.ref ((((n + 1) + 23) + 1) + 68)), .int 0, .int 0]),
    .inl ((.object "WaterReview$RuleBook"), 3, .inr (.inr (.inr (.inr (fun _ => none))))),
    .inl (.array .int, 15, .inr (.inr (.inr (.inr (fun j => if j < 15 then some (((((n + 1) + 23) + 1) + 1) + 1 + j) else none))))),
    .inl (.int, 17, .inl (fun _ => 0)),
    .inl (.int, 17, .inl (fun _ => 0)),
    .inl (.int, 17, .inl (fun _ => 0)),
    .inl (.int, 17, .inl (fun _ => 0)),
    .inl (.int, 17, .inl (fun _ => 0)),
    .inl (.int, 17, .inl (fun _ => 0)),
    .inl (.int, 17, .inl (fun _ => 0)),
    .inl (.int, 17, .inl (fun _ => 0)),
    .inl (.int, 17, .inl (fun _ => 0)),
    .inl (.int, 17, .inl (fun _ => 0)),
    .inl (.int, 17, .inl (fun _ => 0)),
    .inl (.int, 17, .inl (fun _ => 0)),
    .inl (.int, 17, .inl (fun _ => 0)),
    .inl (.int, 17, .inl (fun _ => 0)),
    .inl (.int, 17, .inl (fun _ => 0)),
    .inl (.array .int, 15, .inr (.inr (.inr (.inr (fun j => if j < 15 then some (((((n + 1) + 23) + 1) + 17) + 1 + j) else none))))),
    .inl (.int, 9, .inl (fun _ => 0)),
    .inl (.int, 9, .inl (fun _ => 0)),
    .inl (.int, 9, .inl (fun _ => 0)),
    .inl (.int, 9, .inl (fun _ => 0)),
    .inl (.int, 9, .inl (fun _ => 0)),
    .inl (.int, 9, .inl (fun _ => 0)),
    .inl (.int, 9, .inl (fun _ => 0)),
    .inl (.int, 9, .inl (fun _ => 0)),
    .inl (.int, 9, .inl (fun _ => 0)),
    .inl (.int, 9, .inl (fun _ => 0)),
    .inl (.int, 9, .inl (fun _ => 0)),
    .inl (.int, 9, .inl (fun _ => 0)),
    .inl (.int, 9, .inl (fun _ => 0)),
    .inl (.int, 9, .inl (fun _ => 0)),
    .inl (.int, 9, .inl (fun _ => 0)),
    .inl (.long, 16, .inr (.inl (fun _ => 0))),
    .inl (.array .long, 15, .inr (.inr (.inr (.inr (fun j => if j < 15 then some (((((n + 1) + 23) + 1) + 34) + 1 + j) else none))))),
    .inl (.long, 4, .inr (.inl (fun _ => 0))),
    .inl (.long, 4, .inr (.inl (fun _ => 0))),
    .inl (.long, 4, .inr (.inl (fun _ => 0))),
    .inl (.long, 4, .inr (.inl (fun _ => 0))),
    .inl (.long, 4, .inr (.inl (fun _ => 0))),
    .inl (.long, 4, .inr (.inl (fun _ => 0))),
    .inl (.long, 4, .inr (.inl (fun _ => 0))),
    .inl (.long, 4, .inr (.inl (fun _ => 0))),
    .inl (.long, 4, .inr (.inl (fun _ => 0))),
    .inl (.long, 4, .inr (.inl (fun _ => 0))),
    .inl (.long, 4, .inr (.inl (fun _ => 0))),
    .inl (.long, 4, .inr (.inl (fun _ => 0))),
    .inl (.long, 4, .inr (.inl (fun _ => 0))),
    .inl (.long, 4, .inr (.inl (fun _ => 0))),
    .inl (.long, 4, .inr (.inl (fun _ => 0))),
    .inl (.array .long, 15, .inr (.inr (.inr (.inr (fun j => if j < 15 then some (((((n + 1) + 23) + 1) + 50) + 1 + j) else none))))),
    .inl (.long, 15, .inr (.inl (fun _ => 0))),
    .inl (.long, 15, .inr (.inl (fun _ => 0))),
    .inl (.long, 15, .inr (.inl (fun _ => 0))),
    .inl (.long, 15, .inr (.inl (fun _ => 0))),
    .inl (.long, 15, .inr (.inl (fun _ => 0))),
    .inl (.long, 15, .inr (.inl (fun _ => 0))),
    .inl (.long, 15, .inr (.inl (fun _ => 0))),
    .inl (.long, 15, .inr (.inl (fun _ => 0))),
    .inl (.long, 15, .inr (.inl (fun _ => 0))),
    .inl (.long, 15, .inr (.inl (fun _ => 0))),
    .inl (.long, 15, .inr (.inl (fun _ => 0))),
    .inl (.long, 15, .inr (.inl (fun _ => 0))),
    .inl (.long, 15, .inr (.inl (fun _ => 0))),
    .inl (.long, 15, .inr (.inl (fun _ => 0))),
    .inl (.long, 15, .inr (.inl (fun _ => 0))),
    .inl (.long, 15, .inr (.inl (fun _ => 0))),
    .inl (.long, 15, .inr (.inl (fun _ => 0))),
    .inl (.long, 5, .inr (.inl (fun _ => 0))),
    .inr (2, [.ref n, (.ref ((((n + 1) + 23) + 1) + 70)), (.ref (((((n + 1) + 23) + 1) + 70) + 1)), (.ref (((((n + 1) + 23) + 1) + 70) + 2)), .int 0, .long 0, .long 0, .long 0, .long 0, .long 0]),
    .inl (.int, 50, .inl (fun _ => 0)),
    .inl (.int, 50, .inl (fun _ => 0)),
    .inl (.int, 50, .inl (fun _ => 0)),
    .inr (2, [.ref n, (.ref (((((n + 1) + 23) + 1) + 73) + 1)), (.ref ((((((n + 1) + 23) + 1) + 73) + 1) + 1)), (.ref ((((((n + 1) + 23) + 1) + 73) + 1) + 2)), .int 0, .long 0, .long 0, .long 0, .long 0, .long 0]),
    .inl (.int, 50, .inl (fun _ => 0)),
    .inl (.int, 50, .inl (fun _ => 0)),
    .inl (.int, 50, .inl (fun _ => 0)),
    .inr (3, [(.ref 2), .int 0, .int 0, .int 0, .int 0, (.int (-1)), (.ref (((((((n + 1) + 23) + 1) + 73) + 1) + 3) + 1)), .int 0, (.ref ((((((((n + 1) + 23) + 1) + 73) + 1) + 3) + 1) + 1)), .int 0, (.ref ((((((((n + 1) + 23) + 1) + 73) + 1) + 3) + 1) + 2)), .int 0]),
    .inl (.int, 270, .inl (fun _ => 0)),
    .inl ((.object "WaterReview$Rule"), 30, .inr (.inr (.inr (.inr (fun _ => none))))),
    .inl (.int, 900, .inl (fun _ => 0)),
    .inl (.int, 900, .inl (fun _ => 0)),
    .inl ((.object "WaterReview$RuleBook"), 8, .inr (.inr (.inr (.inr (fun _ => none))))),
    .inl ((.object "WaterReview$RuleBook"), 4, .inr (.inr (.inr (.inr (fun _ => none))))),
    .inl (.int, 15, .inl (fun _ => 0))] := by
  unfold q_X10_init
  have s0 : IS h h a 9 12 n [.null, .null, .null, .null, .null, .int 0, .null, .int 0, .null, .null, .int 0, .null] [] := IS.go_ ha hn ho rfl
  obtain ⟨h1, e1, s1⟩ := s0.nO (n := n) (ci := 4) (fs := [.null, .null, .null, .null, .null, .int 0, .int 0]) rfl
  simp only [e1, Option.bind_some]
  obtain ⟨h3, e2, t2⟩ := i_X4 (K := K) hK (h := h1) (n := (n + 1)) (a := n) (by omega) (by omega) (s1.ny (j := 0) rfl)
  have s2 := s1.sb_ (j := 0) (n := (n + 1)) t2 rfl rfl (by decide)
  simp only [e2, Option.bind_some]
  obtain ⟨h8, e3, s3⟩ := s2.wr_ (n := ((n + 1) + 23)) (k := 0) (v := (.ref n)) (by omega) (by decide)
  simp only [e3, Option.bind_some]
  obtain ⟨h10, e4, s4⟩ := s3.nO (n := ((n + 1) + 23)) (ci := 7) (fs := [.null, .null, .null, .null, .null, .null, .null, .null, .null, .null, .null, .int 0, .int 0]) rfl
  simp only [e4, Option.bind_some]
  have e5 := s4.rd_ (n := (((n + 1) + 23) + 1)) (k := 0) (x := n) (by omega) rfl
  simp only [e5, Option.bind_some]
  have s5 := s4
  obtain ⟨h14, e6, t6⟩ := i_X7 (K := K) hK (h := h10) (n := (((n + 1) + 23) + 1)) (a := ((n + 1) + 23)) (r1 := n) (by omega) (by omega) (s5.ny (j := 24) rfl)
  have s6 := s5.sb_ (j := 24) (n := (((n + 1) + 23) + 1)) t6 rfl rfl (by decide)
  simp only [e6, Option.bind_some]
  obtain ⟨h19, e7, s7⟩ := s6.wr_ (n := ((((n + 1) + 23) + 1) + 73)) (k := 1) (v := (.ref ((n + 1) + 23))) (by omega) (by decide)
  simp only [e7, Option.bind_some]
  obtain ⟨h21, e8, s8⟩ := s7.nO (n := ((((n + 1) + 23) + 1) + 73)) (ci := 2) (fs := [.null, .null, .null, .null, .int 0, .long 0, .long 0, .long 0, .long 0, .long 0]) rfl
  simp only [e8, Option.bind_some]
  have e9 := s8.rd_ (n := (((((n + 1) + 23) + 1) + 73) + 1)) (k := 0) (x := n) (by omega) rfl
  simp only [e9, Option.bind_some]
  have s9 := s8
  obtain ⟨h25, e10, t10⟩ := i_X2 (K := K) hK (h := h21) (n := (((((n + 1) + 23) + 1) + 73) + 1)) (a := ((((n + 1) + 23) + 1) + 73)) (r1 := n) (by omega) (by omega) (s9.ny (j := 98) rfl)
  have s10 := s9.sb_ (j := 98) (n := (((((n + 1) + 23) + 1) + 73) + 1)) t10 rfl rfl (by decide)
  simp only [e10, Option.bind_some]
  obtain ⟨h30, e11, s11⟩ := s10.wr_ (n := ((((((n + 1) + 23) + 1) + 73) + 1) + 3)) (k := 2) (v := (.ref ((((n + 1) + 23) + 1) + 73))) (by omega) (by decide)
  simp only [e11, Option.bind_some]
  obtain ⟨h32, e12, s12⟩ := s11.nO (n := ((((((n + 1) + 23) + 1) + 73) + 1) + 3)) (ci := 3) (fs := [.null, .int 0, .int 0, .int 0, .int 0, .int 0, .null, .int 0, .null, .int 0, .null, .int 0]) rfl
  simp only [e12, Option.bind_some]
  obtain ⟨h34, e13, t13⟩ := i_X3 (K := K) hK (h := h32) (n := (((((((n + 1) + 23) + 1) + 73) + 1) + 3) + 1)) (a := ((((((n + 1) + 23) + 1) + 73) + 1) + 3)) (by omega) (by omega) (s12.ny (j := 102) rfl)
  have s13 := s12.sb_ (j := 102) (n := (((((((n + 1) + 23) + 1) + 73) + 1) + 3) + 1)) t13 rfl rfl (by decide)
  simp only [e13, Option.bind_some]
  obtain ⟨h39, e14, s14⟩ := s13.wr_ (n := ((((((((n + 1) + 23) + 1) + 73) + 1) + 3) + 1) + 3)) (k := 3) (v := (.ref ((((((n + 1) + 23) + 1) + 73) + 1) + 3))) (by omega) (by decide)
  simp only [e14, Option.bind_some]
  obtain ⟨h41, e15, s15⟩ := s14.nI (n := ((((((((n + 1) + 23) + 1) + 73) + 1) + 3) + 1) + 3)) (ty := .int) (N := 900) (i := 900) (M := 900) rfl ⟨by decide, by decide⟩ (by decide)
  simp only [e15, Option.bind_some]
  obtain ⟨h43, e16, s16⟩ := s15.wr_ (n := (((((((((n + 1) + 23) + 1) + 73) + 1) + 3) + 1) + 3) + 1)) (k := 4) (v := (.ref ((((((((n + 1) + 23) + 1) + 73) + 1) + 3) + 1) + 3))) (by omega) (by decide)
  simp only [e16, Option.bind_some]
  obtain ⟨h45, e17, s17⟩ := s16.nA (n := (((((((((n + 1) + 23) + 1) + 73) + 1) + 3) + 1) + 3) + 1)) (ty := (.object "WaterReview$RuleBook")) (N := 8) (i := 8) (M := 8) rfl ⟨by decide, by decide⟩ (by decide)
  simp only [e17, Option.bind_some]
  obtain ⟨h47, e18, s18⟩ := s17.wr_ (n := (((((((((n + 1) + 23) + 1) + 73) + 1) + 3) + 1) + 3) + 2)) (k := 6) (v := (.ref (((((((((n + 1) + 23) + 1) + 73) + 1) + 3) + 1) + 3) + 1))) (by omega) (by decide)
  simp only [e18, Option.bind_some]
  obtain ⟨h49, e19, s19⟩ := s18.nA (n := (((((((((n + 1) + 23) + 1) + 73) + 1) + 3) + 1) + 3) + 2)) (ty := (.object "WaterReview$RuleBook")) (N := 4) (i := 4) (M := 4) rfl ⟨by decide, by decide⟩ (by decide)
  simp only [e19, Option.bind_some]
  obtain ⟨h51, e20, s20⟩ := s19.wr_ (n := (((((((((n + 1) + 23) + 1) + 73) + 1) + 3) + 1) + 3) + 3)) (k := 9) (v := (.ref (((((((((n + 1) + 23) + 1) + 73) + 1) + 3) + 1) + 3) + 2))) (by omega) (by decide)
  simp only [e20, Option.bind_some]
  obtain ⟨h53, e21, s21⟩ := s20.nI (n := (((((((((n + 1) + 23) + 1) + 73) + 1) + 3) + 1) + 3) + 3)) (ty := .int) (N := 15) (i := 15) (M := 15) rfl ⟨by decide, by decide⟩ (by decide)
  simp only [e21, Option.bind_some]
  obtain ⟨h55, e22, s22⟩ := s21.wr_ (n := (((((((((n + 1) + 23) + 1) + 73) + 1) + 3) + 1) + 3) + 4)) (k := 11) (v := (.ref (((((((((n + 1) + 23) + 1) + 73) + 1) + 3) + 1) + 3) + 3))) (by omega) (by decide)
  simp only [e22, Option.bind_some]
  exact ⟨h55, rfl, s22⟩
set_option maxRecDepth 100000 in
set_option maxHeartbeats 4000000 in
theorem i_X11 {K : Nat} (hK : 3000 ≤ K) {h : mm_H} {n a : Nat} (ha : 48 ≤ a) (hn : a < n) (ho : h a = .inr (10, [.int 0, .int 0, .int 0, .null, .null, .null, .null, .null, .int 0, .int 0, .int 0, .null, .null, .null, .null, .null, .null, .null, .null, .null, .null, .null, .null, .null, .int 0, .int 0, .int 0, .int 0, .int 0, .int 0, .int 0, .int 0, .null, .null, .null, .null, .null, .null, .null, .null, .null, .null, .null, .null, .null, .null, .null, .null, .null, .null, .null, .null, .null, .null, .int 0, .int 0, .int 0, .int 0, .null, .null, .null, .null, .null, .null, .null, .int 0, .long 0, .null])) : ∃ h1, q_X11_init K h n a = some (h1, n + 48) ∧ IS h h1 a 10 68 n [.int 0, .int 0, .int 0, (.ref n), (.ref (n + 1)), (.ref (n + 2)), (.ref (n + 3)), (.ref (n + 4)), .int 0, .int 0, .int 0, (.ref (n + 5)), (.ref (n + 6)), (.ref (n + 7)), (.ref (n + 8)), (.ref (n + 9)), (.ref (n + 10)), (.ref (n + 11)), (.ref (n + 12)), (.ref (n + 13)), (.ref (n + 14)), (.ref (n + 15)), (.ref (n + 16)), (.ref (n + 17)), .int 0, .int 0, .int 0, .int 0, .int 0, .int 0, (.int (-1)), .int 0, (.ref (n + 18)), (.ref (n + 19)), (.ref (n + 20)), (.ref (n + 21)), (.ref (n + 22)), (.ref (n + 23)), (.ref (n + 24)), (.ref (n + 25)), (.ref (n + 26)), (.ref (n + 27)), (.ref (n + 28)), (.ref (n + 29)), (.ref (n + 30)), (.ref (n + 31)), (.ref (n + 32)), (.ref (n + 33)), (.ref (n + 34)), (.ref (n + 35)), (.ref (n + 36)), (.ref (n + 37)), (.ref (n + 38)), (.ref (n + 39)), .int 0, .int 0, (.int (-1)), .int 0, (.ref (n + 40)), (.ref (n + 41)), (.ref (n + 42)), (.ref (n + 43)), (.ref (n + 44)), (.ref (n + 45)), (.ref (n + 46)), .int 0, .long 0, (.ref (n + 47))] [.inl (.int, 500, .inl (fun _ => 0)),
    .inl (.int, 500, .inl (fun _ => 0)),
    .inl (.long, 11, .inr (.inl (fun _ => 0))),
    .inl (.int, 2805, .inl (fun i => if i < 2805 then (-1) else 0)),
    .inl (.int, 500, .inl (fun _ => 0)),
    .inl (.int, 40, .inl (fun _ => 0)),
    .inl (.int, 40, .inl (fun _ => 0)),
    .inl (.int, 40, .inl (fun _ => 0)),
    .inl (.int, 40, .inl (fun _ => 0)),
    .inl (.int, 20, .inl (fun _ => 0)),
    .inl (.int, 20, .inl (fun _ => 0)),
    .inl (.int, 20, .inl (fun _ => 0)),
    .inl (.int, 20, .inl (fun _ => 0)),
    .inl (.int, 20, .inl (fun _ => 0)),
    .inl (.int, 20, .inl (fun _ => 0)),
    .inl (.int, 20, .inl (fun _ => 0)),
    .inl (.int, 20, .inl (fun _ => 0)),
    .inl (.int, 20, .inl (fun _ => 0)),
    .inl (.int, 14, .inl (fun _ => 0)),
    .inl (.int, 14, .inl (fun _ => 0)),
    .inl (.int, 14, .inl (fun _ => 0)),
    .inl (.int, 14, .inl (fun _ => 0)),
    .inl (.int, 4200, .inl (fun _ => 0)),
    .inl (.int, 4200, .inl (fun _ => 0)),
    .inl (.int, 4200, .inl (fun _ => 0)),
    .inl (.int, 4200, .inl (fun _ => 0)),
    .inl (.int, 4200, .inl (fun _ => 0)),
    .inl (.int, 4200, .inl (fun _ => 0)),
    .inl (.int, 4200, .inl (fun _ => 0)),
    .inl (.int, 4200, .inl (fun _ => 0)),
    .inl (.int, 4200, .inl (fun _ => 0)),
    .inl (.int, 91000, .inl (fun _ => 0)),
    .inl (.int, 91000, .inl (fun _ => 0)),
    .inl (.int, 91000, .inl (fun _ => 0)),
    .inl (.int, 91000, .inl (fun _ => 0)),
    .inl (.int, 91000, .inl (fun _ => 0)),
    .inl (.int, 91000, .inl (fun _ => 0)),
    .inl (.boolean, 300, .inl (fun _ => 0)),
    .inl (.byte, 900, .inl (fun _ => 0)),
    .inl (.byte, 900, .inl (fun _ => 0)),
    .inl (.long, 16, .inr (.inl (fun _ => 0))),
    .inl (.int, 15, .inl (fun _ => 0)),
    .inl (.int, 15, .inl (fun _ => 0)),
    .inl (.long, 5, .inr (.inl (fun _ => 0))),
    .inl (.int, 50, .inl (fun _ => 0)),
    .inl (.int, 50, .inl (fun _ => 0)),
    .inl (.int, 50, .inl (fun _ => 0)),
    .inl (.int, 15, .inl (fun _ => 0))] := by
  unfold q_X11_init
  have s0 : IS h h a 10 68 n [.int 0, .int 0, .int 0, .null, .null, .null, .null, .null, .int 0, .int 0, .int 0, .null, .null, .null, .null, .null, .null, .null, .null, .null, .null, .null, .null, .null, .int 0, .int 0, .int 0, .int 0, .int 0, .int 0, .int 0, .int 0, .null, .null, .null, .null, .null, .null, .null, .null, .null, .null, .null, .null, .null, .null, .null, .null, .null, .null, .null, .null, .null, .null, .int 0, .int 0, .int 0, .int 0, .null, .null, .null, .null, .null, .null, .null, .int 0, .long 0, .null] [] := IS.go_ ha hn ho rfl
  obtain ⟨h1, e1, s1⟩ := s0.nI (n := n) (ty := .int) (N := 500) (i := 500) (M := 500) rfl ⟨by decide, by decide⟩ (by decide)
  simp only [e1, Option.bind_some]
  obtain ⟨h3, e2, s2⟩ := s1.wr_ (n := (n + 1)) (k := 3) (v := (.ref n)) (by omega) (by decide)
  simp only [e2, Option.bind_some]
  obtain ⟨h5, e3, s3⟩ := s2.nI (n := (n + 1)) (ty := .int) (N := 500) (i := 500) (M := 500) rfl ⟨by decide, by decide⟩ (by decide)
  simp only [e3, Option.bind_some]
  obtain ⟨h7, e4, s4⟩ := s3.wr_ (n := (n + 2)) (k := 4) (v := (.ref (n + 1))) (by omega) (by decide)
  simp only [e4, Option.bind_some]
  obtain ⟨h9, e5, s5⟩ := s4.nJ (n := (n + 2)) (N := 11) (i := 11) (M := 11) rfl ⟨by decide, by decide⟩ (by decide)
  simp only [e5, Option.bind_some]
  obtain ⟨h11, e6, s6⟩ := s5.wr_ (n := (n + 3)) (k := 5) (v := (.ref (n + 2))) (by omega) (by decide)
  simp only [e6, Option.bind_some]
  obtain ⟨h13, e7, s7⟩ := s6.nI (n := (n + 3)) (ty := .int) (N := 2805) (i := 2805) (M := 2805) rfl ⟨by decide, by decide⟩ (by decide)
  simp only [e7, Option.bind_some]
  obtain ⟨h15, e8, s8⟩ := s7.wr_ (n := (n + 4)) (k := 6) (v := (.ref (n + 3))) (by omega) (by decide)
  simp only [e8, Option.bind_some]
  obtain ⟨h17, e9, s9⟩ := s8.nI (n := (n + 4)) (ty := .int) (N := 500) (i := 500) (M := 500) rfl ⟨by decide, by decide⟩ (by decide)
  simp only [e9, Option.bind_some]
  obtain ⟨h19, e10, s10⟩ := s9.wr_ (n := (n + 5)) (k := 7) (v := (.ref (n + 4))) (by omega) (by decide)
  simp only [e10, Option.bind_some]
  obtain ⟨h21, e11, s11⟩ := s10.nI (n := (n + 5)) (ty := .int) (N := 40) (i := 40) (M := 40) rfl ⟨by decide, by decide⟩ (by decide)
  simp only [e11, Option.bind_some]
  obtain ⟨h23, e12, s12⟩ := s11.wr_ (n := (n + 6)) (k := 11) (v := (.ref (n + 5))) (by omega) (by decide)
  simp only [e12, Option.bind_some]
  obtain ⟨h25, e13, s13⟩ := s12.nI (n := (n + 6)) (ty := .int) (N := 40) (i := 40) (M := 40) rfl ⟨by decide, by decide⟩ (by decide)
  simp only [e13, Option.bind_some]
  obtain ⟨h27, e14, s14⟩ := s13.wr_ (n := (n + 7)) (k := 12) (v := (.ref (n + 6))) (by omega) (by decide)
  simp only [e14, Option.bind_some]
  obtain ⟨h29, e15, s15⟩ := s14.nI (n := (n + 7)) (ty := .int) (N := 40) (i := 40) (M := 40) rfl ⟨by decide, by decide⟩ (by decide)
  simp only [e15, Option.bind_some]
  obtain ⟨h31, e16, s16⟩ := s15.wr_ (n := (n + 8)) (k := 13) (v := (.ref (n + 7))) (by omega) (by decide)
  simp only [e16, Option.bind_some]
  obtain ⟨h33, e17, s17⟩ := s16.nI (n := (n + 8)) (ty := .int) (N := 40) (i := 40) (M := 40) rfl ⟨by decide, by decide⟩ (by decide)
  simp only [e17, Option.bind_some]
  obtain ⟨h35, e18, s18⟩ := s17.wr_ (n := (n + 9)) (k := 14) (v := (.ref (n + 8))) (by omega) (by decide)
  simp only [e18, Option.bind_some]
  obtain ⟨h37, e19, s19⟩ := s18.nI (n := (n + 9)) (ty := .int) (N := 20) (i := 20) (M := 20) rfl ⟨by decide, by decide⟩ (by decide)
  simp only [e19, Option.bind_some]
  obtain ⟨h39, e20, s20⟩ := s19.wr_ (n := (n + 10)) (k := 15) (v := (.ref (n + 9))) (by omega) (by decide)
  simp only [e20, Option.bind_some]
  obtain ⟨h41, e21, s21⟩ := s20.nI (n := (n + 10)) (ty := .int) (N := 20) (i := 20) (M := 20) rfl ⟨by decide, by decide⟩ (by decide)
  simp only [e21, Option.bind_some]
  obtain ⟨h43, e22, s22⟩ := s21.wr_ (n := (n + 11)) (k := 16) (v := (.ref (n + 10))) (by omega) (by decide)
  simp only [e22, Option.bind_some]
  obtain ⟨h45, e23, s23⟩ := s22.nI (n := (n + 11)) (ty := .int) (N := 20) (i := 20) (M := 20) rfl ⟨by decide, by decide⟩ (by decide)
  simp only [e23, Option.bind_some]
  obtain ⟨h47, e24, s24⟩ := s23.wr_ (n := (n + 12)) (k := 17) (v := (.ref (n + 11))) (by omega) (by decide)
  simp only [e24, Option.bind_some]
  obtain ⟨h49, e25, s25⟩ := s24.nI (n := (n + 12)) (ty := .int) (N := 20) (i := 20) (M := 20) rfl ⟨by decide, by decide⟩ (by decide)
  simp only [e25, Option.bind_some]
  obtain ⟨h51, e26, s26⟩ := s25.wr_ (n := (n + 13)) (k := 18) (v := (.ref (n + 12))) (by omega) (by decide)
  simp only [e26, Option.bind_some]
  obtain ⟨h53, e27, s27⟩ := s26.nI (n := (n + 13)) (ty := .int) (N := 20) (i := 20) (M := 20) rfl ⟨by decide, by decide⟩ (by decide)
  simp only [e27, Option.bind_some]
  obtain ⟨h55, e28, s28⟩ := s27.wr_ (n := (n + 14)) (k := 19) (v := (.ref (n + 13))) (by omega) (by decide)
  simp only [e28, Option.bind_some]
  obtain ⟨h57, e29, s29⟩ := s28.nI (n := (n + 14)) (ty := .int) (N := 20) (i := 20) (M := 20) rfl ⟨by decide, by decide⟩ (by decide)
  simp only [e29, Option.bind_some]
  obtain ⟨h59, e30, s30⟩ := s29.wr_ (n := (n + 15)) (k := 20) (v := (.ref (n + 14))) (by omega) (by decide)
  simp only [e30, Option.bind_some]
  obtain ⟨h61, e31, s31⟩ := s30.nI (n := (n + 15)) (ty := .int) (N := 20) (i := 20) (M := 20) rfl ⟨by decide, by decide⟩ (by decide)
  simp only [e31, Option.bind_some]
  obtain ⟨h63, e32, s32⟩ := s31.wr_ (n := (n + 16)) (k := 21) (v := (.ref (n + 15))) (by omega) (by decide)
  simp only [e32, Option.bind_some]
  obtain ⟨h65, e33, s33⟩ := s32.nI (n := (n + 16)) (ty := .int) (N := 20) (i := 20) (M := 20) rfl ⟨by decide, by decide⟩ (by decide)
  simp only [e33, Option.bind_some]
  obtain ⟨h67, e34, s34⟩ := s33.wr_ (n := (n + 17)) (k := 22) (v := (.ref (n + 16))) (by omega) (by decide)
  simp only [e34, Option.bind_some]
  obtain ⟨h69, e35, s35⟩ := s34.nI (n := (n + 17)) (ty := .int) (N := 20) (i := 20) (M := 20) rfl ⟨by decide, by decide⟩ (by decide)
  simp only [e35, Option.bind_some]
  obtain ⟨h71, e36, s36⟩ := s35.wr_ (n := (n + 18)) (k := 23) (v := (.ref (n + 17))) (by omega) (by decide)
  simp only [e36, Option.bind_some]
  obtain ⟨h73, e37, s37⟩ := s36.wr_ (n := (n + 18)) (k := 30) (v := (.int (-1))) (by omega) (by decide)
  simp only [e37, Option.bind_some]
  obtain ⟨h75, e38, s38⟩ := s37.nI (n := (n + 18)) (ty := .int) (N := 14) (i := 14) (M := 14) rfl ⟨by decide, by decide⟩ (by decide)
  simp only [e38, Option.bind_some]
  obtain ⟨h77, e39, s39⟩ := s38.wr_ (n := (n + 19)) (k := 32) (v := (.ref (n + 18))) (by omega) (by decide)
  simp only [e39, Option.bind_some]
  obtain ⟨h79, e40, s40⟩ := s39.nI (n := (n + 19)) (ty := .int) (N := 14) (i := 14) (M := 14) rfl ⟨by decide, by decide⟩ (by decide)
  simp only [e40, Option.bind_some]
  obtain ⟨h81, e41, s41⟩ := s40.wr_ (n := (n + 20)) (k := 33) (v := (.ref (n + 19))) (by omega) (by decide)
  simp only [e41, Option.bind_some]
  obtain ⟨h83, e42, s42⟩ := s41.nI (n := (n + 20)) (ty := .int) (N := 14) (i := 14) (M := 14) rfl ⟨by decide, by decide⟩ (by decide)
  simp only [e42, Option.bind_some]
  obtain ⟨h85, e43, s43⟩ := s42.wr_ (n := (n + 21)) (k := 34) (v := (.ref (n + 20))) (by omega) (by decide)
  simp only [e43, Option.bind_some]
  obtain ⟨h87, e44, s44⟩ := s43.nI (n := (n + 21)) (ty := .int) (N := 14) (i := 14) (M := 14) rfl ⟨by decide, by decide⟩ (by decide)
  simp only [e44, Option.bind_some]
  obtain ⟨h89, e45, s45⟩ := s44.wr_ (n := (n + 22)) (k := 35) (v := (.ref (n + 21))) (by omega) (by decide)
  simp only [e45, Option.bind_some]
  obtain ⟨h91, e46, s46⟩ := s45.nI (n := (n + 22)) (ty := .int) (N := 4200) (i := 4200) (M := 4200) rfl ⟨by decide, by decide⟩ (by decide)
  simp only [e46, Option.bind_some]
  obtain ⟨h93, e47, s47⟩ := s46.wr_ (n := (n + 23)) (k := 36) (v := (.ref (n + 22))) (by omega) (by decide)
  simp only [e47, Option.bind_some]
  obtain ⟨h95, e48, s48⟩ := s47.nI (n := (n + 23)) (ty := .int) (N := 4200) (i := 4200) (M := 4200) rfl ⟨by decide, by decide⟩ (by decide)
  simp only [e48, Option.bind_some]
  obtain ⟨h97, e49, s49⟩ := s48.wr_ (n := (n + 24)) (k := 37) (v := (.ref (n + 23))) (by omega) (by decide)
  simp only [e49, Option.bind_some]
  obtain ⟨h99, e50, s50⟩ := s49.nI (n := (n + 24)) (ty := .int) (N := 4200) (i := 4200) (M := 4200) rfl ⟨by decide, by decide⟩ (by decide)
  simp only [e50, Option.bind_some]
  obtain ⟨h101, e51, s51⟩ := s50.wr_ (n := (n + 25)) (k := 38) (v := (.ref (n + 24))) (by omega) (by decide)
  simp only [e51, Option.bind_some]
  obtain ⟨h103, e52, s52⟩ := s51.nI (n := (n + 25)) (ty := .int) (N := 4200) (i := 4200) (M := 4200) rfl ⟨by decide, by decide⟩ (by decide)
  simp only [e52, Option.bind_some]
  obtain ⟨h105, e53, s53⟩ := s52.wr_ (n := (n + 26)) (k := 39) (v := (.ref (n + 25))) (by omega) (by decide)
  simp only [e53, Option.bind_some]
  obtain ⟨h107, e54, s54⟩ := s53.nI (n := (n + 26)) (ty := .int) (N := 4200) (i := 4200) (M := 4200) rfl ⟨by decide, by decide⟩ (by decide)
  simp only [e54, Option.bind_some]
  obtain ⟨h109, e55, s55⟩ := s54.wr_ (n := (n + 27)) (k := 40) (v := (.ref (n + 26))) (by omega) (by decide)
  simp only [e55, Option.bind_some]
  obtain ⟨h111, e56, s56⟩ := s55.nI (n := (n + 27)) (ty := .int) (N := 4200) (i := 4200) (M := 4200) rfl ⟨by decide, by decide⟩ (by decide)
  simp only [e56, Option.bind_some]
  obtain ⟨h113, e57, s57⟩ := s56.wr_ (n := (n + 28)) (k := 41) (v := (.ref (n + 27))) (by omega) (by decide)
  simp only [e57, Option.bind_some]
  obtain ⟨h115, e58, s58⟩ := s57.nI (n := (n + 28)) (ty := .int) (N := 4200) (i := 4200) (M := 4200) rfl ⟨by decide, by decide⟩ (by decide)
  simp only [e58, Option.bind_some]
  obtain ⟨h117, e59, s59⟩ := s58.wr_ (n := (n + 29)) (k := 42) (v := (.ref (n + 28))) (by omega) (by decide)
  simp only [e59, Option.bind_some]
  obtain ⟨h119, e60, s60⟩ := s59.nI (n := (n + 29)) (ty := .int) (N := 4200) (i := 4200) (M := 4200) rfl ⟨by decide, by decide⟩ (by decide)
  simp only [e60, Option.bind_some]
  obtain ⟨h121, e61, s61⟩ := s60.wr_ (n := (n + 30)) (k := 43) (v := (.ref (n + 29))) (by omega) (by decide)
  simp only [e61, Option.bind_some]
  obtain ⟨h123, e62, s62⟩ := s61.nI (n := (n + 30)) (ty := .int) (N := 4200) (i := 4200) (M := 4200) rfl ⟨by decide, by decide⟩ (by decide)
  simp only [e62, Option.bind_some]
  obtain ⟨h125, e63, s63⟩ := s62.wr_ (n := (n + 31)) (k := 44) (v := (.ref (n + 30))) (by omega) (by decide)
  simp only [e63, Option.bind_some]
  obtain ⟨h127, e64, s64⟩ := s63.nI (n := (n + 31)) (ty := .int) (N := 91000) (i := 91000) (M := 91000) rfl ⟨by decide, by decide⟩ (by decide)
  simp only [e64, Option.bind_some]
  obtain ⟨h129, e65, s65⟩ := s64.wr_ (n := (n + 32)) (k := 45) (v := (.ref (n + 31))) (by omega) (by decide)
  simp only [e65, Option.bind_some]
  obtain ⟨h131, e66, s66⟩ := s65.nI (n := (n + 32)) (ty := .int) (N := 91000) (i := 91000) (M := 91000) rfl ⟨by decide, by decide⟩ (by decide)
  simp only [e66, Option.bind_some]
  obtain ⟨h133, e67, s67⟩ := s66.wr_ (n := (n + 33)) (k := 46) (v := (.ref (n + 32))) (by omega) (by decide)
  simp only [e67, Option.bind_some]
  obtain ⟨h135, e68, s68⟩ := s67.nI (n := (n + 33)) (ty := .int) (N := 91000) (i := 91000) (M := 91000) rfl ⟨by decide, by decide⟩ (by decide)
  simp only [e68, Option.bind_some]
  obtain ⟨h137, e69, s69⟩ := s68.wr_ (n := (n + 34)) (k := 47) (v := (.ref (n + 33))) (by omega) (by decide)
  simp only [e69, Option.bind_some]
  obtain ⟨h139, e70, s70⟩ := s69.nI (n := (n + 34)) (ty := .int) (N := 91000) (i := 91000) (M := 91000) rfl ⟨by decide, by decide⟩ (by decide)
  simp only [e70, Option.bind_some]
  obtain ⟨h141, e71, s71⟩ := s70.wr_ (n := (n + 35)) (k := 48) (v := (.ref (n + 34))) (by omega) (by decide)
  simp only [e71, Option.bind_some]
  obtain ⟨h143, e72, s72⟩ := s71.nI (n := (n + 35)) (ty := .int) (N := 91000) (i := 91000) (M := 91000) rfl ⟨by decide, by decide⟩ (by decide)
  simp only [e72, Option.bind_some]
  obtain ⟨h145, e73, s73⟩ := s72.wr_ (n := (n + 36)) (k := 49) (v := (.ref (n + 35))) (by omega) (by decide)
  simp only [e73, Option.bind_some]
  obtain ⟨h147, e74, s74⟩ := s73.nI (n := (n + 36)) (ty := .int) (N := 91000) (i := 91000) (M := 91000) rfl ⟨by decide, by decide⟩ (by decide)
  simp only [e74, Option.bind_some]
  obtain ⟨h149, e75, s75⟩ := s74.wr_ (n := (n + 37)) (k := 50) (v := (.ref (n + 36))) (by omega) (by decide)
  simp only [e75, Option.bind_some]
  obtain ⟨h151, e76, s76⟩ := s75.nI (n := (n + 37)) (ty := .boolean) (N := 300) (i := 300) (M := 300) rfl ⟨by decide, by decide⟩ (by decide)
  simp only [e76, Option.bind_some]
  obtain ⟨h153, e77, s77⟩ := s76.wr_ (n := (n + 38)) (k := 51) (v := (.ref (n + 37))) (by omega) (by decide)
  simp only [e77, Option.bind_some]
  obtain ⟨h155, e78, s78⟩ := s77.nI (n := (n + 38)) (ty := .byte) (N := 900) (i := 900) (M := 900) rfl ⟨by decide, by decide⟩ (by decide)
  simp only [e78, Option.bind_some]
  obtain ⟨h157, e79, s79⟩ := s78.wr_ (n := (n + 39)) (k := 52) (v := (.ref (n + 38))) (by omega) (by decide)
  simp only [e79, Option.bind_some]
  obtain ⟨h159, e80, s80⟩ := s79.nI (n := (n + 39)) (ty := .byte) (N := 900) (i := 900) (M := 900) rfl ⟨by decide, by decide⟩ (by decide)
  simp only [e80, Option.bind_some]
  obtain ⟨h161, e81, s81⟩ := s80.wr_ (n := (n + 40)) (k := 53) (v := (.ref (n + 39))) (by omega) (by decide)
  simp only [e81, Option.bind_some]
  obtain ⟨h163, e82, s82⟩ := s81.wr_ (n := (n + 40)) (k := 56) (v := (.int (-1))) (by omega) (by decide)
  simp only [e82, Option.bind_some]
  obtain ⟨h165, e83, s83⟩ := s82.nJ (n := (n + 40)) (N := 16) (i := 16) (M := 16) rfl ⟨by decide, by decide⟩ (by decide)
  simp only [e83, Option.bind_some]
  obtain ⟨h167, e84, s84⟩ := s83.wr_ (n := (n + 41)) (k := 58) (v := (.ref (n + 40))) (by omega) (by decide)
  simp only [e84, Option.bind_some]
  obtain ⟨h169, e85, s85⟩ := s84.nI (n := (n + 41)) (ty := .int) (N := 15) (i := 15) (M := 15) rfl ⟨by decide, by decide⟩ (by decide)
  simp only [e85, Option.bind_some]
  obtain ⟨h171, e86, s86⟩ := s85.wr_ (n := (n + 42)) (k := 59) (v := (.ref (n + 41))) (by omega) (by decide)
  simp only [e86, Option.bind_some]
  obtain ⟨h173, e87, s87⟩ := s86.nI (n := (n + 42)) (ty := .int) (N := 15) (i := 15) (M := 15) rfl ⟨by decide, by decide⟩ (by decide)
  simp only [e87, Option.bind_some]
  obtain ⟨h175, e88, s88⟩ := s87.wr_ (n := (n + 43)) (k := 60) (v := (.ref (n + 42))) (by omega) (by decide)
  simp only [e88, Option.bind_some]
  obtain ⟨h177, e89, s89⟩ := s88.nJ (n := (n + 43)) (N := 5) (i := 5) (M := 5) rfl ⟨by decide, by decide⟩ (by decide)
  simp only [e89, Option.bind_some]
  obtain ⟨h179, e90, s90⟩ := s89.wr_ (n := (n + 44)) (k := 61) (v := (.ref (n + 43))) (by omega) (by decide)
  simp only [e90, Option.bind_some]
  obtain ⟨h181, e91, s91⟩ := s90.nI (n := (n + 44)) (ty := .int) (N := 50) (i := 50) (M := 50) rfl ⟨by decide, by decide⟩ (by decide)
  simp only [e91, Option.bind_some]
  obtain ⟨h183, e92, s92⟩ := s91.wr_ (n := (n + 45)) (k := 62) (v := (.ref (n + 44))) (by omega) (by decide)
  simp only [e92, Option.bind_some]
  obtain ⟨h185, e93, s93⟩ := s92.nI (n := (n + 45)) (ty := .int) (N := 50) (i := 50) (M := 50) rfl ⟨by decide, by decide⟩ (by decide)
  simp only [e93, Option.bind_some]
  obtain ⟨h187, e94, s94⟩ := s93.wr_ (n := (n + 46)) (k := 63) (v := (.ref (n + 45))) (by omega) (by decide)
  simp only [e94, Option.bind_some]
  obtain ⟨h189, e95, s95⟩ := s94.nI (n := (n + 46)) (ty := .int) (N := 50) (i := 50) (M := 50) rfl ⟨by decide, by decide⟩ (by decide)
  simp only [e95, Option.bind_some]
  obtain ⟨h191, e96, s96⟩ := s95.wr_ (n := (n + 47)) (k := 64) (v := (.ref (n + 46))) (by omega) (by decide)
  simp only [e96, Option.bind_some]
  obtain ⟨h193, e97, s97⟩ := s96.nI (n := (n + 47)) (ty := .int) (N := 15) (i := 15) (M := 15) rfl ⟨by decide, by decide⟩ (by decide)
  simp only [e97, Option.bind_some]
  obtain ⟨h195, e98, s98⟩ := s97.wr_ (n := (n + 48)) (k := 67) (v := (.ref (n + 47))) (by omega) (by decide)
  simp only [e98, Option.bind_some]
  obtain ⟨v203, e99, s99⟩ := s98.fl11 (K := K) (n := (n + 48)) (j := 3) (N := 2805) (f := fun _ => 0) hK (by omega) (by decide) rfl rfl rfl rfl
  simp only [e99, Option.bind_some]
  exact ⟨v203, rfl, s99⟩

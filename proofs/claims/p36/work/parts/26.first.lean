/-! ===== the first heap: what the class's constructor leaves ===== -/
def H110 : List mm_E := .inr (9, fsn_X10 49) :: (fin_X10 49).reverse
def B0 (h : mm_H) (L : Nat) (xs : Nat → Int32) : Prop := (∀ a, (a < 48 ∨ 1000000 ≤ a) → h a = mm_out0 L xs a) ∧ ∀ (i : Nat) (e : mm_E), H110[i]? = some e → h (48 + i) = e
theorem fin_len : (fin_X10 49).length = 110 := rfl
theorem first_heap {K : Nat} (hK : 3000 ≤ K) (L : Nat) (xs : Nat → Int32) : ∃ h1 h, newO (mm_out0 L xs) 48 9 [.null, .null, .null, .null, .null, .int 0, .null, .int 0, .null, .null, .int 0, .null] = some h1 ∧ q_X10_init K h1 (48 + 1) 48 = some (h, 159) ∧ B0 h L xs := by
  obtain ⟨h1, e1⟩ : ∃ h1, newO (mm_out0 L xs) 48 9 [.null, .null, .null, .null, .null, .int 0, .null, .int 0, .null, .null, .int 0, .null] = some h1 := ⟨_, if_pos (by decide)⟩
  have o1 : h1 = mm_up (mm_out0 L xs) 48 (.inr (9, [.null, .null, .null, .null, .null, .int 0, .null, .int 0, .null, .null, .int 0, .null])) := (Option.some.inj ((if_pos (by decide)).symm.trans e1)).symm
  obtain ⟨h3, e3, s3⟩ := i_X10 (K := K) hK (h := h1) (n := 48 + 1) (a := 48) (by omega) (by omega) (by omega) (by rw [o1]; exact mm_up_s)
  refine ⟨h1, h3, e1, e3, ?_, ?_⟩
  · intro a ha
    rw [s3.fr a (by omega) (by omega), o1, mm_up_n (by omega)]
  · intro i e q
    unfold H110 at q
    cases i with
    | zero =>
      cases q
      exact s3.ob
    | succ i =>
      rw [List.getElem?_cons_succ] at q
      have h4 : i < 110 := by
        have := (List.getElem?_eq_some_iff.mp q).1
        rw [List.length_reverse, fin_len] at this
        exact this
      rw [List.getElem?_reverse (by rw [fin_len]; exact h4), fin_len] at q
      have h6 := s3.nw _ e q
      rw [fin_len, show 48 + 1 + (110 - 1 - (110 - 1 - i)) = 48 + (i + 1) by omega] at h6
      exact h6
def okVB : (Value ⊕ Nat) → Value → Bool
  | .inl (.ref u), .ref v => decide (u = v)
  | .inr 0, .int _ => true
  | .inr 1, .long _ => true
  | .inr (_ + 2), .ref _ => true
  | .inr (_ + 2), .null => true
  | _, _ => false
def okFB : List (Value ⊕ Nat) → List Value → Bool
  | [], [] => true
  | s :: t, v :: w => okVB s v && okFB t w
  | _, _ => false
def okB : mm_S → mm_E → Bool
  | .inl (.long, N), .inl (.long, M, .inr (.inl _)) => decide (N = M)
  | .inl (.int, N), .inl (.int, M, .inl _) => decide (N = M)
  | .inl (.byte, N), .inl (.byte, M, .inl _) => decide (N = M)
  | .inl (.boolean, N), .inl (.boolean, M, .inl _) => decide (N = M)
  | .inr (ci, fs), .inr (cj, vs) => decide (ci = cj) && okFB fs vs
  | _, _ => false
theorem okVB_ok : ∀ (s : Value ⊕ Nat) (v : Value), okVB s v = true → okV s v
  | .inl (.ref u), .ref v, h => by
    have : u = v := of_decide_eq_true h
    subst this
    rfl
  | .inr 0, .int x, _ => ⟨x, rfl⟩
  | .inr 1, .long x, _ => ⟨x, rfl⟩
  | .inr (_ + 2), .ref x, _ => ⟨some x, rfl⟩
  | .inr (_ + 2), .null, _ => ⟨none, rfl⟩
theorem okFB_ok : ∀ (fs : List (Value ⊕ Nat)) (vs : List Value), okFB fs vs = true → fs.length = vs.length ∧ ∀ (j : Nat) (s : Value ⊕ Nat), fs[j]? = some s → ∃ v, vs[j]? = some v ∧ okV s v
  | [], [], _ => ⟨rfl, fun j s q => by cases q⟩
  | s :: t, v :: w, h => by
    have h' : okVB s v = true ∧ okFB t w = true := by
      have : (okVB s v && okFB t w) = true := h
      rwa [Bool.and_eq_true] at this
    obtain ⟨e1, e2⟩ := okFB_ok t w h'.2
    refine ⟨by rw [List.length_cons, List.length_cons, e1], fun j s' q => ?_⟩
    cases j with
    | zero => cases q; exact ⟨v, rfl, okVB_ok s v h'.1⟩
    | succ j => exact e2 j s' q
theorem cano_of {h : mm_H} {a : Nat} : ∀ (s : mm_S) (e : mm_E), h a = e → okB s e = true → h a = mm_cano h a s
  | .inl (.long, N), .inl (.long, M, .inr (.inl f)), he, ok => by
    have : N = M := of_decide_eq_true ok
    subst this
    show h a = .inl (.long, N, .inr (.inl (jA h a)))
    unfold jA
    rw [he]
  | .inl (.int, N), .inl (.int, M, .inl f), he, ok => by
    have : N = M := of_decide_eq_true ok
    subst this
    show h a = .inl (.int, N, .inl (iA h a))
    unfold iA
    rw [he]
  | .inl (.byte, N), .inl (.byte, M, .inl f), he, ok => by
    have : N = M := of_decide_eq_true ok
    subst this
    show h a = .inl (.byte, N, .inl (iA h a))
    unfold iA
    rw [he]
  | .inl (.boolean, N), .inl (.boolean, M, .inl f), he, ok => by
    have : N = M := of_decide_eq_true ok
    subst this
    show h a = .inl (.boolean, N, .inl (iA h a))
    unfold iA
    rw [he]
  | .inr (ci, fs), .inr (cj, vs), he, ok => by
    have ok' : decide (ci = cj) = true ∧ okFB fs vs = true := by
      have : (decide (ci = cj) && okFB fs vs) = true := ok
      rwa [Bool.and_eq_true] at this
    have : ci = cj := of_decide_eq_true ok'.1
    subst this
    obtain ⟨e1, e2⟩ := okFB_ok fs vs ok'.2
    show h a = .inr (ci, mm_cfs h a 0 fs)
    rw [cfs_ok he fs 0 (fun j s q => by rw [Nat.zero_add]; exact e2 j s q) (by rw [e1, Nat.zero_add]), List.drop_zero]
    exact he
def h0chk (i : Nat) : Bool := match mm_shL[i]?, H110[i]? with
  | some s, some e => okB s e || decide (i ∈ [26, 27, 43, 60, 76, 105, 108, 109])
  | _, _ => false
theorem h0chk_all : ∀ i : Nat, i < 111 → h0chk i = true := by decide +kernel
theorem B0.PS {h : mm_H} {L : Nat} {xs : Nat → Int32} (b : B0 h L xs) : PS h := by
  intro a s hs
  have hlt : 48 ≤ a ∧ a < 159 := by
    constructor
    · refine Nat.not_lt.mp fun q => ?_
      unfold mm_sh at hs
      rw [if_pos q] at hs
      cases hs
    · refine Nat.not_le.mp fun q => ?_
      rw [mm_sh_top q] at hs
      cases hs
  obtain ⟨i, rfl⟩ : ∃ i, a = 48 + i := ⟨a - 48, by omega⟩
  have hs2 : mm_shL[i]? = some s := by
    unfold mm_sh at hs
    rw [if_neg (by omega), show 48 + i - 48 = i by omega] at hs
    exact hs
  have hc := h0chk_all i (by omega)
  unfold h0chk at hc
  cases he : H110[i]? with
  | none => rw [hs2, he] at hc; cases hc
  | some e =>
    rw [hs2, he] at hc
    have hc2 : okB s e = true ∨ i ∈ [26, 27, 43, 60, 76, 105, 108, 109] := by
      have : (okB s e || decide (i ∈ [26, 27, 43, 60, 76, 105, 108, 109])) = true := hc
      rw [Bool.or_eq_true] at this
      exact this.imp id of_decide_eq_true
    have hv := b.2 i e he
    rcases hc2 with ok | hm
    · exact cano_of s e hv ok
    · simp only [List.mem_cons, List.not_mem_nil, or_false] at hm
      rcases hm with rfl | rfl | rfl | rfl | rfl | rfl | rfl | rfl
      · cases hs2
        cases he
        show h 74 = .inl (.object "WaterReview$RuleBook", 3, .inr (.inr (.inr (.inr (rA h 74)))))
        unfold rA
        rw [hv]
      · cases hs2
        cases he
        exact hv
      · cases hs2
        cases he
        exact hv
      · cases hs2
        cases he
        exact hv
      · cases hs2
        cases he
        exact hv
      · cases hs2
        cases he
        show h 153 = .inl (.object "WaterReview$Rule", 30, .inr (.inr (.inr (.inr (rA h 153)))))
        unfold rA
        rw [hv]
      · cases hs2
        cases he
        show h 156 = .inl (.object "WaterReview$RuleBook", 8, .inr (.inr (.inr (.inr (rA h 156)))))
        unfold rA
        rw [hv]
      · cases hs2
        cases he
        show h 157 = .inl (.object "WaterReview$RuleBook", 4, .inr (.inr (.inr (.inr (rA h 157)))))
        unfold rA
        rw [hv]

/-! ===== the drawn text, statement by statement ===== -/
section TXTS
variable {b : Nat → Nat} {N : Nat}
def w_ret : List Nat := [114, 101, 116, 117, 114, 110]
def w_idx : List Nat := [105, 110, 100, 101, 120]
def w_wear : List Nat := [119, 101, 97, 114]
def w_back : List Nat := [98, 97, 99, 107]
def w_year : List Nat := [121, 101, 97, 114]
def w_tilt : List Nat := [116, 105, 108, 116]
def w_log : List Nat := [108, 111, 103]
def w_allow : List Nat := [97, 108, 108, 111, 119]
def w_run : List Nat := [114, 117, 110]
def w_plan : List Nat := [112, 108, 97, 110]
def w_share : List Nat := [115, 104, 97, 114, 101]
def w_tgt : List Nat := [116, 97, 114, 103, 101, 116]
def w_less : List Nat := [108, 101, 115, 115]
def w_more : List Nat := [109, 111, 114, 101]
def w_step : List Nat := [115, 116, 101, 112]
def w_coin : List Nat := [99, 111, 105, 110]
def w_dead : List Nat := [100, 101, 97, 100]
def w_cap : List Nat := [99, 97, 112]
theorem k_ret : pkq w_ret (wds 2) 0 = some 3 := by decide +kernel
theorem k_idx : pkq w_idx (wds 2) 0 = some 4 := by decide +kernel
theorem k_wear : pkq w_wear (wds 2) 0 = some 5 := by decide +kernel
theorem k_back : pkq w_back (wds 2) 0 = some 6 := by decide +kernel
theorem k_tilt : pkq w_tilt (wds 2) 0 = some 7 := by decide +kernel
theorem k_log : pkq w_log (wds 2) 0 = some 8 := by decide +kernel
theorem k_allow : pkq w_allow (wds 2) 0 = some 0 := by decide +kernel
theorem k_share : pkq w_share (wds 2) 0 = some 1 := by decide +kernel
theorem k_tgt : pkq w_tgt (wds 2) 0 = some 2 := by decide +kernel
theorem k_run : pkq w_run (wds 3) 0 = some 0 := by decide +kernel
theorem k_plan : pkq w_plan (wds 5) 0 = some 3 := by decide +kernel
theorem k_more : pkq w_more (wds 6) 0 = some 0 := by decide +kernel
theorem k_less : pkq w_less (wds 6) 0 = some 1 := by decide +kernel
theorem k_step : pkq w_step (wds 7) 0 = some 0 := by decide +kernel
theorem k_coin : pkq w_coin (wds 8) 0 = some 0 := by decide +kernel
theorem k_dead : pkq w_dead (wds 9) 0 = some 0 := by decide +kernel
theorem k_cap : pkq w_cap (wds 10) 0 = some 0 := by decide +kernel
theorem k_year : pkq w_year (wds 14) 0 = some 0 := by decide +kernel
theorem kd_32 (R : List Nat) : nk 1 (32 :: R) = true ∧ nk 2 (32 :: R) = true ∧ dB (32 :: R) = R := ⟨rfl, rfl, rfl⟩
theorem kd_59 (R : List Nat) : nk 1 (59 :: R) = true ∧ nk 2 (59 :: R) = true ∧ nk 4 (59 :: R) = true ∧ dB (59 :: R) = 59 :: R := ⟨rfl, rfl, rfl, rfl⟩
/-- a word and a blank -/
theorem At.wd {R w : List Nat} {s : Nat} (a : At b N s (w ++ 32 :: R)) (h : nk 4 R = true) (hw : w ≠ []) (hw2 : ∀ c, c ∈ w → kd c = 1) {ws : List (List Nat)} {i : Nat} (hp : pkq w ws 0 = some i) : ∃ s', pkS b N ws (.inr s) = (ni i, .inr s') ∧ At b N s' R :=
  a.pick rfl h hw hw2 hp
/-- a number and a blank -/
theorem At.nb {R : List Nat} {s v lo hi : Nat} (a : At b N s (dg v ++ 32 :: R)) (h : nk 4 R = true) (hv : v < 1000) (h1 : lo ≤ v) (h2 : v ≤ hi) : ∃ s', nmS b N lo hi (.inr s) = (ni v, .inr s') ∧ At b N s' R :=
  a.num rfl h hv h1 h2
/-- a number and the end -/
theorem At.ns {R : List Nat} {s v lo hi : Nat} (a : At b N s (dg v ++ 59 :: R)) (hv : v < 1000) (h1 : lo ≤ v) (h2 : v ≤ hi) : ∃ s', nmS b N lo hi (.inr s) = (ni v, .inr s') ∧ At b N s' (59 :: R) :=
  a.num rfl rfl hv h1 h2
/-- no test -/
theorem tl_no {R : List Nat} {s : Nat} (a : At b N s (59 :: R)) (h : nk 4 R = true) : ∃ s', tailS b N (.inr s) = ([], .inr s') ∧ At b N s' R := by
  obtain ⟨s', e, q⟩ := a.semi h
  refine ⟨s', ?_, q⟩
  unfold tailS
  rw [if_neg (by rw [a.noW (by decide)]; decide), e]
/-- a statement of one number -/
theorem st_pl {R w : List Nat} {s v k : Nat} (hk3 : 3 ≤ k) (hk8 : k ≤ 8) (hp : pkq w (wds 2) 0 = some k) (hw : w ≠ []) (hw2 : ∀ c, c ∈ w → kd c = 1) (hv : (k = 3 ∧ v ≤ 500) ∨ (k = 4 ∧ 50 ≤ v ∧ v ≤ 150) ∨ (5 ≤ k ∧ v ≤ 100)) (a : At b N s (w ++ 32 :: (dg v ++ 59 :: R))) (h : nk 4 R = true) : ∃ s', ruleS b N (.inr s) = ((ni k, (0, 0, 0, ni v, 0, 0, 0, 0, 0), []), .inr s') ∧ At b N s' R := by
  obtain ⟨s1, e1, a1⟩ := a.wd (nk_dg (by omega) (by decide) _) hw hw2 hp
  have body : ∃ s2, bodyS b N (ni k) (.inr s1) = ((0, 0, 0, ni v, 0, 0, 0, 0, 0), .inr s2) ∧ At b N s2 (59 :: R) := by
    unfold bodyS plS_
    have n0 : ¬ ni k = 0 := fun q => by have := (ni_inj (b := 0) (by omega) (by omega)).mp q; omega
    have n1 : ¬ ni k = 1 := fun q => by have := (ni_inj (b := 1) (by omega) (by omega)).mp q; omega
    have n2 : ¬ ni k = 2 := fun q => by have := (ni_inj (b := 2) (by omega) (by omega)).mp q; omega
    rw [if_neg n0, if_neg n1, if_neg n2]
    by_cases k3 : k = 3
    · obtain ⟨s2, e2, a2⟩ := a1.ns (lo := 0) (hi := 500) (by omega) (by omega) (by omega)
      refine ⟨s2, ?_, a2⟩
      rw [if_pos (show ni k = 3 by rw [k3]; rfl)]
      simp only [e2]
    · have n3 : ¬ ni k = 3 := fun q => by have := (ni_inj (b := 3) (by omega) (by omega)).mp q; omega
      rw [if_neg n3]
      by_cases k4 : k = 4
      · obtain ⟨s2, e2, a2⟩ := a1.ns (lo := 50) (hi := 150) (by omega) (by omega) (by omega)
        refine ⟨s2, ?_, a2⟩
        rw [if_pos (show ni k = 4 by rw [k4]; rfl)]
        simp only [e2]
      · obtain ⟨s2, e2, a2⟩ := a1.ns (lo := 0) (hi := 100) (by omega) (by omega) (by omega)
        have n4 : ¬ ni k = 4 := fun q => by have := (ni_inj (b := 4) (by omega) (by omega)).mp q; omega
        refine ⟨s2, ?_, a2⟩
        rw [if_neg n4]
        simp only [e2]
  obtain ⟨s2, e2, a2⟩ := body
  obtain ⟨s3, e3, a3⟩ := tl_no a2 h
  refine ⟨s3, ?_, a3⟩
  unfold ruleS
  simp only [e1, e2, e3]
theorem lpO_no {w : List Nat} {op : Int32} {f : RSt → List Int32 × RSt} {σ : RSt} (h : isWS b N w σ = false) : ∀ (k : Nat) (L : List Int32), lpO b N w op f k L σ = (L, σ)
  | 0, _ => rfl
  | k + 1, L => by
    unfold lpO
    rw [if_neg (by rw [h]; decide)]
/-- the test of the text -/
theorem ts_year {R : List Nat} {s : Nat} (a : At b N s (w_year ++ 62 :: (dg 3 ++ 59 :: R))) : ∃ s', (exS b N 48).1 0 (.inr s) = ([cmpI 0 1 3], .inr s') ∧ At b N s' (59 :: R) := by
  obtain ⟨s1, e1, a1⟩ := At.pick (w := w_year) (R := 62 :: (dg 3 ++ 59 :: R)) a rfl rfl (by decide) (by decide) k_year
  have a1' : At b N s1 (62 :: (dg 3 ++ 59 :: R)) := a1
  obtain ⟨p1, p2, p3⟩ := At.pun (c := 62) rfl rfl a1'
  have p3' : At b N (nx b N s1) (dg 3 ++ 59 :: R) := p3
  obtain ⟨s2, e2, a2⟩ := p3'.ns (lo := 0) (hi := 99999) (by omega) (by omega) (by omega)
  have wn : isWS b N wNot (.inr s) = false := (At.word (w := w_year) (R := 62 :: (dg 3 ++ 59 :: R)) rfl rfl a (by decide) (by decide) wNot).trans (by decide)
  have tk : tkk b N s = 1 := (At.tok (w := w_year) (R := 62 :: (dg 3 ++ 59 :: R)) (Or.inl rfl) rfl rfl a (by decide) (by decide)).1
  have g40 : isG b N 40 (.inr s) = false := by
    show (decide (tkk b N s = 3) && decide (b s = 40)) = false
    rw [tk]
    rfl
  have cm : cmS b N (.inr s) = ([cmpI 0 1 3], .inr s2) := by
    unfold cmS
    rw [e1]
    have g60 : isG b N 60 (.inr s1) = false := by
      show (decide (tkk b N s1 = 3) && decide (b s1 = 60)) = false
      rw [p1, p2]
      rfl
    have g62 : isG b N 62 (.inr s1) = true := by
      show (decide (tkk b N s1 = 3) && decide (b s1 = 62)) = true
      rw [p1, p2]
      rfl
    show (if isG b N 60 (.inr s1) = true then _ else if isG b N 62 (.inr s1) = true then cmE b N (ni 0) 1 (.inr s1) else _) = _
    rw [if_neg (by rw [g60]; decide), if_pos g62]
    unfold cmE
    show ([((nmS b N 0 99999 (.inr (nx b N s1))).1 * 5 + ni 0) * 3 + ni 1], (nmS b N 0 99999 (.inr (nx b N s1))).2) = _
    rw [e2]
    rfl
  have one : (exS b N 46).2.2 0 (.inr s) = ([cmpI 0 1 3], .inr s2) := by
    show oneB b N (exS b N 45).1 (exS b N 45).2.2 0 (.inr s) = _
    unfold oneB
    rw [if_neg (by rw [wn]; decide), if_neg (by rw [g40]; decide)]
    exact cm
  have all : (exS b N 47).2.1 0 (.inr s) = ([cmpI 0 1 3], .inr s2) := by
    show lpO b N wAnd (-2) ((exS b N 46).2.2 0) 900 ((exS b N 46).2.2 0 (.inr s)).1 ((exS b N 46).2.2 0 (.inr s)).2 = _
    rw [one]
    exact lpO_no (a2.noW (by decide) _) 900 _
  refine ⟨s2, ?_, a2⟩
  show lpO b N wOr (-3) ((exS b N 47).2.1 0) 900 ((exS b N 47).2.1 0 (.inr s)).1 ((exS b N 47).2.1 0 (.inr s)).2 = _
  rw [all]
  exact lpO_no (a2.noW (by decide) _) 900 _
/-- back, unless -/
theorem st_bk {R : List Nat} {s v : Nat} (hv : v ≤ 100) (a : At b N s (w_back ++ 32 :: (dg v ++ 32 :: (wUnl ++ 32 :: (w_year ++ 62 :: (dg 3 ++ 59 :: R)))))) (h : nk 4 R = true) : ∃ s', ruleS b N (.inr s) = ((ni 6, (0, 0, 0, ni v, 0, 0, 0, 0, 0), [cmpI 0 1 3]), .inr s') ∧ At b N s' R := by
  obtain ⟨s1, e1, a1⟩ := a.wd (nk_dg (by omega) (by decide) _) (by decide) (by decide) k_back
  obtain ⟨s2, e2, a2⟩ := a1.nb (lo := 0) (hi := 100) rfl (by omega) (by omega) (by omega)
  have eb : bodyS b N (ni 6) (.inr s1) = ((0, 0, 0, ni v, 0, 0, 0, 0, 0), .inr s2) := by
    unfold bodyS plS_
    rw [if_neg (by decide), if_neg (by decide), if_neg (by decide), if_neg (by decide), if_neg (by decide)]
    simp only [e2]
  have wu : isWS b N wUnl (.inr s2) = true := (At.word (w := wUnl) (R := 32 :: (w_year ++ 62 :: (dg 3 ++ 59 :: R))) rfl rfl a2 (by decide) (by decide) wUnl).trans (by decide)
  have a3 : At b N (nx b N s2) (w_year ++ 62 :: (dg 3 ++ 59 :: R)) := (At.tok (w := wUnl) (R := 32 :: (w_year ++ 62 :: (dg 3 ++ 59 :: R))) (Or.inl rfl) rfl rfl a2 (by decide) (by decide)).2.2.1
  obtain ⟨s4, e4, a4⟩ := ts_year a3
  obtain ⟨s5, e5, a5⟩ := a4.semi h
  have et : tailS b N (.inr s2) = ([cmpI 0 1 3], .inr s5) := by
    unfold tailS
    rw [if_pos wu]
    show (((exS b N 48).1 0 (.inr (nx b N s2))).1, sgS b N 59 ((exS b N 48).1 0 (.inr (nx b N s2))).2) = _
    rw [e4, e5]
  refine ⟨s5, ?_, a5⟩
  unfold ruleS
  simp only [e1, eb, et]
/-- allow run plan -/
theorem st_al {R : List Nat} {s v : Nat} (hv : v ≤ 200) (a : At b N s (w_allow ++ 32 :: (w_run ++ 32 :: (w_plan ++ 32 :: (dg v ++ 59 :: R))))) (h : nk 4 R = true) : ∃ s', ruleS b N (.inr s) = ((ni 0, (ni 0, ni 3, 0, ni v, 0, 0, 0, 0, 0), []), .inr s') ∧ At b N s' R := by
  obtain ⟨s1, e1, a1⟩ := a.wd rfl (by decide) (by decide) k_allow
  obtain ⟨s2, e2, a2⟩ := a1.wd rfl (by decide) (by decide) k_run
  obtain ⟨s3, e3, a3⟩ := a2.wd (nk_dg (by omega) (by decide) _) (by decide) (by decide) k_plan
  obtain ⟨s4, e4, a4⟩ := a3.ns (lo := 0) (hi := 200) (by omega) (by omega) hv
  obtain ⟨s5, e5, a5⟩ := tl_no a4 h
  have eb : bodyS b N (ni 0) (.inr s1) = ((ni 0, ni 3, 0, ni v, 0, 0, 0, 0, 0), .inr s4) := by
    unfold bodyS alS_
    rw [if_pos (by decide)]
    simp only [e2, e3, e4]
    rfl
  refine ⟨s5, ?_, a5⟩
  unfold ruleS
  simp only [e1, eb, e5]
/-- share run -/
theorem st_sh {R : List Nat} {s v u : Nat} (hv : v ≤ 100) (hu : u ≤ 100) (a : At b N s (w_share ++ 32 :: (w_run ++ 32 :: (dg v ++ 32 :: (dg u ++ 59 :: R))))) (h : nk 4 R = true) : ∃ s', ruleS b N (.inr s) = ((ni 1, (ni 0, 0, 0, ni v, ni u, 0, 0, 0, 0), []), .inr s') ∧ At b N s' R := by
  obtain ⟨s1, e1, a1⟩ := a.wd rfl (by decide) (by decide) k_share
  obtain ⟨s2, e2, a2⟩ := a1.wd (nk_dg (by omega) (by decide) _) (by decide) (by decide) k_run
  obtain ⟨s3, e3, a3⟩ := a2.nb (lo := 0) (hi := 100) (nk_dg (by omega) (by decide) _) (by omega) (by omega) hv
  obtain ⟨s4, e4, a4⟩ := a3.ns (lo := 0) (hi := 100) (by omega) (by omega) hu
  obtain ⟨s5, e5, a5⟩ := tl_no a4 h
  have eb : bodyS b N (ni 1) (.inr s1) = ((ni 0, 0, 0, ni v, ni u, 0, 0, 0, 0), .inr s4) := by
    unfold bodyS shS_
    rw [if_neg (by decide), if_pos (by decide)]
    simp only [e2, e3, e4]
  refine ⟨s5, ?_, a5⟩
  unfold ruleS
  simp only [e1, eb, e5]
/-- target -/
theorem st_tg {R wm : List Nat} {s g st c d e m : Nat} (hm : pkq wm (wds 6) 0 = some m) (hw : wm ≠ []) (hw2 : ∀ c, c ∈ wm → kd c = 1) (hn4 : ∀ X, nk 4 (wm ++ X) = true) (hg : g < 1000) (hs0 : 1 ≤ st) (hs : st < 1000) (hc : c < 1000) (hd : d < 1000) (he : e < 1000) (a : At b N s (w_tgt ++ 32 :: (dg 1 ++ 32 :: (wm ++ 32 :: (dg g ++ 32 :: (w_step ++ 32 :: (dg st ++ 32 :: (w_coin ++ 32 :: (dg c ++ 32 :: (w_dead ++ 32 :: (dg d ++ 32 :: (w_cap ++ 32 :: (dg e ++ 59 :: R))))))))))))) (h : nk 4 R = true) : ∃ s', ruleS b N (.inr s) = ((ni 2, (ni 1, ni m, 0, ni g, 0, ni st, ni c, ni d, ni e), []), .inr s') ∧ At b N s' R := by
  obtain ⟨s1, e1, a1⟩ := a.wd (nk_dg (by omega) (by decide) _) (by decide) (by decide) k_tgt
  obtain ⟨s2, e2, a2⟩ := a1.nb (lo := 0) (hi := 2) (hn4 _) (by omega) (by omega) (by omega)
  obtain ⟨s3, e3, a3⟩ := a2.wd (nk_dg (by omega) (by decide) _) hw hw2 hm
  obtain ⟨s4, e4, a4⟩ := a3.nb (lo := 0) (hi := 99999) rfl (by omega) (by omega) (by omega)
  obtain ⟨s5, e5, a5⟩ := a4.wd (nk_dg (by omega) (by decide) _) (by decide) (by decide) k_step
  obtain ⟨s6, e6, a6⟩ := a5.nb (lo := 1) (hi := 99999) rfl (by omega) (by omega) (by omega)
  obtain ⟨s7, e7, a7⟩ := a6.wd (nk_dg (by omega) (by decide) _) (by decide) (by decide) k_coin
  obtain ⟨s8, e8, a8⟩ := a7.nb (lo := 0) (hi := 99999) rfl (by omega) (by omega) (by omega)
  obtain ⟨s9, e9, a9⟩ := a8.wd (nk_dg (by omega) (by decide) _) (by decide) (by decide) k_dead
  obtain ⟨sA, eA, aA⟩ := a9.nb (lo := 0) (hi := 99999) rfl (by omega) (by omega) (by omega)
  obtain ⟨sB, eB, aB⟩ := aA.wd (nk_dg (by omega) (by decide) _) (by decide) (by decide) k_cap
  obtain ⟨sC, eC, aC⟩ := aB.ns (lo := 0) (hi := 99999) (by omega) (by omega) (by omega)
  obtain ⟨sD, eD, aD⟩ := tl_no aC h
  have eb : bodyS b N (ni 2) (.inr s1) = ((ni 1, ni m, 0, ni g, 0, ni st, ni c, ni d, ni e), .inr sC) := by
    unfold bodyS tgS_
    rw [if_neg (by decide), if_neg (by decide), if_pos (by decide)]
    simp only [e2, e3, e4, e5, e6, e7, e8, e9, eA, eB, eC]
  refine ⟨sD, ?_, aD⟩
  unfold ruleS
  simp only [e1, eb, eD]
/-- one more statement is read -/
theorem rd_one {m base s s' : Nat} {M : List Stm} {S : Nat → Bool} {k : Int32} {v : V9} {T : List Int32} {c : Nat} {R : List Nat} (a : At b N s (c :: R)) (e : ruleS b N (.inr s) = ((k, v, T), .inr s')) : rdS b N false base (m + 1) (.inr s, M, S) = rdS b N false base m (.inr s', M ++ [vK k v T], S) := by
  have h1 := (At.hd a).1
  show (if isE N (.inr s) = true then _ else rdS b N false base m (oneS b N false base (.inr s, M, S))) = _
  rw [if_neg (by
    show ¬ decide (s = N) = true
    rw [decide_eq_false (by omega)]
    decide)]
  unfold oneS
  rw [if_neg (fun q => absurd q.1 (by decide))]
  simp only [e]
  rfl
theorem rd_end {m base s : Nat} {M : List Stm} {S : Nat → Bool} (a : At b N s []) : rdS b N false base m (.inr s, M, S) = (.inr s, M, S) := by
  cases m with
  | zero => rfl
  | succ m =>
    have h1 : N = s := a.1
    show (if isE N (.inr s) = true then _ else _) = _
    rw [if_pos (by
      show decide (s = N) = true
      exact decide_eq_true h1.symm)]
end TXTS

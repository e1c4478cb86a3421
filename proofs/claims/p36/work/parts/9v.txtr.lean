/-! ===== the drawn text says what the law's list says ===== -/
section TXTR
variable {b : Nat → Nat} {N : Nat} {P : Nat → Nat} {le ti : Bool}
def lawT (P : Nat → Nat) (wm : List Nat) : List Nat := w_tgt ++ 32 :: (dg 1 ++ 32 :: (wm ++ 32 :: (dg (P 11) ++ 32 :: (w_step ++ 32 :: (dg (P 12) ++ 32 :: (w_coin ++ 32 :: (dg (P 13) ++ 32 :: (w_dead ++ 32 :: (dg (P 14) ++ 32 :: (w_cap ++ 32 :: (dg (P 15) ++ 59 :: [])))))))))))
def lawZ (P : Nat → Nat) (wm : List Nat) : List Nat := w_log ++ 32 :: (dg (P 7) ++ 59 :: (w_allow ++ 32 :: (w_run ++ 32 :: (w_plan ++ 32 :: (dg (P 8) ++ 59 :: (w_share ++ 32 :: (w_run ++ 32 :: (dg (P 9) ++ 32 :: (dg (P 10) ++ 59 :: lawT P wm)))))))))
def lawQ (P : Nat → Nat) (wm : List Nat) (ti : Bool) : List Nat := if ti = true then w_tilt ++ 32 :: (dg (P 6) ++ 59 :: lawZ P wm) else lawZ P wm
def lawR (P : Nat → Nat) (wm : List Nat) (ti : Bool) : List Nat := w_ret ++ 32 :: (dg (P 2) ++ 59 :: (w_idx ++ 32 :: (dg (P 3) ++ 59 :: (w_wear ++ 32 :: (dg (P 4) ++ 59 :: (w_back ++ 32 :: (dg (P 5) ++ 32 :: (wUnl ++ 32 :: (w_year ++ 62 :: (dg 3 ++ 59 :: lawQ P wm ti))))))))))
def wLM (le : Bool) : List Nat := if le = true then w_less else w_more
/-- what the law's numbers can be -/
def PB (P : Nat → Nat) : Prop := P 2 ≤ 127 ∧ (50 ≤ P 3 ∧ P 3 ≤ 150) ∧ P 4 ≤ 100 ∧ P 5 ≤ 100 ∧ P 6 ≤ 100 ∧ P 7 ≤ 100 ∧ P 8 ≤ 127 ∧ P 9 ≤ 100 ∧ P 10 ≤ 100 ∧ P 11 ≤ 500 ∧ (1 ≤ P 12 ∧ P 12 ≤ 500) ∧ P 13 ≤ 500 ∧ P 14 ≤ 500 ∧ P 15 ≤ 500
theorem At.ltw {w R : List Nat} {s : Nat} (a : At b N s (w ++ R)) (hw : w ≠ []) : s < N := by
  have := a.1
  rw [List.length_append] at this
  have := List.length_pos_iff.mpr hw
  omega
theorem rd_on {m base s s' : Nat} {M : List Stm} {S : Nat → Bool} {k : Int32} {v : V9} {T : List Int32} (h1 : s < N) (e : ruleS b N (.inr s) = ((k, v, T), .inr s')) : rdS b N false base (m + 1) (.inr s, M, S) = rdS b N false base m (.inr s', M ++ [vK k v T], S) := by
  show (if isE N (.inr s) = true then _ else rdS b N false base m (oneS b N false base (.inr s, M, S))) = _
  rw [if_neg (by
    show ¬ decide (s = N) = true
    rw [decide_eq_false (by omega)]
    decide)]
  unfold oneS
  rw [if_neg (fun q => absurd q.1 (by decide))]
  simp only [e]
  rfl
theorem vK_p {k v : Nat} (h3 : 3 ≤ k) (h8 : k ≤ 8) (hv : v < 1000) (T : List Int32) : vK (ni k) (0, 0, 0, ni v, 0, 0, 0, 0, 0) T = ((k, 0, 0), (v, 0, 0, 0, 0), T) := by
  unfold vK
  rw [if_neg (fun q => by have := (ni_inj (b := 0) (by omega) (by omega)).mp q; omega), if_neg (fun q => by have := (ni_inj (b := 1) (by omega) (by omega)).mp q; omega), if_neg (fun q => by have := (ni_inj (b := 2) (by omega) (by omega)).mp q; omega), ni_tn (by omega)]
  show ((k, 0, 0), ((ni v).toNatClampNeg, 0, 0, 0, 0), T) = _
  rw [ni_tn (by omega)]
theorem vK_0 {v : Nat} (hv : v < 1000) : vK (ni 0) (ni 0, ni 3, 0, ni v, 0, 0, 0, 0, 0) [] = ((0, 0, 3), (0, v, 0, 0, 0), []) := by
  unfold vK
  rw [if_pos (by decide)]
  show ((0, (ni 0).toNatClampNeg, (ni 3).toNatClampNeg), ((0 : Int32).toNatClampNeg, (ni v).toNatClampNeg, 0, 0, 0), []) = _
  rw [ni_tn (a := v) (by omega)]
  rfl
theorem vK_1 {v u : Nat} (hv : v < 1000) (hu : u < 1000) : vK (ni 1) (ni 0, 0, 0, ni v, ni u, 0, 0, 0, 0) [] = ((1, 0, 0), (v, u, 0, 0, 0), []) := by
  unfold vK
  rw [if_neg (by decide), if_pos (by decide)]
  show ((1, (ni 0).toNatClampNeg, 0), ((ni v).toNatClampNeg, (ni u).toNatClampNeg, 0, 0, 0), []) = _
  rw [ni_tn (a := v) (by omega), ni_tn (a := u) (by omega)]
  rfl
theorem vK_2 {m g s c d e : Nat} (hm : m < 1000) (h1 : g < 1000) (h2 : s < 1000) (h3 : c < 1000) (h4 : d < 1000) (h5 : e < 1000) : vK (ni 2) (ni 1, ni m, 0, ni g, 0, ni s, ni c, ni d, ni e) [] = ((2, 1, m), (g, s, c, d, e), []) := by
  unfold vK
  rw [if_neg (by decide), if_neg (by decide), if_pos (by decide)]
  show ((2, (ni 1).toNatClampNeg, (ni m).toNatClampNeg), ((ni g).toNatClampNeg, (ni s).toNatClampNeg, (ni c).toNatClampNeg, (ni d).toNatClampNeg, (ni e).toNatClampNeg), []) = _
  rw [ni_tn (a := m) (by omega), ni_tn (a := g) (by omega), ni_tn (a := s) (by omega), ni_tn (a := c) (by omega), ni_tn (a := d) (by omega), ni_tn (a := e) (by omega)]
  rfl
/-- from log on -/
theorem rd_Z {wm : List Nat} {m : Nat} (hm : pkq wm (wds 6) 0 = some m) (hm9 : m < 1000) (hw : wm ≠ []) (hw2 : ∀ c, c ∈ wm → kd c = 1) (hn4 : ∀ X, nk 4 (wm ++ X) = true) (pb : PB P) {base s f : Nat} {M : List Stm} {S : Nat → Bool} (a : At b N s (lawZ P wm)) : rdS b N false base (f + 1 + 1 + 1 + 1) (.inr s, M, S) = (.inr N, M ++ [((8, 0, 0), (P 7, 0, 0, 0, 0), [])] ++ [((0, 0, 3), (0, P 8, 0, 0, 0), [])] ++ [((1, 0, 0), (P 9, P 10, 0, 0, 0), [])] ++ [((2, 1, m), (P 11, P 12, P 13, P 14, P 15), [])], S) := by
  obtain ⟨p2, ⟨p3, p3'⟩, p4, p5, p6, p7, p8, p9, p10, p11, ⟨p12, p12'⟩, p13, p14, p15⟩ := pb
  have n1 : nk 4 (w_allow ++ 32 :: (w_run ++ 32 :: (w_plan ++ 32 :: (dg (P 8) ++ 59 :: (w_share ++ 32 :: (w_run ++ 32 :: (dg (P 9) ++ 32 :: (dg (P 10) ++ 59 :: lawT P wm)))))))) = true := rfl
  have n2 : nk 4 (w_share ++ 32 :: (w_run ++ 32 :: (dg (P 9) ++ 32 :: (dg (P 10) ++ 59 :: lawT P wm)))) = true := rfl
  have n3 : nk 4 (lawT P wm) = true := rfl
  obtain ⟨s1, e1, a1⟩ := st_pl (k := 8) (by omega) (by omega) k_log (by decide) (by decide) (Or.inr (Or.inr ⟨by omega, p7⟩)) a n1
  obtain ⟨s2, e2, a2⟩ := st_al (by omega) a1 n2
  obtain ⟨s3, e3, a3⟩ := st_sh p9 p10 a2 n3
  obtain ⟨s4, e4, a4⟩ := st_tg hm hw hw2 hn4 (show P 11 < 1000 by omega) p12 (show P 12 < 1000 by omega) (show P 13 < 1000 by omega) (show P 14 < 1000 by omega) (show P 15 < 1000 by omega) a3 rfl
  rw [rd_on (At.ltw (w := w_log) a (by decide)) e1, rd_on (At.ltw (w := w_allow) a1 (by decide)) e2, rd_on (At.ltw (w := w_share) a2 (by decide)) e3, rd_on (At.ltw (w := w_tgt) a3 (by decide)) e4, rd_end a4, vK_p (by omega) (by omega) (by omega), vK_0 (by omega), vK_1 (by omega) (by omega), vK_2 hm9 (by omega) (by omega) (by omega) (by omega) (by omega)]
  have h4 : N = s4 := a4.1
  rw [← h4]
theorem txt_ok (pb : PB P) (a : At b N 0 (lawR P (wLM le) ti)) : txS b N [] = .inr (lawL P le ti) := by
  have hw : wLM le ≠ [] := by cases le <;> decide
  have hw2 : ∀ c, c ∈ wLM le → kd c = 1 := by cases le <;> decide
  have hn4 : ∀ X, nk 4 (wLM le ++ X) = true := by cases le <;> (intro X; rfl)
  have hm : pkq (wLM le) (wds 6) 0 = some (if le = true then 1 else 0) := by
    cases le
    · exact k_more
    · exact k_less
  have hm9 : (if le = true then 1 else 0) < 1000 := by cases le <;> decide
  have nZ : nk 4 (lawZ P (wLM le)) = true := rfl
  have nQ : nk 4 (lawQ P (wLM le) ti) = true := by cases ti <;> rfl
  have pb' := pb
  obtain ⟨p2, ⟨p3, p3'⟩, p4, p5, p6, p7, p8, p9, p10, p11, ⟨p12, p12'⟩, p13, p14, p15⟩ := pb
  have a0 : At b N (sk b N 0) (lawR P (wLM le) ti) := a.skp rfl
  have am : amS b N = false := (At.word (w := w_ret) rfl (nk_dg (by omega) (by decide) _) a0 (by decide) (by decide) wAmd).trans (by decide)
  have n1 : nk 4 (w_idx ++ 32 :: (dg (P 3) ++ 59 :: (w_wear ++ 32 :: (dg (P 4) ++ 59 :: (w_back ++ 32 :: (dg (P 5) ++ 32 :: (wUnl ++ 32 :: (w_year ++ 62 :: (dg 3 ++ 59 :: lawQ P (wLM le) ti))))))))) = true := rfl
  have n2 : nk 4 (w_wear ++ 32 :: (dg (P 4) ++ 59 :: (w_back ++ 32 :: (dg (P 5) ++ 32 :: (wUnl ++ 32 :: (w_year ++ 62 :: (dg 3 ++ 59 :: lawQ P (wLM le) ti))))))) = true := rfl
  have n3 : nk 4 (w_back ++ 32 :: (dg (P 5) ++ 32 :: (wUnl ++ 32 :: (w_year ++ 62 :: (dg 3 ++ 59 :: lawQ P (wLM le) ti))))) = true := rfl
  obtain ⟨s1, e1, a1⟩ := st_pl (k := 3) (by omega) (by omega) k_ret (by decide) (by decide) (Or.inl ⟨rfl, by omega⟩) a0 n1
  obtain ⟨s2, e2, a2⟩ := st_pl (k := 4) (by omega) (by omega) k_idx (by decide) (by decide) (Or.inr (Or.inl ⟨rfl, p3, p3'⟩)) a1 n2
  obtain ⟨s3, e3, a3⟩ := st_pl (k := 5) (by omega) (by omega) k_wear (by decide) (by decide) (Or.inr (Or.inr ⟨by omega, p4⟩)) a2 n3
  obtain ⟨s4, e4, a4⟩ := st_bk p5 a3 nQ
  have fin : endS b N 0 = (.inr N, lawL P le ti, fun _ => false) := by
    unfold endS begS
    rw [am, if_neg (by decide)]
    show rdS b N false 0 (25 + 1 + 1 + 1 + 1 + 1) (.inr (sk b N 0), [], fun _ => false) = _
    rw [rd_on (At.ltw (w := w_ret) a0 (by decide)) e1, rd_on (At.ltw (w := w_idx) a1 (by decide)) e2, rd_on (At.ltw (w := w_wear) a2 (by decide)) e3, rd_on (At.ltw (w := w_back) a3 (by decide)) e4, vK_p (k := 3) (by omega) (by omega) (by omega), vK_p (k := 4) (by omega) (by omega) (by omega), vK_p (k := 5) (by omega) (by omega) (by omega), vK_p (k := 6) (by omega) (by omega) (by omega)]
    cases ti
    · have a4' : At b N s4 (lawZ P (wLM le)) := a4
      show rdS b N false 0 (22 + 1 + 1 + 1 + 1) _ = _
      rw [rd_Z hm hm9 hw hw2 hn4 pb' a4']
      rfl
    · have a4' : At b N s4 (w_tilt ++ 32 :: (dg (P 6) ++ 59 :: lawZ P (wLM le))) := a4
      obtain ⟨s5, e5, a5⟩ := st_pl (k := 7) (by omega) (by omega) k_tilt (by decide) (by decide) (Or.inr (Or.inr ⟨by omega, p6⟩)) a4' nZ
      rw [rd_on (At.ltw (w := w_tilt) a4' (by decide)) e5, vK_p (k := 7) (by omega) (by omega) (by omega)]
      show rdS b N false 0 (21 + 1 + 1 + 1 + 1) _ = _
      rw [rd_Z hm hm9 hw hw2 hn4 pb' a5]
      rfl
  unfold txS
  have ea : amL b N [] = [] := by unfold amL; split <;> rfl
  rw [ea]
  show (match fltS N (endS b N 0).1 with | some p => (.inl p : Nat ⊕ List Stm) | none => .inr (kptS (endS b N 0).2.2 [] 0 ++ (endS b N 0).2.1)) = _
  rw [fin]
  show (match (if N = N then none else some N) with | some p => (.inl p : Nat ⊕ List Stm) | none => .inr ([] ++ lawL P le ti)) = _
  rw [if_pos rfl, List.nil_append]
end TXTR

/-! ===== what the class allows ===== -/
section ALLOWC
variable {K n : Nat} {h : mm_H}
theorem ptYs_c {g : mm_H} (e : kn g = kn h) (o hd dr : Nat) (d : Int32) : ∀ c y, ptYs g o hd dr d y c = ptYs h o hd dr d y c := by
  intro c
  induction c with
  | zero => intro y; rfl
  | succ c ih =>
    intro y
    unfold ptYs ptY
    rw [ih, e]
theorem PtL_c {g : mm_H} (e : kn g = kn h) (F fm : Nat) (bt : Int32) (hd r dr : Nat) : PtL g F fm bt hd r dr = PtL h F fm bt hd r dr := by
  have go : ∀ (k o : Nat) (d : Int32) (y0 c : Nat), ptOs g fm bt hd dr d y0 c o k = ptOs h fm bt hd dr d y0 c o k := by
    intro k
    induction k with
    | zero => intro o d y0 c; rfl
    | succ k ih =>
      intro o d y0 c
      unfold ptOs
      rw [ih, ptYs_c e]
  unfold PtL
  rw [go]
theorem drS_c {g : mm_H} (e : kn g = kn h) (f dr : Nat) (d : Int32) : ∀ y, drS g f dr d y = drS h f dr d y
  | 0 => rfl
  | y + 1 => by
    unfold drS
    rw [e, drS_c e f dr d y]
theorem z_bookOf (c : PS h) (hn : 159 ≤ n) {y : Nat} (hy : y ≤ 14) : q_X7_bookOf K h n 73 (ni y) = some (rA h 74 (y / 5)) := by
  have i3 : inb (ni (y / 5)) 3 = true := ni_inb (by omega) (by omega)
  have t3 : (ni (y / 5)).toNatClampNeg = y / 5 := ni_tn (by omega)
  have ed : ni y / 5 = ni (y / 5) := by
    show ni y / ni 5 = _
    rw [ni_div (by omega) (by omega)]
  unfold q_X7_bookOf
  rw [if_neg (ni_pos (by omega)), if_neg (fun q => by have := (ni_le (a := 15) (by omega) (by omega)).mp q; omega), g_73_2 c hn]
  simp only [Option.bind_some, ed, ge_74 c hn, i3, t3, if_true]
theorem z_slotOf {k o : Nat} (v : vKO k o) : q_X5_slotOf K h n (ni k) (ni o) = some (ni (slotK k o)) := by
  unfold vKO at v
  have e0 : (ni k = 0) = (k = 0) := propext (ni_inj (b := 0) (by omega) (by omega))
  have e1 : (ni k = 1) = (k = 1) := propext (ni_inj (b := 1) (by omega) (by omega))
  have e2 : (ni k = 2) = (k = 2) := propext (ni_inj (b := 2) (by omega) (by omega))
  unfold q_X5_slotOf slotK
  simp only [e0, e1, e2]
  by_cases k0 : k = 0
  · rw [if_pos k0, if_pos k0]
  rw [if_neg k0, if_neg k0]
  by_cases k1 : k = 1
  · rw [if_pos k1, if_pos k1]
    show some (ni 4 + ni o) = _
    rw [ni_add]
  rw [if_neg k1, if_neg k1]
  by_cases k2 : k = 2
  · rw [if_pos k2, if_pos k2]
    show some (ni 8 + ni o) = _
    rw [ni_add]
  rw [if_neg k2, if_neg k2]
  show some (ni 11 + ni k - ni 3) = _
  rw [ni_add, ni_sub (by omega)]
/-- the statement that holds -/
theorem z_ruleAt (c : PS h) (hn : 159 ≤ n) {y k o : Nat} {z : Int32} {L : List Stm} {w : Nat → Int64} (hy : y ≤ 14) (R : RS h n (rA h 74 (y / 5)) z L) (v : vKO k o) (cy : iA h (76 + y) (slotK k o) = oI (lastS w k o L 0 none)) : (lastS w k o L 0 none = none ∧ q_X7_ruleAt K h n 73 (ni y) (ni k) (ni o) = some none) ∨ ∃ i s p, lastS w k o L 0 none = some i ∧ L[i]? = some s ∧ sK s = k ∧ sO s = o ∧ sOk s ∧ q_X7_ruleAt K h n 73 (ni y) (ni k) (ni o) = some (some p) ∧ ruleC h n p s := by
  have sl := slotK_lt v
  unfold q_X7_ruleAt
  simp only [gq_73 c hn, Option.bind_some, z_bookOf (K := K) c hn hy, z_slotOf (K := K) (n := n) (h := h) v, z_standsAt (K := K) c hn hy sl, cy]
  rcases R with ⟨e, -, rfl⟩ | ⟨p, w0, B, a, b', e, -, hw0, hB, bk, hL, ok, -⟩
  · rw [e]
    exact Or.inl ⟨rfl, rfl⟩
  · rw [e]
    obtain ⟨hp, hpn, q, f, e5, -⟩ := id bk
    have cp : ckq h n p 6 = some () := ckq_o (by omega) e5
    cases ql : lastS w k o L 0 none with
    | none =>
      left
      refine ⟨rfl, ?_⟩
      have qa : q_X6_at K h n p (-1) = some none := by
        unfold q_X6_at
        rw [if_pos (by decide)]
      show (ckq h n p 6).bind _ = _
      simp only [cp, Option.bind_some]
      show (q_X6_at K h n p (-1)).bind _ = _
      rw [qa]
      rfl
    | some i =>
      right
      obtain ⟨s, es, k1, k2⟩ := lastS_at w k o [] L none (fun j ej => by cases ej) i ql
      have es' : L[i]? = some s := es
      obtain ⟨r, er, rr⟩ := book_at (K := K) bk (by omega) es'
      refine ⟨i, s, r, rfl, es', k1, k2, ok s (List.mem_of_getElem? es'), ?_, rr⟩
      show (ckq h n p 6).bind _ = _
      simp only [cp, Option.bind_some]
      show (q_X6_at K h n p (ni i)).bind _ = _
      rw [er]
      rfl
/-- what a mode tells, ahead of its hundredths -/
def toldS (h : mm_H) (F f y : Nat) (s : Stm) : Int64 :=
  if sM s = 3 then (if kn h f y (7 + sO s) (dcd y) = -1 then 0 else (kn h f y (7 + sO s) (dcd y)).toInt64)
  else if sM s = 0 then lineS (PtL h F f (-1) (sO s) (y / 5) (sA s)) (drS h f (sA s) (dcd y) (y + 1)).toInt64
  else if sM s = 1 then meanS (PtL h F f (-1) (sO s) (y / 5) (sA s)) (drS h f (sA s) (dcd y) (y + 1)).toInt64
  else bestV (PtL h F f (-1) (sO s) (y / 5) (sA s)) (drS h f (sA s) (dcd y) (y + 1)).toInt64
theorem z_toldBy (hK : 3000 ≤ K) (c : PS h) (hn : 159 ≤ n) (j : JR h) {F f y p : Nat} {s : Stm} (uF : fI h 49 5 = ni F) (hF : F ≤ 11) (hf : f < F) (hy : y ≤ 14) (h11 : fI h 73 11 = ni f) (rr : ruleC h n p s) (os : sOk s) (k0 : sK s = 0) : ∃ g, q_X7_toldBy K h n 73 (some p) (ni y) = some (toldS h F f y s, g) ∧ PS g ∧ SE h g := by
  obtain ⟨hp, hpn, u, e1, -⟩ := id rr
  obtain ⟨o3, m3, a2, b2⟩ := os.2.1 k0
  have jA := j.2.2.1
  have r1 : rdI h n p 5 1 = some (ni (sO s)) := by
    have := rdI_o (n := n) (k := 1) (x := if sK s ≤ 2 then ni (sO s) else 0) (by omega) e1 rfl
    rw [if_pos (by omega)] at this
    exact this
  have r2 : rdI h n p 5 2 = some (ni (sM s)) := by
    have := rdI_o (n := n) (k := 2) (x := if sK s = 0 ∨ sK s = 2 then ni (sM s) else 0) (by omega) e1 rfl
    rw [if_pos (Or.inl k0)] at this
    exact this
  have r3 : rdI h n p 5 3 = some (ni (sA s)) := by
    have := rdI_o (n := n) (k := 3) (x := if sK s = 0 then ni (sA s) else 0) (by omega) e1 rfl
    rw [if_pos k0] at this
    exact this
  have ed : (ni y / 5) * 500 = dcd y := by
    show (ni y / ni 5) * ni 500 = _
    rw [ni_div (by omega) (by omega), ni_mul, Nat.mul_comm]
    rfl
  have e5 : ni y / 5 = ni (y / 5) := by
    show ni y / ni 5 = _
    rw [ni_div (by omega) (by omega)]
  have ed' : ni (y / 5) * 500 = dcd y := by rw [← e5]; exact ed
  have e7 : (7 : Int32) + ni (sO s) = ni (7 + sO s) := ni_add 7 _
  have em : ∀ m : Nat, m < 2147483648 → ((ni (sM s) = ni m) = (sM s = m)) := fun m hm => propext (ni_inj (by omega) hm)
  have em3 : (ni (sM s) = 3) = (sM s = 3) := em 3 (by omega)
  have em0 : (ni (sM s) = 0) = (sM s = 0) := em 0 (by omega)
  have em1 : (ni (sM s) = 1) = (sM s = 1) := em 1 (by omega)
  unfold q_X7_toldBy toldS q_X7_decidedOn
  simp only [Option.bind_some, r2, em3]
  by_cases h3 : sM s = 3
  · rw [if_pos h3, if_pos h3]
    simp only [g_73_0 c hn, g_49_1 c hn, g_73_11 c hn, h11, r1, Option.bind_some, gq_51 c hn, ed, e7, z_X0_knownBy hK c hn jA (show f ≤ 10 by omega) hy (show 7 + sO s ≤ 16 by omega)]
    by_cases hk : kn h f y (7 + sO s) (dcd y) = -1
    · rw [if_pos hk, if_pos hk]; exact ⟨h, rfl, c, SE.id_⟩
    · rw [if_neg hk, if_neg hk]; exact ⟨h, rfl, c, SE.id_⟩
  · rw [if_neg h3, if_neg h3]
    obtain ⟨g, g1, g2, g3, g4, g5⟩ := z_gather143 hK hn uF hF (hd := sO s) (dr := sA s) (r := y / 5) (by omega) (by omega) hf (by omega) jA c SE.id_
    have fl := PtL_flt jA (F := F) (fm := f) (hd := sO s) (r := y / 5) (dr := sA s) hF (by omega) (by omega) (by omega) (bt := -1)
    rw [fl] at g5
    have jg := SE_JA g3 jA
    have dv := z_driverX0 hK g2 hn jg (f := f) (dr := sA s) (by omega) hy (by omega) (dcd y)
    rw [drS_c (funext fun _ => funext fun _ => funext fun _ => funext fun _ => SE_kn g3 _ _ _ _)] at dv
    have ep : g p = h p := g3.1 p (by omega)
    have r2g : rdI g n p 5 2 = some (ni (sM s)) := by
      have := rdI_o (n := n) (k := 2) (x := if sK s = 0 ∨ sK s = 2 then ni (sM s) else 0) (by omega) (ep.trans e1) rfl
      rw [if_pos (Or.inl k0)] at this
      exact this
    have r3g : rdI g n p 5 3 = some (ni (sA s)) := by
      have := rdI_o (n := n) (k := 3) (x := if sK s = 0 then ni (sA s) else 0) (by omega) (ep.trans e1) rfl
      rw [if_pos k0] at this
      exact this
    have h11g : fI g 73 11 = ni f := (fI_c (g3.1 73 (by omega)) 11).trans h11
    obtain ⟨tl, tm⟩ := z_line143 (K := K) g2 hn g5 (drS h f (sA s) (dcd y) (y + 1)).toInt64
    have tb := z_best143 hK g2 hn g4 (drS h f (sA s) (dcd y) (y + 1)).toInt64
    simp only [g_73_1 c hn, g_73_11 c hn, h11, r1, r3, Option.bind_some, gq_143 c hn, e5, g1, g_73_0 g2 hn, g_49_1 g2 hn, g_73_11 g2 hn, h11g, r3g, gq_51 g2 hn, ed', dv, r2g, em0, em1, g_73_1 g2 hn, gq_143 g2 hn, tl, tm, tb]
    by_cases h0 : sM s = 0
    · rw [if_pos h0, if_pos h0]; exact ⟨g, rfl, g2, g3⟩
    rw [if_neg h0, if_neg h0]
    by_cases h1 : sM s = 1
    · rw [if_pos h1, if_pos h1]; exact ⟨g, rfl, g2, g3⟩
    rw [if_neg h1, if_neg h1]
    exact ⟨g, rfl, g2, g3⟩
end ALLOWC

/-! ===== what the class allows ===== -/
section ALLOWC
variable {K n : Nat} {h : mm_H}
theorem ptYs_c {g : mm_H} (e : kn g = kn h) (o hd dr : Nat) (d : Int32) : ∀ c y, ptYs g o hd dr d y c = ptYs h o hd dr d y c := by
  intro c
  induction c with
  | zero => intro y; rfl
  | succ c ih =>
    intro y
    unfold ptYs ptY
    rw [ih, e]
theorem PtL_c {g : mm_H} (e : kn g = kn h) (F fm : Nat) (bt : Int32) (hd r dr : Nat) : PtL g F fm bt hd r dr = PtL h F fm bt hd r dr := by
  have go : ∀ (k o : Nat) (d : Int32) (y0 c : Nat), ptOs g fm bt hd dr d y0 c o k = ptOs h fm bt hd dr d y0 c o k := by
    intro k
    induction k with
    | zero => intro o d y0 c; rfl
    | succ k ih =>
      intro o d y0 c
      unfold ptOs
      rw [ih, ptYs_c e]
  unfold PtL
  rw [go]
theorem drS_c {g : mm_H} (e : kn g = kn h) (f dr : Nat) (d : Int32) : ∀ y, drS g f dr d y = drS h f dr d y
  | 0 => rfl
  | y + 1 => by
    unfold drS
    rw [e, drS_c e f dr d y]
theorem z_bookOf (c : PS h) (hn : 159 ≤ n) {y : Nat} (hy : y ≤ 14) : q_X7_bookOf K h n 73 (ni y) = some (rA h 74 (y / 5)) := by
  have i3 : inb (ni (y / 5)) 3 = true := ni_inb (by omega) (by omega)
  have t3 : (ni (y / 5)).toNatClampNeg = y / 5 := ni_tn (by omega)
  have ed : ni y / 5 = ni (y / 5) := by
    show ni y / ni 5 = _
    rw [ni_div (by omega) (by omega)]
  unfold q_X7_bookOf
  rw [if_neg (ni_pos (by omega)), if_neg (fun q => by have := (ni_le (a := 15) (by omega) (by omega)).mp q; omega), g_73_2 c hn]
  simp only [Option.bind_some, ed, ge_74 c hn, i3, t3, if_true]
theorem z_slotOf {k o : Nat} (v : vKO k o) : q_X5_slotOf K h n (ni k) (ni o) = some (ni (slotK k o)) := by
  unfold vKO at v
  have e0 : (ni k = 0) = (k = 0) := propext (ni_inj (b := 0) (by omega) (by omega))
  have e1 : (ni k = 1) = (k = 1) := propext (ni_inj (b := 1) (by omega) (by omega))
  have e2 : (ni k = 2) = (k = 2) := propext (ni_inj (b := 2) (by omega) (by omega))
  unfold q_X5_slotOf slotK
  simp only [e0, e1, e2]
  by_cases k0 : k = 0
  · rw [if_pos k0, if_pos k0]
  rw [if_neg k0, if_neg k0]
  by_cases k1 : k = 1
  · rw [if_pos k1, if_pos k1]
    show some (ni 4 + ni o) = _
    rw [ni_add]
  rw [if_neg k1, if_neg k1]
  by_cases k2 : k = 2
  · rw [if_pos k2, if_pos k2]
    show some (ni 8 + ni o) = _
    rw [ni_add]
  rw [if_neg k2, if_neg k2]
  show some (ni 11 + ni k - ni 3) = _
  rw [ni_add, ni_sub (by omega)]
/-- the statement that holds -/
theorem z_ruleAt (c : PS h) (hn : 159 ≤ n) {y k o : Nat} {z : Int32} {L : List Stm} {w : Nat → Int64} (hy : y ≤ 14) (R : RS h n (rA h 74 (y / 5)) z L) (v : vKO k o) (cy : iA h (76 + y) (slotK k o) = oI (lastS w k o L 0 none)) : (lastS w k o L 0 none = none ∧ q_X7_ruleAt K h n 73 (ni y) (ni k) (ni o) = some none) ∨ ∃ i s p, lastS w k o L 0 none = some i ∧ L[i]? = some s ∧ sK s = k ∧ sO s = o ∧ sOk s ∧ q_X7_ruleAt K h n 73 (ni y) (ni k) (ni o) = some (some p) ∧ ruleC h n p s := by
  have sl := slotK_lt v
  unfold q_X7_ruleAt
  simp only [gq_73 c hn, Option.bind_some, z_bookOf (K := K) c hn hy, z_slotOf (K := K) (n := n) (h := h) v, z_standsAt (K := K) c hn hy sl, cy]
  rcases R with ⟨e, -, rfl⟩ | ⟨p, w0, B, a, b', e, -, hw0, hB, bk, hL, ok, -⟩
  · rw [e]
    exact Or.inl ⟨rfl, rfl⟩
  · rw [e]
    obtain ⟨hp, hpn, q, f, e5, -⟩ := id bk
    have cp : ckq h n p 6 = some () := ckq_o (by omega) e5
    cases ql : lastS w k o L 0 none with
    | none =>
      left
      refine ⟨rfl, ?_⟩
      have qa : q_X6_at K h n p (-1) = some none := by
        unfold q_X6_at
        rw [if_pos (by decide)]
      show (ckq h n p 6).bind _ = _
      simp only [cp, Option.bind_some]
      show (q_X6_at K h n p (-1)).bind _ = _
      rw [qa]
      rfl
    | some i =>
      right
      obtain ⟨s, es, k1, k2⟩ := lastS_at w k o [] L none (fun j ej => by cases ej) i ql
      have es' : L[i]? = some s := es
      obtain ⟨r, er, rr⟩ := book_at (K := K) bk (by omega) es'
      refine ⟨i, s, r, rfl, es', k1, k2, ok s (List.mem_of_getElem? es'), ?_, rr⟩
      show (ckq h n p 6).bind _ = _
      simp only [cp, Option.bind_some]
      show (q_X6_at K h n p (ni i)).bind _ = _
      rw [er]
      rfl
/-- what a mode tells, ahead of its hundredths -/
def toldS (h : mm_H) (F f y : Nat) (s : Stm) : Int64 :=
  if sM s = 3 then (if kn h f y (7 + sO s) (dcd y) = -1 then 0 else (kn h f y (7 + sO s) (dcd y)).toInt64)
  else if sM s = 0 then lineS (PtL h F f (-1) (sO s) (y / 5) (sA s)) (drS h f (sA s) (dcd y) (y + 1)).toInt64
  else if sM s = 1 then meanS (PtL h F f (-1) (sO s) (y / 5) (sA s)) (drS h f (sA s) (dcd y) (y + 1)).toInt64
  else bestV (PtL h F f (-1) (sO s) (y / 5) (sA s)) (drS h f (sA s) (dcd y) (y + 1)).toInt64
end ALLOWC

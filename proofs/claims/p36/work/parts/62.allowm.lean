/-! ===== what is allowed, on both sides ===== -/
section ALLOWM
variable {K n : Nat} {h : mm_H}
theorem i32_64 (x : Int32) : Int64.toInt32 (Int32.toInt64 x) = x := by simp
/-- what is allowed: a bench word, or by the statement that holds -/
def allS (h : mm_H) (F f y hd : Nat) (d : Int32) (w : Nat → Int64) (L : List Stm) : Int64 :=
  match bnS h (ni f) (ni hd) (ni y) d (fI h 61 5).toNatClampNeg with
  | some i => (iA h 65 i).toInt64
  | none => match lastS w 0 hd L 0 none with
    | none => 0
    | some i => match L[i]? with
      | some s => toldS h F f y s * (ni (sB s)).toInt64 / 100
      | none => 0
theorem z_allowedFor (hK : 3000 ≤ K) (c : PS h) (hn : 159 ≤ n) (j : JR h) {F f y hd : Nat} {d z : Int32} {w : Nat → Int64} {L : List Stm} (uF : fI h 49 5 = ni F) (hF : F ≤ 11) (hf : f < F) (hy : y ≤ 14) (hhd : hd ≤ 3) (h11 : fI h 73 11 = ni f) (h12 : fI h 73 12 = d) (R : RS h n (rA h 74 (y / 5)) z L) (cy : iA h (76 + y) (slotK 0 hd) = oI (lastS w 0 hd L 0 none)) : ∃ g, q_X7_allowedFor K h n 73 (ni y) (ni hd) = some (allS h F f y hd d w L, g) ∧ PS g ∧ SE h g := by
  obtain ⟨-, -, -, -, -, -, m, hm, hm20, hB⟩ := j.2.2.2.2.1
  have lk := z_lastKnown hK c hn hm hm20 (ni f) (ni hd) (ni y) d
  unfold q_X7_allowedFor allS
  rw [hm, ni_tn (by omega)]
  simp only [g_73_0 c hn, g_49_3 c hn, g_73_11 c hn, g_73_12 c hn, h11, h12, Option.bind_some, gq_61 c hn, lk, gq_73 c hn]
  cases qb : bnS h (ni f) (ni hd) (ni y) d m with
  | some i =>
    obtain ⟨v, ev, hv⟩ := hB i (bnS_lt h _ _ _ _ m i qb)
    have e : bnV h (some i) = iA h 65 i := rfl
    rw [e, ev, if_neg (ni_n1 (by omega))]
    refine ⟨h, ?_, c, SE.id_⟩
    show _ = some ((iA h 65 i).toInt64, h)
    rw [ev]
  | none =>
    rw [if_pos (show bnV h none = -1 from rfl)]
    rcases z_ruleAt (K := K) c hn hy R (k := 0) (o := hd) (Or.inl ⟨by omega, hhd⟩) cy with ⟨q1, q2⟩ | ⟨i, s, p, q1, q2, k0, o0, os, q3, rr⟩
    · have q2' : q_X7_ruleAt K h n 73 (ni y) 0 (ni hd) = some none := q2
      simp only [q2', Option.bind_some, q1]
      exact ⟨h, rfl, c, SE.id_⟩
    · have q3' : q_X7_ruleAt K h n 73 (ni y) 0 (ni hd) = some (some p) := q3
      obtain ⟨g, t1, t2, t3⟩ := z_toldBy hK c hn j uF hF hf hy h11 rr os k0
      obtain ⟨hp, hpn, u, e1, -⟩ := id rr
      have r4 : rdI g n p 5 4 = some (ni (sB s)) := by
        have := rdI_o (h := g) (n := n) (k := 4) (x := if sK s = 0 then ni (sB s) else ni (sA s)) (by omega) ((t3.1 p (by omega)).trans e1) rfl
        rw [if_pos k0] at this
        exact this
      simp only [q3', Option.bind_some, q1, q2, t1, r4, q_X8_hundredths]
      exact ⟨g, rfl, t2, t3⟩
theorem clampM_id {v : Int64} (a : 0 ≤ v) (b : v ≤ 999999) : clampM v = v := by
  unfold clampM
  rw [if_neg (Int64.not_lt.mpr a), if_neg (Int64.not_lt.mpr b)]
end ALLOWM

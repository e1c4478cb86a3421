/-! ===== the class's earned and shared ===== -/
section LINEC
variable {K n : Nat} {h : mm_H}
theorem z_earnedC (hK : 3000 ≤ K) (c : PS h) (hn : 159 ≤ n) (j : JR h) {f y o : Nat} {d z : Int32} {w : Nat → Int64} {L : List Stm} (hf : f ≤ 10) (hy : y ≤ 14) (ho : o ≤ 2) (h11 : fI h 73 11 = ni f) (h12 : fI h 73 12 = d) (R : RS h n (rA h 74 (y / 5)) z L) (cy : iA h (76 + y) (slotK 2 o) = oI (lastS w 2 o L 0 none)) : q_X7_earnedIn K h n 73 (ni y) (ni o) = some (eaS h f y o d w L) := by
  have e14 : (14 : Int32) + ni o = ni (14 + o) := ni_add 14 _
  have kf := z_X0_knownBy hK c hn j.2.2.1 hf hy (show 14 + o ≤ 16 by omega) d
  unfold q_X7_earnedIn eaS
  rcases z_ruleAt (K := K) c hn hy R (k := 2) (o := o) (Or.inr (Or.inl ⟨rfl, ho⟩)) cy with ⟨q1, q2⟩ | ⟨i, s, p, q1, q2, k2, o0, os, q3, rr⟩
  · have q2' : q_X7_ruleAt K h n 73 (ni y) 2 (ni o) = some none := q2
    simp only [gq_73 c hn, Option.bind_some, q2', q1, g_73_0 c hn, g_49_1 c hn, g_73_11 c hn, g_73_12 c hn, h11, h12, gq_51 c hn, e14, kf]
  · have q3' : q_X7_ruleAt K h n 73 (ni y) 2 (ni o) = some (some p) := q3
    have er := z_earns (K := K) rr os k2 (kn h f y (14 + o) d).toInt64
    obtain ⟨hp, hpn, u, e1, -⟩ := id rr
    have cp : ckq h n p 5 = some () := ckq_o (by omega) e1
    simp only [gq_73 c hn, Option.bind_some, q3', q1, q2, g_73_0 c hn, g_49_1 c hn, g_73_11 c hn, g_73_12 c hn, h11, h12, gq_51 c hn, e14, kf, cp, er]
    by_cases hk : kn h f y (14 + o) d = -1
    · rw [if_pos hk, if_pos hk]
    · rw [if_neg hk, if_neg hk]
end LINEC

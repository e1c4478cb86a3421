/-! ===== what is allowed, on both sides ===== -/
section ALLOWM
variable {K n : Nat} {h : mm_H}
theorem i32_64 (x : Int32) : Int64.toInt32 (Int32.toInt64 x) = x := by simp
/-- what is allowed: a bench word, or by the statement that holds -/
def allS (h : mm_H) (F f y hd : Nat) (d : Int32) (w : Nat → Int64) (L : List Stm) : Int64 :=
  match bnS h (ni f) (ni hd) (ni y) d (fI h 61 5).toNatClampNeg with
  | some i => (iA h 65 i).toInt64
  | none => match lastS w 0 hd L 0 none with
    | none => 0
    | some i => match L[i]? with
      | some s => toldS h F f y s * (ni (sB s)).toInt64 / 100
      | none => 0
theorem z_allowedFor (hK : 3000 ≤ K) (c : PS h) (hn : 208 ≤ n) (j : JR h) {F f y hd : Nat} {d z : Int32} {w : Nat → Int64} {L : List Stm} (uF : fI h 49 5 = ni F) (hF : F ≤ 11) (hf : f < F) (hy : y ≤ 14) (hhd : hd ≤ 3) (h11 : fI h 73 11 = ni f) (h12 : fI h 73 12 = d) (R : RS h n (rA h 74 (y / 5)) z L) (cy : iA h (76 + y) (slotK 0 hd) = oI (lastS w 0 hd L 0 none)) : ∃ g, q_X7_allowedFor K h n 73 (ni y) (ni hd) = some (allS h F f y hd d w L, g) ∧ PS g ∧ SE h g := by
  obtain ⟨-, -, -, -, -, -, m, hm, hm20, hB⟩ := j.2.2.2.2.1
  have lk := z_lastKnown hK c hn hm hm20 (ni f) (ni hd) (ni y) d
  unfold q_X7_allowedFor allS
  rw [hm, ni_tn (by omega)]
  simp only [g_73_0 c hn, g_49_3 c hn, g_73_11 c hn, g_73_12 c hn, h11, h12, Option.bind_some, gq_61 c hn, lk, gq_73 c hn]
  cases qb : bnS h (ni f) (ni hd) (ni y) d m with
  | some i =>
    obtain ⟨v, ev, hv⟩ := hB i (bnS_lt h _ _ _ _ m i qb)
    have e : bnV h (some i) = iA h 65 i := rfl
    rw [e, ev, if_neg (ni_n1 (by omega))]
    refine ⟨h, ?_, c, SE.id_⟩
    show _ = some ((iA h 65 i).toInt64, h)
    rw [ev]
  | none =>
    rw [if_pos (show bnV h none = -1 from rfl)]
    rcases z_ruleAt (K := K) c hn hy R (k := 0) (o := hd) (Or.inl ⟨by omega, hhd⟩) cy with ⟨q1, q2⟩ | ⟨i, s, p, q1, q2, k0, o0, os, q3, rr⟩
    · have q2' : q_X7_ruleAt K h n 73 (ni y) 0 (ni hd) = some none := q2
      simp only [q2', Option.bind_some, q1]
      exact ⟨h, rfl, c, SE.id_⟩
    · have q3' : q_X7_ruleAt K h n 73 (ni y) 0 (ni hd) = some (some p) := q3
      obtain ⟨g, t1, t2, t3⟩ := z_toldBy hK c hn j uF hF hf hy h11 rr os k0
      obtain ⟨hp, hpn, u, e1, -⟩ := id rr
      have r4 : rdI g n p 5 4 = some (ni (sB s)) := by
        have := rdI_o (h := g) (n := n) (k := 4) (x := if sK s = 0 then ni (sB s) else ni (sA s)) (by omega) ((t3.1 p (by omega)).trans e1) rfl
        rw [if_pos k0] at this
        exact this
      simp only [q3', Option.bind_some, q1, q2, t1, r4, q_X8_hundredths]
      exact ⟨g, rfl, t2, t3⟩
theorem clampM_id {v : Int64} (a : 0 ≤ v) (b : v ≤ 999999) : clampM v = v := by
  unfold clampM
  rw [if_neg (Int64.not_lt.mpr a), if_neg (Int64.not_lt.mpr b)]
/-- what a question of what is allowed keeps -/
def SX (h g : mm_H) : Prop := (∀ a, a < 143 ∨ (151 ≤ a ∧ a ≤ 158) ∨ (160 ≤ a ∧ a ≤ 202) ∨ a = 207 ∨ 208 ≤ a → g a = h a) ∧ (∀ k, k ≠ 1000 → k ≠ 1001 → k ≠ 65 → k ≠ 66 → fI g 159 k = fI h 159 k) ∧ fJ g 159 66 = fJ h 159 66
theorem SE.sx {g : mm_H} (a : SE h g) : SX h g := ⟨fun x q => a.1 x (by omega), a.2⟩
theorem SX.sw {g : mm_H} (a : SX h g) : SW h g := ⟨fun x q => a.1 x (by omega), a.2.1⟩
theorem SX.trans {g f : mm_H} (a : SX h g) (b : SX g f) : SX h f := ⟨fun x q => (b.1 x q).trans (a.1 x q), fun k p q r s => (b.2.1 k p q r s).trans (a.2.1 k p q r s), b.2.2.trans a.2.2⟩
theorem SX.of {g : mm_H} (o : ∀ a, a ≠ 203 → g a = h a) : SX h g := ⟨fun a q => o a (by omega), fun k _ _ _ _ => fI_c (o 159 (by decide)) k, fJ_c (o 159 (by decide)) 66⟩
theorem z_allowedBy (hK : 3000 ≤ K) (c : PS h) (hn : 208 ≤ n) (j : JR h) {F f y hd i : Nat} {w0 B N : Nat} {s : Stm} (uF : fI h 49 5 = ni F) (hF : F ≤ 11) (hf : f < F) (hy : y ≤ 14) (hr : 300 * w0 + i < 4200) (R : rowR h B N (300 * w0 + i) s) (os : sOk s) (k0 : sK s = 0) (o0 : sO s = hd) : ∃ g, q_X11_allowedBy K h n 159 (ni (300 * w0 + i)) (ni f) (ni hd) (ni y) = some (Int64.toInt32 (toldS h F f y s * (ni (sB s)).toInt64 / 100), g) ∧ PS g ∧ SE h g := by
  obtain ⟨-, -, r3, r4, r5, -⟩ := R
  have r184 := r3 (Or.inl k0)
  have r186 := r5 (by omega)
  obtain ⟨o3, m3, a2, b2⟩ := os.2.1 k0
  have jA := j.2.2.1
  have ir : inb (ni (300 * w0 + i)) 4200 = true := ni_inb (by omega) hr
  have tr : (ni (300 * w0 + i)).toNatClampNeg = 300 * w0 + i := ni_tn (by omega)
  have em : ∀ m : Nat, m < 2147483648 → ((ni (sM s) = ni m) = (sM s = m)) := fun m hm => propext (ni_inj (by omega) hm)
  have em3 : (ni (sM s) = 3) = (sM s = 3) := em 3 (by omega)
  have em0 : (ni (sM s) = 0) = (sM s = 0) := em 0 (by omega)
  have em1 : (ni (sM s) = 1) = (sM s = 1) := em 1 (by omega)
  have e5 : ni y / 5 = ni (y / 5) := by
    show ni y / ni 5 = _
    rw [ni_div (by omega) (by omega)]
  have ed : (500 : Int32) * ni (y / 5) = dcd y := ni_mul 500 _
  have e7 : (7 : Int32) + ni hd = ni (7 + hd) := ni_add 7 _
  subst o0
  unfold q_X11_allowedBy toldS
  rw [if_neg (ni_n1 (by omega))]
  simp only [g_159_38 c hn, ge_184 c hn, ir, tr, if_true, Option.bind_some, r184, em3]
  by_cases h3 : sM s = 3
  · rw [if_pos h3, if_pos h3]
    have kin := kn_in jA (f := f) (y := y) (w := 7 + sO s) (by omega) hy (by omega) (dcd y)
    have mx := mx0_max kin
    simp only [gq_159 c hn, e5, ed, e7, z_X11_factBy hK c hn jA (show f ≤ 10 by omega) hy (show 7 + sO s ≤ 16 by omega), Option.bind_some, mx, z_X11_moded, g_159_40 c hn, ge_186 c hn, ir, tr, if_true, r186]
    have cl : clampM (mx0 (kn h f y (7 + sO s) (dcd y))).toInt64 = if kn h f y (7 + sO s) (dcd y) = -1 then 0 else (kn h f y (7 + sO s) (dcd y)).toInt64 := by
      unfold mx0
      rcases kin with e | ⟨v, e, hv⟩
      · rw [if_pos e, if_pos e]; decide
      · have ne : ¬ kn h f y (7 + sO s) (dcd y) = -1 := by rw [e]; exact ni_n1 (by omega)
        rw [if_neg ne, if_neg ne, e, ni_nj (by omega)]
        refine clampM_id ?_ ?_
        · rw [Int64.le_iff_toInt_le, nj_int (by omega)]
          show (0 : Int) ≤ v
          omega
        · rw [Int64.le_iff_toInt_le, nj_int (by omega)]
          show (v : Int) ≤ 999999
          omega
    rw [cl]
    exact ⟨h, rfl, c, SE.id_⟩
  · rw [if_neg h3, if_neg h3]
    obtain ⟨g, g1, g2, g3, g4⟩ := z_X11_gathers hK hn (bt := -1) j.2.1 uF hF (hd := sO s) (dr := sA s) (r := y / 5) (by omega) (by omega) hf (by omega) jA c SE.id_
    have okL := PtL_ok jA (F := F) (fm := f) (bt := -1) (hd := sO s) (r := y / 5) (dr := sA s) hF (by omega) (by omega) (by omega)
    have jg := SE_JA g3 jA
    have dv := z_driverOf hK g2 hn jg (f := f) (dr := sA s) (by omega) hy (by omega)
    rw [drS_c (funext fun _ => funext fun _ => funext fun _ => funext fun _ => SE_kn g3 _ _ _ _)] at dv
    have g184 : iA g 184 (300 * w0 + i) = ni (sM s) := by rw [iA_c (g3.1 184 (by omega))]; exact r184
    have g185 : iA g 185 (300 * w0 + i) = ni (sA s) := by rw [iA_c (g3.1 185 (by omega))]; exact r4
    have g186 : iA g 186 (300 * w0 + i) = ni (sB s) := by rw [iA_c (g3.1 186 (by omega))]; exact r186
    obtain ⟨vl, l1, l2⟩ := z_lineAt hK g2 hn g4 okL (drS h f (sA s) (dcd y) (y + 1))
    obtain ⟨vm, m1, m2⟩ := z_meanAt hK g2 hn g4 (drS h f (sA s) (dcd y) (y + 1))
    obtain ⟨vb, b1, b2'⟩ := z_bestAt hK g2 hn g4 (drS h f (sA s) (dcd y) (y + 1))
    have g1' : q_X11_gathers K h n 159 (ni f) (ni (sO s)) (ni (y / 5)) (ni (sA s)) (-1) = some g := g1
    simp only [g_159_39 c hn, ge_185 c hn, ir, tr, if_true, Option.bind_some, r4, gq_159 c hn, e5, g1', g_159_39 g2 hn, ge_185 g2 hn, g185, gq_159 g2 hn, dv, g_159_38 g2 hn, ge_184 g2 hn, g184, em0, em1, l1, m1, b1, z_X11_moded, l2, m2, b2', g_159_40 g2 hn, ge_186 g2 hn, g186]
    by_cases h0 : sM s = 0
    · rw [if_pos h0, if_pos h0]; exact ⟨g, rfl, g2, g3⟩
    rw [if_neg h0, if_neg h0]
    by_cases h1 : sM s = 1
    · rw [if_pos h1, if_pos h1]; exact ⟨g, rfl, g2, g3⟩
    rw [if_neg h1, if_neg h1]
    exact ⟨g, rfl, g2, g3⟩
end ALLOWM

/-! ===== the class's shared ===== -/
section SHAREC
variable {K n : Nat} {h : mm_H}
theorem sh_109 (y : Nat) (hy : y < 15) : mm_sh (109 + y) = some (.inl (.long, 4)) := match y, hy with
  | 0, _ => rfl
  | 1, _ => rfl
  | 2, _ => rfl
  | 3, _ => rfl
  | 4, _ => rfl
  | 5, _ => rfl
  | 6, _ => rfl
  | 7, _ => rfl
  | 8, _ => rfl
  | 9, _ => rfl
  | 10, _ => rfl
  | 11, _ => rfl
  | 12, _ => rfl
  | 13, _ => rfl
  | 14, _ => rfl
theorem row_lj {g : mm_H} (c : PS g) {a N : Nat} (hs : mm_sh a = some (.inl (.long, N))) (ha : 48 ≤ a) (han : a < n) (i : Int32) : ldJ g n a i = if inb i N = true then some (jA g a i.toNatClampNeg) else none := by
  have e : g a = .inl (.long, N, .inr (.inl (jA g a))) := c a _ hs
  unfold ldJ
  rw [if_pos ⟨ha, han⟩, e]
theorem z_sharedC (hK : 3000 ≤ K) (c : PS h) (hn : 159 ≤ n) (j : JR h) {f y hd : Nat} {d z : Int32} {w : Nat → Int64} {L : List Stm} {A : Int64} (hf : f ≤ 10) (hy : y ≤ 14) (hhd : hd ≤ 3) (h11 : fI h 73 11 = ni f) (h12 : fI h 73 12 = d) (R : RS h n (rA h 74 (y / 5)) z L) (cy : iA h (76 + y) (slotK 1 hd) = oI (lastS w 1 hd L 0 none)) (hA : jA h (109 + y) hd = A) : q_X7_sharedIn K h n 73 (ni y) (ni hd) = some (if kn h f y (3 + hd) d = -1 then 0 else ((kn h f y (3 + hd) d).toInt64 - A) - brO w L hd ((kn h f y (3 + hd) d).toInt64 - A)) := by
  have e3 : (3 : Int32) + ni hd = ni (3 + hd) := ni_add 3 _
  have kf := z_X0_knownBy hK c hn j.2.2.1 hf hy (show 3 + hd ≤ 16 by omega) d
  have bp := z_bornePart (K := K) c hn hy hhd R cy ((kn h f y (3 + hd) d).toInt64 - A)
  have i15 : inb (ni y) 15 = true := ni_inb (by omega) (by omega)
  have ty : (ni y).toNatClampNeg = y := ni_tn (by omega)
  have i4 : inb (ni hd) 4 = true := ni_inb (by omega) (by omega)
  have th : (ni hd).toNatClampNeg = hd := ni_tn (by omega)
  have y15 : y < 15 := by omega
  have l4 : ni hd < 4 := (ni_lt (b := 4) (by omega) (by omega)).mpr (by omega)
  have e109 : 108 + 1 + y = 109 + y := by omega
  have lj : ldJ h n (109 + y) (ni hd) = some A := by
    rw [row_lj c (sh_109 y y15) (by omega) (by omega), if_pos i4, th, hA]
  unfold q_X7_sharedIn
  simp only [g_73_0 c hn, g_49_1 c hn, g_73_11 c hn, g_73_12 c hn, h11, h12, Option.bind_some, gq_51 c hn, e3, kf]
  by_cases hk : kn h f y (3 + hd) d = -1
  · rw [if_pos hk, if_pos hk]
  · rw [if_neg hk, if_neg hk, if_neg (ni_pos (by omega)), if_neg (fun q => by have := (ni_le (a := 15) (by omega) (by omega)).mp q; omega), if_neg (ni_pos (by omega)), if_pos l4]
    simp only [g_73_6 c hn, ge_108 c hn, i15, ty, if_true, y15, Option.bind_some, e109, lj, gq_73 c hn, bp]
end SHAREC

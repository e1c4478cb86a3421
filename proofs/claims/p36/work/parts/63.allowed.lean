/-! ===== the call allowed ===== -/
section ALLOWED
variable {K n : Nat} {h : mm_H}
theorem bnS_c {g : mm_H} (e : ∀ a, a < 73 → g a = h a) (f hd y d : Int32) : ∀ i, bnS g f hd y d i = bnS h f hd y d i
  | 0 => rfl
  | i + 1 => by
    unfold bnS
    rw [bnS_c e f hd y d i, iA_c (e 62 (by omega)), iA_c (e 63 (by omega)), iA_c (e 64 (by omega)), iA_c (e 66 (by omega))]
theorem toldS_c {g : mm_H} (e : ∀ a, a < 73 → g a = h a) (F f y : Nat) (s : Stm) : toldS g F f y s = toldS h F f y s := by
  have ek : kn g = kn h := kn_c (fun a _ _ => e a (by omega))
  unfold toldS
  rw [ek, PtL_c ek, drS_c ek]
theorem allS_c {g : mm_H} (e : ∀ a, a < 73 → g a = h a) (F f y hd : Nat) (d : Int32) (w : Nat → Int64) (L : List Stm) : allS g F f y hd d w L = allS h F f y hd d w L := by
  unfold allS
  rw [bnS_c e, fI_c (e 61 (by omega)) 5, iA_c (e 65 (by omega))]
  cases bnS h (ni f) (ni hd) (ni y) d (fI h 61 5).toNatClampNeg with
  | some i => rfl
  | none =>
    cases lastS w 0 hd L 0 none with
    | none => rfl
    | some i =>
      cases q : L[i]? with
      | none => simp only [q]
      | some s => simp only [q, toldS_c e]
end ALLOWED

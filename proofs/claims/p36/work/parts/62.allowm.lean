/-! ===== what is allowed, on both sides ===== -/
section ALLOWM
variable {K n : Nat} {h : mm_H}
theorem i32_64 (x : Int32) : Int64.toInt32 (Int32.toInt64 x) = x := by simp
/-- what is allowed: a bench word, or by the statement that holds -/
def allS (h : mm_H) (F f y hd : Nat) (d : Int32) (w : Nat → Int64) (L : List Stm) : Int64 :=
  match bnS h (ni f) (ni hd) (ni y) d (fI h 61 5).toNatClampNeg with
  | some i => (iA h 65 i).toInt64
  | none => match lastS w 0 hd L 0 none with
    | none => 0
    | some i => match L[i]? with
      | some s => toldS h F f y s * (ni (sB s)).toInt64 / 100
      | none => 0
theorem clampM_id {v : Int64} (a : 0 ≤ v) (b : v ≤ 999999) : clampM v = v := by
  unfold clampM
  rw [if_neg (Int64.not_lt.mpr a), if_neg (Int64.not_lt.mpr b)]
/-- what a question of what is allowed keeps -/
def SX (h g : mm_H) : Prop := (∀ a, a < 143 ∨ (151 ≤ a ∧ a ≤ 158) ∨ (160 ≤ a ∧ a ≤ 202) ∨ a = 207 ∨ 159 ≤ a → g a = h a) ∧ (∀ k, k ≠ 1000 → k ≠ 1001 → k ≠ 65 → k ≠ 66 → fI g 159 k = fI h 159 k) ∧ fJ g 159 66 = fJ h 159 66
theorem SE.sx {g : mm_H} (a : SE h g) : SX h g := ⟨fun x q => a.1 x (by omega), a.2⟩
theorem SX.sw {g : mm_H} (a : SX h g) : SW h g := ⟨fun x q => a.1 x (by omega), a.2.1⟩
theorem SX.trans {g f : mm_H} (a : SX h g) (b : SX g f) : SX h f := ⟨fun x q => (b.1 x q).trans (a.1 x q), fun k p q r s => (b.2.1 k p q r s).trans (a.2.1 k p q r s), b.2.2.trans a.2.2⟩
theorem SX.of {g : mm_H} (o : ∀ a, a ≠ 203 → g a = h a) : SX h g := ⟨fun a q => o a (by omega), fun k _ _ _ _ => fI_c (o 159 (by decide)) k, fJ_c (o 159 (by decide)) 66⟩
end ALLOWM

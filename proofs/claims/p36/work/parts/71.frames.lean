/-! ===== what stays while a firm's years are asked for ===== -/
section FRAMES
variable {K n : Nat} {h : mm_H}
/-- what questions of a sheet keep, its rows of coins aside -/
def CS (h g : mm_H) : Prop := (∀ a, a < 109 ∨ (151 ≤ a ∧ a ≤ 158) ∨ (160 ≤ a ∧ a ≤ 203) ∨ a = 207 ∨ 159 ≤ a → g a = h a) ∧ ∀ k, k ≠ 1000 → k ≠ 1001 → k ≠ 65 → k ≠ 66 → fI g 159 k = fI h 159 k
theorem CS.id_ : CS h h := ⟨fun _ _ => rfl, fun _ _ _ _ _ => rfl⟩
theorem CS.trans {g f : mm_H} (a : CS h g) (b : CS g f) : CS h f := ⟨fun x q => (b.1 x q).trans (a.1 x q), fun k p q r s => (b.2 k p q r s).trans (a.2 k p q r s)⟩
theorem SE.cs {g : mm_H} (a : SE h g) : CS h g := ⟨fun x q => a.1 x (by omega), a.2.1⟩
theorem CS.sw {g : mm_H} (a : CS h g) : SW h g := ⟨fun x q => a.1 x (by omega), a.2⟩
/-- all but one row is kept -/
def CR (b : Nat) (h g : mm_H) : Prop := (∀ a, a ≠ b → (a < 143 ∨ (151 ≤ a ∧ a ≤ 158) ∨ (160 ≤ a ∧ a ≤ 203) ∨ a = 207 ∨ 159 ≤ a) → g a = h a) ∧ ∀ k, k ≠ 1000 → k ≠ 1001 → k ≠ 65 → k ≠ 66 → fI g 159 k = fI h 159 k
theorem CR.id_ {b : Nat} : CR b h h := ⟨fun _ _ _ => rfl, fun _ _ _ _ _ => rfl⟩
theorem CR.trans {b : Nat} {g f : mm_H} (x : CR b h g) (y : CR b g f) : CR b h f := ⟨fun a p q => (y.1 a p q).trans (x.1 a p q), fun k p q r s => (y.2 k p q r s).trans (x.2 k p q r s)⟩
theorem SE.cr {g : mm_H} (a : SE h g) (b : Nat) : CR b h g := ⟨fun x _ q => a.1 x q, a.2.1⟩
theorem CR.cs {b : Nat} {g : mm_H} (a : CR b h g) (h1 : 109 ≤ b) (h2 : b < 143) : CS h g := ⟨fun x q => a.1 x (by omega) (by omega), a.2⟩
theorem CR.sj {g : mm_H} (b i : Nat) (x : Int64) (h2 : b < 143) : CR b g (mm_sj g b i x) := ⟨fun a p _ => mm_sj_n p, fun k _ _ _ _ => fI_sj _ _ _ _ _⟩
/-- a sheet that is open for a firm, up to a year -/
def CF (n : Nat) (h : mm_H) (F f : Nat) (d : Int32) (Ls : Nat → List Stm) (Y : Nat) (g : mm_H) : Prop := PS g ∧ JR g ∧ (∀ a, a < 73 → g a = h a) ∧ fI g 73 11 = ni f ∧ fI g 73 12 = d ∧ CY g h f Ls Y ∧ (∀ i, i ≤ Y → jA g 107 i = wrS h f Ls i) ∧ (∀ r, r < 3 → ∃ z, RS g n (rA g 74 r) z (Ls r)) ∧ fI g 49 5 = ni F ∧ F ≤ 11 ∧ f < F
theorem CF.cs {F f Y : Nat} {d : Int32} {Ls : Nat → List Stm} {g g' : mm_H} (u : CF n h F f d Ls Y g) (hY : Y ≤ 15) (p : PS g') (s : CS g g') : CF n h F f d Ls Y g' := by
  obtain ⟨u1, u2, u3, u4, u5, u6, u7, u8, u9, u10, u11⟩ := u
  refine ⟨p, SW_JR s.sw u2, fun a ha => (s.1 a (by omega)).trans (u3 a ha), (fI_c (s.1 73 (by omega)) 11).trans u4, (fI_c (s.1 73 (by omega)) 12).trans u5, fun y hy => ⟨fun k o v => ?_, fun k l1 l2 => ?_⟩, fun i hi => ?_, fun r hr => ?_, (fI_c (s.1 49 (by omega)) 5).trans u9, u10, u11⟩
  · rw [iA_c (s.1 (76 + y) (by omega))]
    exact (u6 y hy).1 k o v
  · rw [iA_c (s.1 (92 + y) (by omega))]
    exact (u6 y hy).2 k l1 l2
  · rw [jA_c (s.1 107 (by omega))]
    exact u7 i hi
  · obtain ⟨z, R⟩ := u8 r hr
    refine ⟨z, ?_⟩
    rw [rA_c (s.1 74 (by omega))]
    exact RS_c (fun a q => s.1 a (by omega)) R
def alS (h : mm_H) (F f : Nat) (Ls : Nat → List Stm) (d : Int32) (y hd : Nat) : Int64 := allS h F f y hd d (wwS h f Ls y) (Ls (y / 5))
theorem shS_c {g : mm_H} (e : ∀ a, a < 73 → g a = h a) (F f y hd : Nat) (d : Int32) (w : Nat → Int64) (L : List Stm) : shS g F f y hd d w L = shS h F f y hd d w L := by
  unfold shS
  rw [allS_c e, kn_c (fun a _ _ => e a (by omega))]
theorem eaS_c {g : mm_H} (e : ∀ a, a < 73 → g a = h a) (f y o : Nat) (d : Int32) (w : Nat → Int64) (L : List Stm) : eaS g f y o d w L = eaS h f y o d w L := by
  unfold eaS
  rw [kn_c (fun a _ _ => e a (by omega))]
end FRAMES

/-! ===== what stays while a firm's years are asked for ===== -/
section FRAMES
variable {K n : Nat} {h : mm_H}
/-- what questions of a sheet keep, its rows of coins aside -/
def CS (h g : mm_H) : Prop := (∀ a, a < 109 ∨ (151 ≤ a ∧ a ≤ 158) ∨ (160 ≤ a ∧ a ≤ 203) ∨ a = 207 ∨ 208 ≤ a → g a = h a) ∧ ∀ k, k ≠ 1000 → k ≠ 1001 → k ≠ 65 → k ≠ 66 → fI g 159 k = fI h 159 k
theorem CS.id_ : CS h h := ⟨fun _ _ => rfl, fun _ _ _ _ _ => rfl⟩
theorem CS.trans {g f : mm_H} (a : CS h g) (b : CS g f) : CS h f := ⟨fun x q => (b.1 x q).trans (a.1 x q), fun k p q r s => (b.2 k p q r s).trans (a.2 k p q r s)⟩
theorem SE.cs {g : mm_H} (a : SE h g) : CS h g := ⟨fun x q => a.1 x (by omega), a.2.1⟩
theorem CS.sw {g : mm_H} (a : CS h g) : SW h g := ⟨fun x q => a.1 x (by omega), a.2⟩
/-- all but one row is kept -/
def CR (b : Nat) (h g : mm_H) : Prop := (∀ a, a ≠ b → (a < 143 ∨ (151 ≤ a ∧ a ≤ 158) ∨ (160 ≤ a ∧ a ≤ 203) ∨ a = 207 ∨ 208 ≤ a) → g a = h a) ∧ ∀ k, k ≠ 1000 → k ≠ 1001 → k ≠ 65 → k ≠ 66 → fI g 159 k = fI h 159 k
theorem CR.id_ {b : Nat} : CR b h h := ⟨fun _ _ _ => rfl, fun _ _ _ _ _ => rfl⟩
theorem CR.trans {b : Nat} {g f : mm_H} (x : CR b h g) (y : CR b g f) : CR b h f := ⟨fun a p q => (y.1 a p q).trans (x.1 a p q), fun k p q r s => (y.2 k p q r s).trans (x.2 k p q r s)⟩
theorem SE.cr {g : mm_H} (a : SE h g) (b : Nat) : CR b h g := ⟨fun x _ q => a.1 x q, a.2.1⟩
theorem CR.cs {b : Nat} {g : mm_H} (a : CR b h g) (h1 : 109 ≤ b) (h2 : b < 143) : CS h g := ⟨fun x q => a.1 x (by omega) (by omega), a.2⟩
theorem CR.sj {g : mm_H} (b i : Nat) (x : Int64) (h2 : b < 143) : CR b g (mm_sj g b i x) := ⟨fun a p _ => mm_sj_n p, fun k _ _ _ _ => fI_sj _ _ _ _ _⟩
/-- a sheet that is open for a firm, up to a year -/
def CF (n : Nat) (h : mm_H) (F f : Nat) (d : Int32) (Ls : Nat → List Stm) (Y : Nat) (g : mm_H) : Prop := PS g ∧ JR g ∧ (∀ a, a < 73 → g a = h a) ∧ fI g 73 11 = ni f ∧ fI g 73 12 = d ∧ CY g h f Ls Y ∧ (∀ i, i ≤ Y → jA g 107 i = wrS h f Ls i) ∧ (∀ r, r < 3 → ∃ z, RS g n (rA g 74 r) z (Ls r)) ∧ fI g 49 5 = ni F ∧ F ≤ 11 ∧ f < F
theorem CF.cs {F f Y : Nat} {d : Int32} {Ls : Nat → List Stm} {g g' : mm_H} (u : CF n h F f d Ls Y g) (hY : Y ≤ 15) (p : PS g') (s : CS g g') : CF n h F f d Ls Y g' := by
  obtain ⟨u1, u2, u3, u4, u5, u6, u7, u8, u9, u10, u11⟩ := u
  refine ⟨p, SW_JR s.sw u2, fun a ha => (s.1 a (by omega)).trans (u3 a ha), (fI_c (s.1 73 (by omega)) 11).trans u4, (fI_c (s.1 73 (by omega)) 12).trans u5, fun y hy => ⟨fun k o v => ?_, fun k l1 l2 => ?_⟩, fun i hi => ?_, fun r hr => ?_, (fI_c (s.1 49 (by omega)) 5).trans u9, u10, u11⟩
  · rw [iA_c (s.1 (76 + y) (by omega))]
    exact (u6 y hy).1 k o v
  · rw [iA_c (s.1 (92 + y) (by omega))]
    exact (u6 y hy).2 k l1 l2
  · rw [jA_c (s.1 107 (by omega))]
    exact u7 i hi
  · obtain ⟨z, R⟩ := u8 r hr
    refine ⟨z, ?_⟩
    rw [rA_c (s.1 74 (by omega))]
    exact RS_c (fun a q => s.1 a (by omega)) R
/-- the model's arrays for a firm -/
def MF (K n : Nat) (h : mm_H) (F f : Nat) (Ls : Nat → List Stm) (g : mm_H) : Prop := PS g ∧ JR g ∧ (∀ a, a < 73 → g a = h a) ∧ (∀ y, y < 15 → ∀ i, i < 5 → wdW (ni y).toInt64 (ni f).toInt64 (iA g 201 y).toInt64 (jA g 200 y) (iA g 202 y).toInt64 i = wwS h f Ls y i) ∧ (∀ i, i ≤ 15 → jA g 200 i = wrS h f Ls i) ∧ (∀ r, r < 3 → ∃ b z, RS g n b z (Ls r) ∧ SO K n g r z) ∧ fI g 49 5 = ni F ∧ F ≤ 11 ∧ f < F
theorem MF.sx {F f : Nat} {Ls : Nat → List Stm} {g g' : mm_H} (u : MF K n h F f Ls g) (p : PS g') (s : SX g g') : MF K n h F f Ls g' := by
  obtain ⟨u1, u2, u3, u4, u5, u6, u7, u8, u9⟩ := u
  refine ⟨p, SW_JR s.sw u2, fun a ha => (s.1 a (by omega)).trans (u3 a ha), fun y hy i hi => ?_, fun i hi => ?_, fun r hr => ?_, (fI_c (s.1 49 (by omega)) 5).trans u7, u8, u9⟩
  · rw [iA_c (s.1 201 (by omega)), jA_c (s.1 200 (by omega)), iA_c (s.1 202 (by omega))]
    exact u4 y hy i hi
  · rw [jA_c (s.1 200 (by omega))]
    exact u5 i hi
  · obtain ⟨b, z, R, so⟩ := u6 r hr
    exact ⟨b, z, RS_c (fun a q => s.1 a (by omega)) R, so.qe s.qe⟩
theorem z_mf (hK : 3000 ≤ K) (hn : 208 ≤ n) {g : mm_H} (c : PS g) (j : JR g) (e73 : ∀ a, a < 73 → g a = h a) {F f : Nat} (uF : fI g 49 5 = ni F) (hF : F ≤ 11) (hf : f < F) {Ls : Nat → List Stm} (R : ∀ r, r < 3 → ∃ b z, RS g n b z (Ls r) ∧ SO K n g r z) : ∃ w, q_X11_prepares K g n 159 (ni f) = some w ∧ MF K n h F f Ls w ∧ ME g w := by
  obtain ⟨w, u1, u2, u3, u4⟩ := z_prepares hK c hn j (f := f) (by omega) (Ls := Ls) R
  refine ⟨w, u1, ⟨u2, JR_c (fun a q => u3 a (by omega)) j, fun a ha => (u3 a (by omega)).trans (e73 a ha), fun y hy i hi => ?_, fun i hi => ?_, fun r hr => ?_, (fI_c (u3 49 (by omega)) 5).trans uF, hF, hf⟩, u3⟩
  · rw [u4.w hy i hi, wwS_c e73]
  · rw [u4.2 i hi, wrS_c e73]
  · obtain ⟨b, z, R, so⟩ := R r hr
    exact ⟨b, z, RS_c (fun a q => u3 a (by omega)) R, so.me u3⟩
theorem MF.plain (hK : 3000 ≤ K) (hn : 208 ≤ n) {F f y k : Nat} {Ls : Nat → List Stm} {g : mm_H} (u : MF K n h F f Ls g) (hy : y ≤ 14) (hk : k ≤ 8) (d : Int32) : ∃ g', q_X11_plainOf K g n 159 (ni f) (ni y) (ni k) d = some (numS (wwS h f Ls y) (Ls (y / 5)) k d, g') ∧ MF K n h F f Ls g' ∧ SX g g' := by
  obtain ⟨b, z, R, so⟩ := u.2.2.2.2.2.1 (y / 5) (by omega)
  obtain ⟨g', e, p, o⟩ := z_plainOf hK u.1 hn (k := k) hy hk so R (u.2.2.2.1 y (by omega)) d
  exact ⟨g', e, u.sx p (SX.of o), SX.of o⟩
def alS (h : mm_H) (F f : Nat) (Ls : Nat → List Stm) (d : Int32) (y hd : Nat) : Int64 := allS h F f y hd d (wwS h f Ls y) (Ls (y / 5))
theorem MF.allowed (hK : 3000 ≤ K) (hn : 208 ≤ n) {F f y hd : Nat} {Ls : Nat → List Stm} {g : mm_H} (u : MF K n h F f Ls g) (hy : y ≤ 14) (hhd : hd ≤ 3) (d : Int32) : ∃ g', q_X11_allowedOf K g n 159 (ni f) (ni hd) (ni y) d = some (Int64.toInt32 (alS h F f Ls d y hd), g') ∧ (Int64.toInt32 (alS h F f Ls d y hd)).toInt64 = alS h F f Ls d y hd ∧ MF K n h F f Ls g' ∧ SX g g' := by
  obtain ⟨b, z, R, so⟩ := u.2.2.2.2.2.1 (y / 5) (by omega)
  obtain ⟨-, u2, u3, -, -, -, u7, u8, u9⟩ := id u
  obtain ⟨g', e, p, s⟩ := z_allowedOf hK u.1 hn u2 (d := d) u7 u8 u9 hy hhd so R (u.2.2.2.1 y (by omega))
  obtain ⟨t, ht, et⟩ := allS_nj u2 (F := F) (f := f) (y := y) (hd := hd) (d := d) (w := wwS h f Ls y) (L := Ls (y / 5)) (by omega) hy (RS_ok R)
  rw [allS_c u3] at e et
  refine ⟨g', e, ?_, u.sx p s, s⟩
  unfold alS
  rw [et, all32 (by omega)]
theorem shS_c {g : mm_H} (e : ∀ a, a < 73 → g a = h a) (F f y hd : Nat) (d : Int32) (w : Nat → Int64) (L : List Stm) : shS g F f y hd d w L = shS h F f y hd d w L := by
  unfold shS
  rw [allS_c e, kn_c (fun a _ _ => e a (by omega))]
theorem eaS_c {g : mm_H} (e : ∀ a, a < 73 → g a = h a) (f y o : Nat) (d : Int32) (w : Nat → Int64) (L : List Stm) : eaS g f y o d w L = eaS h f y o d w L := by
  unfold eaS
  rw [kn_c (fun a _ _ => e a (by omega))]
theorem MF.shared (hK : 3000 ≤ K) (hn : 208 ≤ n) {F f y hd : Nat} {Ls : Nat → List Stm} {g : mm_H} (u : MF K n h F f Ls g) (hy : y ≤ 14) (hhd : hd ≤ 3) (d : Int32) : ∃ g', q_X11_shared K g n 159 (ni f) (ni hd) (ni y) d = some (shS h F f y hd d (wwS h f Ls y) (Ls (y / 5)), g') ∧ MF K n h F f Ls g' ∧ SX g g' := by
  obtain ⟨b, z, R, so⟩ := u.2.2.2.2.2.1 (y / 5) (by omega)
  obtain ⟨-, u2, u3, -, -, -, u7, u8, u9⟩ := id u
  obtain ⟨g', e, p, s⟩ := z_sharedM hK u.1 hn u2 (d := d) u7 u8 u9 hy hhd so R (u.2.2.2.1 y (by omega))
  rw [shS_c u3] at e
  exact ⟨g', e, u.sx p s, s⟩
theorem MF.earned (hK : 3000 ≤ K) (hn : 208 ≤ n) {F f y o : Nat} {Ls : Nat → List Stm} {g : mm_H} (u : MF K n h F f Ls g) (hy : y ≤ 14) (ho : o ≤ 2) (d : Int32) : ∃ g', q_X11_earned K g n 159 (ni f) (ni o) (ni y) d = some (eaS h f y o d (wwS h f Ls y) (Ls (y / 5)), g') ∧ MF K n h F f Ls g' ∧ SX g g' := by
  obtain ⟨b, z, R, so⟩ := u.2.2.2.2.2.1 (y / 5) (by omega)
  obtain ⟨-, u2, u3, -, -, -, u7, u8, u9⟩ := id u
  obtain ⟨g', e, p, s⟩ := z_earnedM hK u.1 hn u2 (f := f) (d := d) (by omega) hy ho so R (u.2.2.2.1 y (by omega))
  rw [eaS_c u3] at e
  exact ⟨g', e, u.sx p (SX.of s), SX.of s⟩
theorem MF.bears (hK : 3000 ≤ K) (hn : 208 ≤ n) {F f y hd : Nat} {Ls : Nat → List Stm} {g : mm_H} (u : MF K n h F f Ls g) (hy : y ≤ 14) (hhd : hd ≤ 3) (v : Int64) : ∃ g', q_X11_bearsBy K g n 159 (ni f) (ni hd) (ni y) v = some (brO (wwS h f Ls y) (Ls (y / 5)) hd v, g') ∧ MF K n h F f Ls g' ∧ SX g g' := by
  obtain ⟨b, z, R, so⟩ := u.2.2.2.2.2.1 (y / 5) (by omega)
  obtain ⟨g', e, p, s⟩ := z_bearsBy hK u.1 hn (f := f) (hd := hd) hy hhd so R (u.2.2.2.1 y (by omega)) v
  exact ⟨g', e, u.sx p (SX.of s), SX.of s⟩
theorem SX.id_ : SX h h := SE.id_.sx
end FRAMES

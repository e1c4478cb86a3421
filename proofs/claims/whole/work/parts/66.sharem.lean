/-! ===== what is shared, on the model's side ===== -/
section SHAREM
variable {K n : Nat} {h : mm_H}
def shS (h : mm_H) (F f y hd : Nat) (d : Int32) (w : Nat → Int64) (L : List Stm) : Int64 := if kn h f y (3 + hd) d = -1 then 0 else ((kn h f y (3 + hd) d).toInt64 - allS h F f y hd d w L) - brO w L hd ((kn h f y (3 + hd) d).toInt64 - allS h F f y hd d w L)
theorem SX.qe {g : mm_H} (s : SX h g) : QE h g := ⟨fun a _ _ => s.1 a (by omega), s.2.1 24 (by decide) (by decide) (by decide) (by decide), s.2.1 56 (by decide) (by decide) (by decide) (by decide), s.2.1 57 (by decide) (by decide) (by decide) (by decide)⟩
theorem RS_ok {b : Option Nat} {z : Int32} {L : List Stm} (R : RS h n b z L) : ∀ s, s ∈ L → sOk s := by
  rcases R with ⟨-, -, rfl⟩ | ⟨p', w0, B, a, b', -, -, -, -, -, -, ok, -⟩
  · intro s hs; cases hs
  · exact ok
theorem z_sharedM (hK : 3000 ≤ K) (c : PS h) (hn : 208 ≤ n) (j : JR h) {F f y hd : Nat} {d z : Int32} {b : Option Nat} {w : Nat → Int64} {L : List Stm} (uF : fI h 49 5 = ni F) (hF : F ≤ 11) (hf : f < F) (hy : y ≤ 14) (hhd : hd ≤ 3) (so : SO K n h (y / 5) z) (R : RS h n b z L) (hw : ∀ i, i < 5 → wdW (ni y).toInt64 (ni f).toInt64 (iA h 201 y).toInt64 (jA h 200 y) (iA h 202 y).toInt64 i = w i) : ∃ g, q_X11_shared K h n 159 (ni f) (ni hd) (ni y) d = some (shS h F f y hd d w L, g) ∧ PS g ∧ SX h g := by
  have e3 : (3 : Int32) + ni hd = ni (3 + hd) := ni_add 3 _
  have kf := z_X11_factBy hK c hn j.2.2.1 (show f ≤ 10 by omega) hy (show 3 + hd ≤ 16 by omega) d
  unfold q_X11_shared shS
  simp only [gq_159 c hn, Option.bind_some, e3, kf]
  by_cases hk : kn h f y (3 + hd) d = -1
  · rw [if_pos hk, if_pos hk]
    exact ⟨h, rfl, c, SE.id_.sx⟩
  · rw [if_neg hk, if_neg hk]
    obtain ⟨g, a1, a2, a3⟩ := z_allowedOf hK c hn j (d := d) uF hF hf hy hhd so R hw
    obtain ⟨t, ht, et⟩ := allS_nj j (F := F) (f := f) (y := y) (hd := hd) (d := d) (w := w) (L := L) (by omega) hy (RS_ok R)
    have ov : q_X11_overOf K h n 159 (ni f) (ni hd) (ni y) d = some ((kn h f y (3 + hd) d).toInt64 - allS h F f y hd d w L, g) := by
      unfold q_X11_overOf
      simp only [gq_159 c hn, Option.bind_some, e3, kf, a1, et, all32 (show t < 2147483648 by omega)]
    obtain ⟨g', b1, b2, b3⟩ := z_bearsBy hK a2 hn (f := f) (hd := hd) hy hhd (so.qe a3.qe) (RS_c (fun a q => a3.1 a (by omega)) R) (w := w) (fun i hi => by
      rw [iA_c (a3.1 201 (by omega)), jA_c (a3.1 200 (by omega)), iA_c (a3.1 202 (by omega))]
      exact hw i hi) ((kn h f y (3 + hd) d).toInt64 - allS h F f y hd d w L)
    simp only [ov, Option.bind_some, gq_159 a2 hn, b1]
    exact ⟨g', rfl, b2, a3.trans (SX.of b3)⟩
end SHAREM

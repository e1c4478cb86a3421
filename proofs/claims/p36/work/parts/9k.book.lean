/-! ===== what the class makes of the law's text and of what it told ===== -/
section BOOK
variable {H : mm_H} {x : Nat → Int32} {M s0 t : Nat} {P : Nat → Nat} {le ti : Bool}
/-- the statements of the drawn text; P 2 to P 15 are its numbers in their order -/
def lawL (P : Nat → Nat) (le ti : Bool) : List Stm := [((3, 0, 0), (P 2, 0, 0, 0, 0), []), ((4, 0, 0), (P 3, 0, 0, 0, 0), []), ((5, 0, 0), (P 4, 0, 0, 0, 0), []), ((6, 0, 0), (P 5, 0, 0, 0, 0), [cmpI 0 1 3])] ++ (if ti = true then [((7, 0, 0), (P 6, 0, 0, 0, 0), [])] else []) ++ [((8, 0, 0), (P 7, 0, 0, 0, 0), []), ((0, 0, 3), (0, P 8, 0, 0, 0), []), ((1, 0, 0), (P 9, P 10, 0, 0, 0), []), ((2, 1, if le = true then 1 else 0), (P 11, P 12, P 13, P 14, P 15), [])]
abbrev LL (P : Nat → Nat) (le ti : Bool) : Nat → List Stm := fun _ => lawL P le ti
theorem lawL_t : lawL P le true = [((3, 0, 0), (P 2, 0, 0, 0, 0), []), ((4, 0, 0), (P 3, 0, 0, 0, 0), []), ((5, 0, 0), (P 4, 0, 0, 0, 0), []), ((6, 0, 0), (P 5, 0, 0, 0, 0), [cmpI 0 1 3]), ((7, 0, 0), (P 6, 0, 0, 0, 0), []), ((8, 0, 0), (P 7, 0, 0, 0, 0), []), ((0, 0, 3), (0, P 8, 0, 0, 0), []), ((1, 0, 0), (P 9, P 10, 0, 0, 0), []), ((2, 1, if le = true then 1 else 0), (P 11, P 12, P 13, P 14, P 15), [])] := rfl
theorem lawL_f : lawL P le false = [((3, 0, 0), (P 2, 0, 0, 0, 0), []), ((4, 0, 0), (P 3, 0, 0, 0, 0), []), ((5, 0, 0), (P 4, 0, 0, 0, 0), []), ((6, 0, 0), (P 5, 0, 0, 0, 0), [cmpI 0 1 3]), ((8, 0, 0), (P 7, 0, 0, 0, 0), []), ((0, 0, 3), (0, P 8, 0, 0, 0), []), ((1, 0, 0), (P 9, P 10, 0, 0, 0), []), ((2, 1, if le = true then 1 else 0), (P 11, P 12, P 13, P 14, P 15), [])] := rfl
theorem tst_0 (w : Nat → Int64) : tstV w [] = false := rfl
theorem tst_3 (w : Nat → Int64) : tstV w [cmpI 0 1 3] = decide ((ni 3).toInt64 < w 0) := rfl
theorem num_3 (w : Nat → Int64) (d : Int32) : numS w (lawL P le ti) 3 d = ni (P 2) := by
  unfold numS
  cases ti
  · simp [lawL_f, lastS, sK, sO, sM, sT, sA, sB, tst_0]
  · simp [lawL_t, lastS, sK, sO, sM, sT, sA, sB, tst_0]
theorem num_4 (w : Nat → Int64) (d : Int32) : numS w (lawL P le ti) 4 d = ni (P 3) := by
  unfold numS
  cases ti
  · simp [lawL_f, lastS, sK, sO, sM, sT, sA, sB, tst_0]
  · simp [lawL_t, lastS, sK, sO, sM, sT, sA, sB, tst_0]
theorem num_5 (w : Nat → Int64) (d : Int32) : numS w (lawL P le ti) 5 d = ni (P 4) := by
  unfold numS
  cases ti
  · simp [lawL_f, lastS, sK, sO, sM, sT, sA, sB, tst_0]
  · simp [lawL_t, lastS, sK, sO, sM, sT, sA, sB, tst_0]
theorem num_6 (w : Nat → Int64) (d : Int32) : numS w (lawL P le ti) 6 d = if (ni 3).toInt64 < w 0 then d else ni (P 5) := by
  unfold numS
  by_cases q : (ni 3).toInt64 < w 0
  · rw [if_pos q]
    cases ti
    · simp [lawL_f, lastS, sK, sO, sM, sT, sA, sB, tst_0, tst_3, q]
    · simp [lawL_t, lastS, sK, sO, sM, sT, sA, sB, tst_0, tst_3, q]
  · rw [if_neg q]
    cases ti
    · simp [lawL_f, lastS, sK, sO, sM, sT, sA, sB, tst_0, tst_3, q]
    · simp [lawL_t, lastS, sK, sO, sM, sT, sA, sB, tst_0, tst_3, q]
theorem num_7 (w : Nat → Int64) (d : Int32) : numS w (lawL P le ti) 7 d = if ti = true then ni (P 6) else d := by
  unfold numS
  cases ti
  · simp [lawL_f, lastS, sK, sO, sM, sT, sA, sB, tst_0]
  · simp [lawL_t, lastS, sK, sO, sM, sT, sA, sB, tst_0]
theorem num_8 (w : Nat → Int64) (d : Int32) : numS w (lawL P le ti) 8 d = ni (P 7) := by
  unfold numS
  cases ti
  · simp [lawL_f, lastS, sK, sO, sM, sT, sA, sB, tst_0]
  · simp [lawL_t, lastS, sK, sO, sM, sT, sA, sB, tst_0]
/-- what the register holds when the law begins to ask -/
def RGp (H : mm_H) (x : Nat → Int32) (M s0 t : Nat) : Prop := fI H 49 5 = 2 ∧ iA H 50 0 = ni s0 ∧ iA H 50 1 = 7 ∧ fI H 61 5 = 0 ∧ (∃ m, KNp H (kfY x 5) m) ∧ WKp H x M (dD x (-1) M) ∧ LGp H x 2 ∧ t ≤ 1499 ∧ M ≤ 3 ∧ s0 ≤ 131071
theorem RGp.kn (R : RGp H x M s0 t) {y w : Nat} (hy : y < 5) (hw : w ≤ 16) {d : Nat} (hd : d < 2147483648) : kn H 0 y w (ni d) = KC x y w := by
  obtain ⟨-, -, -, -, ⟨m, k⟩, -⟩ := R
  rw [k.2 0 y w d (by omega) (by omega) hw hd, kfY_eq, if_pos ⟨rfl, hy⟩]
theorem dcd_0 {y : Nat} (hy : y < 5) : dcd y = ni 0 := by
  unfold dcd
  rw [show y / 5 = 0 by omega]
theorem al_0 (R : RGp H x M s0 t) {y : Nat} (hy : y < 5) (d : Int32) : alS H 2 0 (LL P le ti) d y 0 = (ni (tvN x y)).toInt64 * (ni (P 8)).toInt64 / 100 := by
  have k := R.kn hy (w := 7) (by omega) (d := 0) (by omega)
  have kc : KC x y 7 = ni (tvN x y) := by unfold KC; rw [if_pos rfl]
  have b := (bt_ok (x (4 + y)) (M := 1023) (by omega)).2
  have n1 : ¬ ni (tvN x y) = -1 := ni_n1 (by unfold tvN; omega)
  unfold alS allS
  rw [R.2.2.2.1]
  show (match lastS _ 0 0 (lawL P le ti) 0 none with | none => _ | some i => _) = _
  have ts : toldS H 2 0 y ((0, 0, 3), (0, P 8, 0, 0, 0), []) = (ni (tvN x y)).toInt64 := by
    unfold toldS
    rw [if_pos rfl, dcd_0 hy]
    show (if kn H 0 y 7 (ni 0) = -1 then (0 : Int64) else (kn H 0 y 7 (ni 0)).toInt64) = _
    rw [k, kc, if_neg n1]
  cases ti
  · simp [lawL_f, lastS, sK, sO, sM, sT, sA, sB, tst_0, ts]
  · simp [lawL_t, lastS, sK, sO, sM, sT, sA, sB, tst_0, ts]
theorem al_n (R : RGp H x M s0 t) {y hd : Nat} (h0 : hd ≠ 0) (d : Int32) : alS H 2 0 (LL P le ti) d y hd = 0 := by
  unfold alS allS
  rw [R.2.2.2.1]
  show (match lastS _ 0 hd (lawL P le ti) 0 none with | none => _ | some i => _) = _
  have h1 : ¬ 0 = hd := fun e => h0 e.symm
  cases ti
  · simp [lawL_f, lastS, sK, sO, sM, sT, sA, sB, tst_0, h1]
  · simp [lawL_t, lastS, sK, sO, sM, sT, sA, sB, tst_0, h1]
theorem ea_n (w : Nat → Int64) {y o : Nat} (h1 : o ≠ 1) (d : Int32) : eaS H 0 y o d w (lawL P le ti) = 0 := by
  unfold eaS
  have h2 : ¬ 1 = o := fun e => h1 e.symm
  cases ti
  · simp [lawL_f, lastS, sK, sO, sM, sT, sA, sB, tst_0, h2]
  · simp [lawL_t, lastS, sK, sO, sM, sT, sA, sB, tst_0, h2]
theorem ea_1 (R : RGp H x M s0 t) (w : Nat → Int64) {y : Nat} (hy : y < 5) {d : Nat} (hd : d < 2147483648) : eaS H 0 y 1 (ni d) w (lawL P le ti) = if ovI x y = -1 then 0 else erS ((2, 1, if le = true then 1 else 0), (P 11, P 12, P 13, P 14, P 15), []) (ovI x y).toInt64 := by
  have k := R.kn hy (w := 15) (by omega) hd
  have kc : KC x y 15 = ovI x y := by unfold KC; rw [if_neg (by decide), if_neg (by decide), if_pos rfl]
  unfold eaS
  show (match lastS _ 2 1 (lawL P le ti) 0 none with | none => (0 : Int64) | some i => match (lawL P le ti)[i]? with | some s => if kn H 0 y 15 (ni d) = -1 then 0 else erS s (kn H 0 y 15 (ni d)).toInt64 | none => 0) = _
  rw [k, kc]
  cases ti
  · simp [lawL_f, lastS, sK, sO, sM, sT, sA, sB, tst_0]
  · simp [lawL_t, lastS, sK, sO, sM, sT, sA, sB, tst_0]
theorem sh_n (R : RGp H x M s0 t) (w : Nat → Int64) {y hd : Nat} (h0 : hd ≠ 0) (h3 : hd ≤ 3) (hy : y < 5) {d : Nat} (hd' : d < 2147483648) : shS H 2 0 y hd (ni d) w (lawL P le ti) = 0 := by
  have k := R.kn hy (w := 3 + hd) (by omega) hd'
  have kc : KC x y (3 + hd) = -1 := by unfold KC; rw [if_neg (by omega), if_neg (by omega), if_neg (by omega), if_neg (by omega)]
  unfold shS
  rw [k, kc, if_pos rfl]
theorem sh_0 (R : RGp H x M s0 t) {y : Nat} (hy : y < 5) {d : Nat} (hd : d < 2147483648) : shS H 2 0 y 0 (ni d) (wwS H 0 (LL P le ti) y) (lawL P le ti) = if cvI x y = -1 then 0 else ((cvI x y).toInt64 - (ni (tvN x y)).toInt64 * (ni (P 8)).toInt64 / 100) - brS ((1, 0, 0), (P 9, P 10, 0, 0, 0), []) ((cvI x y).toInt64 - (ni (tvN x y)).toInt64 * (ni (P 8)).toInt64 / 100) := by
  have k := R.kn hy (w := 3) (by omega) hd
  have kc : KC x y 3 = cvI x y := by unfold KC; rw [if_neg (by decide), if_pos rfl]
  have a : allS H 2 0 y 0 (ni d) (wwS H 0 (LL P le ti) y) (lawL P le ti) = (ni (tvN x y)).toInt64 * (ni (P 8)).toInt64 / 100 := al_0 (P := P) (le := le) (ti := ti) R hy (ni d)
  unfold shS
  rw [a]
  show (if kn H 0 y 3 (ni d) = -1 then (0 : Int64) else _) = _
  rw [k, kc]
  have br : ∀ v, brO (wwS H 0 (LL P le ti) y) (lawL P le ti) 0 v = brS ((1, 0, 0), (P 9, P 10, 0, 0, 0), []) v := fun v => by
    unfold brO
    cases ti
    · simp [lawL_f, lastS, sK, sO, sM, sT, sA, sB, tst_0]
    · simp [lawL_t, lastS, sK, sO, sM, sT, sA, sB, tst_0]
  rw [br]
end BOOK

/-! ===== arrays of arrays ===== -/
def mm_row (h : mm_H) (n N : Nat) (ty : FieldType) (e : vp_A) : mm_H := fun a => if a = n then .inl (.array ty, N, .inr (.inr (.inr (.inr (fun j => if j < N then some (n + 1 + j) else none))))) else if n < a ∧ a ≤ n + N then .inl (ty, e) else h a
theorem mm_outer0 {c : ClassId} {N h0 : Nat} : ∀ i : Nat, Jvm.Free.Multi.outerC c N h0 i = arrV c N (fun j => if j < i then .ref (h0 + 1 + j) else .null)
  | 0 => by
    show ({ cls := c, slots := Array.replicate N .null, vm := .none } : Cell) = _
    rw [arrV_new]
    rfl
  | i + 1 => by
    show (Jvm.Free.Multi.outerC c N h0 i).setSlot i (.ref (h0 + 1 + i)) = _
    rw [mm_outer0 i, arrV_store]
    congr 1
    funext j
    unfold updV
    by_cases hj : j = i
    · subst hj
      rw [if_pos rfl, if_pos (Nat.lt_succ_self _)]
    · rw [if_neg hj]
      dsimp only
      by_cases h2 : j < i
      · rw [if_pos h2, if_pos (by omega)]
      · rw [if_neg h2, if_neg (by omega)]
theorem mm_outer {c : ClassId} {N h0 : Nat} : Jvm.Free.Multi.outerC c N h0 N = arrV c N (fun j => if j < N then .ref (h0 + 1 + j) else .null) := mm_outer0 N
theorem mm_R.row {G : mm_G} {h : mm_H} {n N M : Nat} {H : Heap} {ty : FieldType} {e : vp_A} {dv : Value} {S : State} (hR : mm_R G h n H) (hHI : n + (1 + N) ≤ 1000000) (hS : S.heap = H) (he : ∀ c : ClassId, vp_cell c (mm_x G e) = Jvm.Free.Multi.innerC c M dv) : mm_R G (mm_row h n N ty e) (n + (1 + N)) (Jvm.Free.Multi.fill S (G.2.1 (.array ty)) (G.2.1 ty) N M dv N).heap := by
  subst hS
  obtain ⟨z1, z2, -, -⟩ := Jvm.Free.Multi.fill_facts S (G.2.1 (.array ty)) (G.2.1 ty) N M dv N
  have h1 := hR.1
  have h2 := hR.2.1.1
  have hn1 : n < 1000000 := by omega
  refine ⟨by rw [z1]; omega, ⟨by omega, hHI⟩, fun b hb1 hb2 => ?_, fun b hb => ?_⟩
  · by_cases hbn : b = n
    · subst hbn
      unfold mm_row
      rw [if_pos rfl, hR.next hn1]
      show _ = some (vp_cell (G.2.1 (.array ty)) (N, .inr (.inr (.inr (.inr _)))))
      rw [z2, mm_outer, vp_cell_q]
      congr 2
      funext j
      by_cases hj : j < N
      · simp only [if_pos hj]
        show _ = Value.ref (mm_a G (b + 1 + j))
        rw [← hR.next hn1, mm_own (a := b) h2 hn1, mm_own (a := b + 1 + j) (by omega) (by omega)]
        exact congrArg Value.ref (show (G.2.2.2.1 + (b - 48) + 1 + j : Nat) = G.2.2.2.1 + (b + 1 + j - 48) from by omega)
      · simp only [if_neg hj]; rfl
    · unfold mm_row
      rw [if_neg hbn]
      by_cases hi : n < b ∧ b ≤ n + N
      · rw [if_pos hi]
        show _ = some (vp_cell (G.2.1 ty) (mm_x G e))
        rw [he]
        have := Jvm.Free.Multi.fill_inner S (G.2.1 (.array ty)) (G.2.1 ty) N M dv N (b - (n + 1)) (by omega)
        rw [← this, ← hR.next hn1, mm_own (by omega) (by omega), mm_own (by omega) (by omega)]
        congr 1
        omega
      · rw [if_neg hi]
        have h3 := hR.2.2.1 b hb1 (by omega)
        exact h3.kept (Jvm.Free.Multi.fill_old S _ _ N M dv h3.lt N)
  · unfold mm_row
    rw [if_neg (by omega), if_neg (by omega)]
    exact hR.2.2.2 b hb
section MMM
variable {w : mm_X} {G : mm_G} {cc : ByteArray} {own nm : String} {nL mc ms d pc n kc ks : Nat} {ret : Option FieldType} {Q : State → Prop} {L : List (Option Value)} {st : List Value} {h : mm_H}
def newMI (h : mm_H) (n N M : Nat) : Option mm_H := if n + (1 + N) ≤ 1000000 then some (mm_row h n N .int (M, .inl (fun _ => 0))) else none
theorem rr_newMIq (C : mm_C w G cc own nL mc ms ret d nm) {index N M : Nat} {i j : Int32} {h1 : mm_H} (hd : decode cc pc = .ok (.multianewarray index 2, 4)) (hw : Cond.classLink own index "[[I" ∈ mm_tbl) (hi : ¬ i < 0) (hj : ¬ j < 0) (hN : i.toNatClampNeg = N) (hM : j.toNatClampNeg = M) (hb1 : N * 4 ≤ 536870912) (hb2 : M * componentBytes .int ≤ 536870912) (hb3 : M ≤ 536870912) (e : newMI h n N M = some h1)
    (kk : WW w G nL mc ms Q (pc + 4) L (.ref n :: st) h1 (n + (1 + N)) kc ks) : WW w G nL mc ms Q pc L (.int j :: .int i :: st) h n (kc + (1 + N)) (ks + (N + N * M)) := by
  unfold newMI at e
  split at e
  case isFalse => cases e
  rename_i hHI
  obtain rfl := Option.some.inj e
  obtain ⟨p, l, e, R, s, m, args, below, meth, c⟩ := w
  intro ls H locs cells slots hL hR hS hc hs T hT X
  subst hN
  subst hM
  have hmc := C.2.2.2.2.2.2.2.2.2.1
  have hms := C.2.2.2.2.2.2.2.2.2.2.1
  have hover : (Cond.arrayOver (.array .int)).before args s = true := C.2.2.2.2.2.2.1.2.2.2.2.2.2.2.2.2.2.1
  obtain ⟨vm1, cA, comp, hW, hfA, hfC, -, -, X1, st1⟩ := X.multianewarray2F (ty := .int) C.1 C.2.2.2.1 (C.2.2.2.2.1 _ hw) hover (C.2.2.2.2.1 _ ac_int) (g := F0 m pc ls ((Value.int j :: .int i :: st).map (mm_v G))) rfl (by rw [C.2.1]; exact hd) rfl hi hj hb1 hb2 hb3 rfl rfl (by omega) (by omega)
  have hcA : cA = G.2.1 (.array .int) := Option.some.inj (hfA.symm.trans (C.2.2.2.2.2.1.2 6 (G.2.1 (.array .int), .array .int) rfl).2)
  have hcC : comp = G.2.1 .int := Option.some.inj (hfC.symm.trans (C.2.2.2.2.2.1.2 0 (G.2.1 .int, .int) rfl).2)
  subst hcA
  subst hcC
  have hR1 := hR.row (by omega) (S := T.setVm vm1) (N := i.toNatClampNeg) (ty := .int) (M := j.toNatClampNeg) (dv := defaultValue .int) (e := (j.toNatClampNeg, .inl (fun _ => 0))) hT (fun c => by
    show vp_cell c (j.toNatClampNeg, .inl (fun _ => 0)) = _
    rw [vp_cell_i, ← arrV_new]; rfl)
  have hS1 : va_S (mm_A G) s.heap (Jvm.Free.Multi.fill (T.setVm vm1) (G.2.1 (.array .int)) (G.2.1 .int) i.toNatClampNeg j.toNatClampNeg (defaultValue .int) i.toNatClampNeg).heap locs := by
    have hz := (Jvm.Free.Multi.fill_facts (T.setVm vm1) (G.2.1 (.array .int)) (G.2.1 .int) i.toNatClampNeg j.toNatClampNeg (defaultValue .int) i.toNatClampNeg).1
    have hh : (T.setVm vm1).heap = H := hT
    rw [hh] at hz
    refine ⟨by rw [hz]; have := hS.1; omega, fun q q1 q2 => ?_, hS.2.2⟩
    have := Jvm.Free.Multi.fill_old (T.setVm vm1) (G.2.1 (.array .int)) (G.2.1 .int) i.toNatClampNeg j.toNatClampNeg (defaultValue .int) (a := q) (by rw [hh]; exact Nat.lt_of_lt_of_le q1 hS.1) i.toNatClampNeg
    rw [this, hh]
    exact hS.2.1 q q1 q2
  have k1 := kk ls _ locs (cells + 1 + i.toNatClampNeg) (slots + i.toNatClampNeg + i.toNatClampNeg * j.toNatClampNeg) hL hR1 hS1 (by omega) (by omega)
  obtain ⟨t, b1, b2⟩ := k1 _ rfl X1
  refine ⟨t, st1 t ?_, b2⟩
  rw [hT, show H.size = mm_a G n from (hR.next (by omega)).symm]
  exact b1
def newMJ (h : mm_H) (n N M : Nat) : Option mm_H := if n + (1 + N) ≤ 1000000 then some (mm_row h n N .long (M, .inr (.inl (fun _ => 0)))) else none
theorem rr_newMJq (C : mm_C w G cc own nL mc ms ret d nm) {index N M : Nat} {i j : Int32} {h1 : mm_H} (hd : decode cc pc = .ok (.multianewarray index 2, 4)) (hw : Cond.classLink own index "[[J" ∈ mm_tbl) (hi : ¬ i < 0) (hj : ¬ j < 0) (hN : i.toNatClampNeg = N) (hM : j.toNatClampNeg = M) (hb1 : N * 4 ≤ 536870912) (hb2 : M * componentBytes .long ≤ 536870912) (hb3 : M ≤ 536870912) (e : newMJ h n N M = some h1)
    (kk : WW w G nL mc ms Q (pc + 4) L (.ref n :: st) h1 (n + (1 + N)) kc ks) : WW w G nL mc ms Q pc L (.int j :: .int i :: st) h n (kc + (1 + N)) (ks + (N + N * M)) := by
  unfold newMJ at e
  split at e
  case isFalse => cases e
  rename_i hHI
  obtain rfl := Option.some.inj e
  obtain ⟨p, l, e, R, s, m, args, below, meth, c⟩ := w
  intro ls H locs cells slots hL hR hS hc hs T hT X
  subst hN
  subst hM
  have hmc := C.2.2.2.2.2.2.2.2.2.1
  have hms := C.2.2.2.2.2.2.2.2.2.2.1
  have hover : (Cond.arrayOver (.array .long)).before args s = true := C.2.2.2.2.2.2.1.2.2.2.2.2.2.2.2.2.2.2.1.1
  obtain ⟨vm1, cA, comp, hW, hfA, hfC, -, -, X1, st1⟩ := X.multianewarray2F (ty := .long) C.1 C.2.2.2.1 (C.2.2.2.2.1 _ hw) hover (C.2.2.2.2.1 _ ac_long) (g := F0 m pc ls ((Value.int j :: .int i :: st).map (mm_v G))) rfl (by rw [C.2.1]; exact hd) rfl hi hj hb1 hb2 hb3 rfl rfl (by omega) (by omega)
  have hcA : cA = G.2.1 (.array .long) := Option.some.inj (hfA.symm.trans (C.2.2.2.2.2.1.2 7 (G.2.1 (.array .long), .array .long) rfl).2)
  have hcC : comp = G.2.1 .long := Option.some.inj (hfC.symm.trans (C.2.2.2.2.2.1.2 1 (G.2.1 .long, .long) rfl).2)
  subst hcA
  subst hcC
  have hR1 := hR.row (by omega) (S := T.setVm vm1) (N := i.toNatClampNeg) (ty := .long) (M := j.toNatClampNeg) (dv := defaultValue .long) (e := (j.toNatClampNeg, .inr (.inl (fun _ => 0)))) hT (fun c => by
    show vp_cell c (j.toNatClampNeg, .inr (.inl (fun _ => 0))) = _
    rw [vp_cell_l, ← arrV_new]; rfl)
  have hS1 : va_S (mm_A G) s.heap (Jvm.Free.Multi.fill (T.setVm vm1) (G.2.1 (.array .long)) (G.2.1 .long) i.toNatClampNeg j.toNatClampNeg (defaultValue .long) i.toNatClampNeg).heap locs := by
    have hz := (Jvm.Free.Multi.fill_facts (T.setVm vm1) (G.2.1 (.array .long)) (G.2.1 .long) i.toNatClampNeg j.toNatClampNeg (defaultValue .long) i.toNatClampNeg).1
    have hh : (T.setVm vm1).heap = H := hT
    rw [hh] at hz
    refine ⟨by rw [hz]; have := hS.1; omega, fun q q1 q2 => ?_, hS.2.2⟩
    have := Jvm.Free.Multi.fill_old (T.setVm vm1) (G.2.1 (.array .long)) (G.2.1 .long) i.toNatClampNeg j.toNatClampNeg (defaultValue .long) (a := q) (by rw [hh]; exact Nat.lt_of_lt_of_le q1 hS.1) i.toNatClampNeg
    rw [this, hh]
    exact hS.2.1 q q1 q2
  have k1 := kk ls _ locs (cells + 1 + i.toNatClampNeg) (slots + i.toNatClampNeg + i.toNatClampNeg * j.toNatClampNeg) hL hR1 hS1 (by omega) (by omega)
  obtain ⟨t, b1, b2⟩ := k1 _ rfl X1
  refine ⟨t, st1 t ?_, b2⟩
  rw [hT, show H.size = mm_a G n from (hR.next (by omega)).symm]
  exact b1
end MMM

/-! ===== clone and arraycopy of an int array ===== -/
section MMCL
variable {w : mm_X} {G : mm_G} {cc : ByteArray} {own nm : String} {nL mc ms d pc n kc ks : Nat} {ret : Option FieldType} {Q : State → Prop} {L : List (Option Value)} {st : List Value} {h : mm_H}
theorem rr_clone (C : mm_C w G cc own nL mc ms ret d nm) {index a N : Nat} {f : Nat → Int32} (hd : decode cc pc = .ok (.invokevirtual index, 3)) (hw : Cond.methodLink own index ⟨"[I", "clone", "()Ljava/lang/Object;"⟩ ∈ mm_tbl) (hHI : n < 1000000) (ha : 48 ≤ a ∧ a < n) (he : h a = .inl (.int, N, .inl f)) (hdd : 1 ≤ d) (hst : (st.map fun v => v.category).sum ≤ 8)
    (kk : WW w G nL mc ms Q (pc + 3) L (.ref n :: st) (mm_up h n (.inl (.int, N, .inl f))) (n + 1) kc ks) : WW w G nL mc ms Q pc L (.ref a :: st) h n (kc + 1) (ks + N) := by
  obtain ⟨p, l, e, R, s, m, args, below, meth, c⟩ := w
  intro ls H locs cells slots hL hR hS hc hs T hT X
  have hmc := C.2.2.2.2.2.2.2.2.2.1
  have hms := C.2.2.2.2.2.2.2.2.2.2.1
  have hfr := C.2.2.2.2.2.2.2.2.2.2.2.1
  have hlo := C.2.2.2.2.2.2.2.2.2.2.2.2.1
  have hcast := C.2.2.2.2.2.2.1.2.2.2.2.2.2.2.2.2.2.2.1.2
  have h1 := hR.2.2.1 a ha.1 ha.2
  rw [he] at h1
  have hcell : T.heap[mm_a G a]? = some (arrV (G.2.1 .int) N (fun j => .int (f j))) := by rw [hT]; exact mm_one h1 0 _ rfl
  obtain ⟨-, kS, hkS, compS, hkindS⟩ := (C.2.2.2.2.2.1.2 0 (G.2.1 .int, .int) rfl).1 N (fun j => .int (f j))
  have hnm : s.vm.findClass "[I" = some (G.2.1 .int) := (C.2.2.2.2.2.1.2 0 (G.2.1 .int, .int) rfl).2
  obtain ⟨c0, t0, f1, f2, f3⟩ := Cond.castable_spec (va_Nw.use (A := args) rfl hcast)
  cases hnm.symm.trans f1
  obtain ⟨-, kA, hkA, comp, hkind⟩ := State.isArrayOf_alike X.warmed.alike ((C.2.2.2.2.2.1.2 0 (G.2.1 .int, .int) rfl).1 0 (fun _ => .null))
  have hst' : ((st.map (mm_v G)).map fun v => v.category).sum ≤ 8 := by rw [mm_cats]; exact hst
  obtain ⟨vm', X', st1⟩ := X.cloneArray C.1 C.2.2.2.1 (C.2.2.2.2.1 _ hw) (C.2.2.2.2.1 _ kl_same) (C.2.2.2.2.1 _ kl_nat) (C.2.2.2.2.1 _ kl_inst) (C.2.2.2.2.1 _ kl_sel) (a := mm_a G a) (cell := arrV (G.2.1 .int) N (fun j => .int (f j))) hcell (fun _ q => by cases q) (fun q => by cases q) hnm f2 f3
    (fun i v hv => by
      have hi : i < N := by have := (Array.getElem?_eq_some_iff.mp hv).1; rw [arrV_size] at this; exact this
      rw [arrV_read _ _ hi] at hv
      cases hv
      have hk' : T.vm.classes[G.2.1 .int]? = some kA := hkA
      simp [State.fitsSlot, State.slotType?, arrV, hk', hkind, fits])
    (g := F0 m pc ls ((Value.ref a :: st).map (mm_v G))) rfl (by rw [C.2.2.1]; exact hL.1) rfl (by rw [C.2.1]; exact hd) (by omega) (by show 2 * 0 + _ + 14 ≤ _; omega) (by omega) (by rw [arrV_size]; omega) (hloader := Vm.clonesLoader_of_array hkS hkindS)
  generalize hH1 : H.push (arrV (G.2.1 .int) N (fun j => .int (f j))) = H1
  have z1 : H1.size = H.size + 1 := by rw [← hH1, Array.size_push]
  have e1 : H1[H.size]? = some (arrV (G.2.1 .int) N (fun j => .int (f j))) := by rw [← hH1, Array.getElem?_push_size]
  have o1 : ∀ q : Nat, q < H.size → H1[q]? = H[q]? := fun q hq => by rw [← hH1, Array.getElem?_push, if_neg (Nat.ne_of_lt hq)]
  have k1 := kk ls H1 locs (cells + 1) (slots + N) hL (hR.new hHI (e := .inl (.int, N, .inl f)) e1 z1 o1) (mm_Snew hS z1 o1) (by omega) (by omega)
  rw [arrV_size] at X'
  obtain ⟨t, b1, b2⟩ := k1 _ (by rw [← hH1, ← hT]; rfl) X'
  refine ⟨t, st1 t ?_, b2⟩
  rw [hT, show H.size = mm_a G n from (hR.next hHI).symm]
  exact b1
theorem rr_cast (C : mm_C w G cc own nL mc ms ret d nm) {index a N : Nat} {f : Nat → Int32} (hd : decode cc pc = .ok (.checkcast index, 3)) (hw : Cond.classLink own index "[I" ∈ mm_tbl) (ha : 48 ≤ a ∧ a < n) (he : h a = .inl (.int, N, .inl f))
    (kk : WW w G nL mc ms Q (pc + 3) L (.ref a :: st) h n kc ks) : WW w G nL mc ms Q pc L (.ref a :: st) h n kc ks := by
  obtain ⟨p, l, e, R, s, m, args, below, meth, c⟩ := w
  intro ls H locs cells slots hL hR hS hc hs
  have h1 := hR.2.2.1 a ha.1 ha.2
  rw [he] at h1
  exact va_castA C.1 C.2.1 C.2.2.2.1 (C.2.2.2.2.1 _ hw) (mm_one h1) 0 rfl (C.2.2.2.2.2.1.2 0 (G.2.1 .int, .int) rfl).2 hd (kk ls H locs cells slots hL hR hS hc hs)
theorem rr_acopy (C : mm_C w G cc own nL mc ms ret d nm) {index a b N M : Nat} {f g : Nat → Int32} {z : Int32} (hd : decode cc pc = .ok (.invokestatic index, 3)) (hw : Cond.methodLink own index arraycopyName ∈ mm_tbl) (ha : 48 ≤ a ∧ a < n) (he : h a = .inl (.int, N, .inl f)) (hb : 48 ≤ b ∧ b < n) (he2 : h b = .inl (.int, M, .inl g)) (hz : ¬ z < 0) (h4 : z.toNatClampNeg ≤ N) (h5 : z.toNatClampNeg ≤ M) (hdd : 1 ≤ d) (hst : (st.map fun v => v.category).sum ≤ 8)
    (kk : WW w G nL mc ms Q (pc + 3) L st (mm_up h b (.inl (.int, M, .inl (va_cpy f g 0 0 z.toNatClampNeg)))) n kc ks) : WW w G nL mc ms Q pc L (.int z :: .int 0 :: .ref b :: .int 0 :: .ref a :: st) h n kc ks := by
  obtain ⟨p, l, e, R, s, m, args, below, meth, c⟩ := w
  intro ls H locs cells slots hL hR hS hc hs T hT X
  have hfr := C.2.2.2.2.2.2.2.2.2.2.2.1
  have hlo := C.2.2.2.2.2.2.2.2.2.2.2.2.1
  have h1 := hR.2.2.1 a ha.1 ha.2
  have h2 := hR.2.2.1 b hb.1 hb.2
  rw [he] at h1
  rw [he2] at h2
  have hc0 : H[mm_a G a]? = some (arrV (G.2.1 .int) N (fun j => .int (f j))) := mm_one h1 0 _ rfl
  have hc1 : H[mm_a G b]? = some (arrV (G.2.1 .int) M (fun j => .int (g j))) := mm_one h2 0 _ rfl
  obtain ⟨-, k0, hk0, cm0, hkk0⟩ := (C.2.2.2.2.2.1.2 0 (G.2.1 .int, .int) rfl).1 N (fun j => .int (f j))
  have hst' : ((st.map (mm_v G)).map fun v => v.category).sum ≤ 8 := by rw [mm_cats]; exact hst
  have hzi : z.toInt = (z.toNatClampNeg : Int) := by
    have hz0 : (0 : Int) ≤ z.toInt := by
      have := Int32.not_lt.mp hz
      simpa using Int32.le_iff_toInt_le.mp this
    show z.toInt = ((z.toInt.toNat : Nat) : Int)
    omega
  have hfw : nativeFrameWords "java/lang/System" "arraycopy" 5 ≤ 40 := by decide +kernel
  have hroom : 2 * 0 + ((st.map (mm_v G)).map fun v => v.category).sum + (nativeFrameWords "java/lang/System" "arraycopy" 5 + 11) ≤ R.locals := by omega
  obtain ⟨vm', X', step⟩ := X.arraycopy C.1 C.2.2.2.1 (C.2.2.2.2.1 _ hw) (C.2.2.2.2.1 _ kl_cnat) (C.2.2.2.2.1 _ kl_cstat) (C.2.2.2.2.1 _ kl_cini) (src := mm_a G a) (dst := mm_a G b) (srcPos := 0) (destPos := 0) (n := z) (cs := arrV (G.2.1 .int) N (fun j => .int (f j))) (cd := arrV (G.2.1 .int) M (fun j => .int (g j))) (by rw [hT]; exact hc0) (by rw [hT]; exact hc1)
    (fun _ q => by cases q) (fun _ q => by cases q) (fun q => by cases q) (fun q => by cases q) hk0 hk0 hkk0 hkk0 rfl (by decide) (by decide) hz
    (by rw [hzi, arrV_size]; show ¬ (0 : Int) + _ > _; omega) (by rw [hzi, arrV_size]; show ¬ (0 : Int) + _ > _; omega)
    (fun vm₁ _ i hi => by
      have e0 : (arrV (G.2.1 .int) N (fun j => .int (f j))).slots.getD ((0 : Int32).toNatClampNeg + i) .null = .int (f ((0 : Int32).toNatClampNeg + i)) := by
        rw [Array.getD_eq_getD_getElem?, arrV_read _ _ (by show 0 + i < N; omega)]
        rfl
      rw [e0]
      exact ⟨rfl, trivial⟩)
    (g := F0 m pc ls ((Value.int z :: .int 0 :: .ref b :: .int 0 :: .ref a :: st).map (mm_v G))) rfl (by rw [C.2.2.1]; exact hL.1) (rest := st.map (mm_v G)) rfl (by rw [C.2.1]; exact hd) (by omega) hroom
  have e1 : copied (arrV (G.2.1 .int) N (fun j => .int (f j))) (arrV (G.2.1 .int) M (fun j => .int (g j))) 0 0 z = arrV (G.2.1 .int) M (fun j => .int (va_cpy f g 0 0 z.toNatClampNeg j)) := va_copied (fun q => .int q) _ _ f g (sp := 0) (dp := 0) (by omega)
  rw [e1] at X' step
  have hl : mm_a G b < H.size := (Array.getElem?_eq_some_iff.mp hc1).1
  have oq : ∀ q : Nat, q ≠ mm_a G b → (H.setIfInBounds (mm_a G b) (arrV (G.2.1 .int) M (fun j => .int (va_cpy f g 0 0 z.toNatClampNeg j))))[q]? = H[q]? := fun q hq => by simp [Array.getElem?_setIfInBounds, Ne.symm hq]
  have k1 := kk ls (H.setIfInBounds (mm_a G b) (arrV (G.2.1 .int) M (fun j => .int (va_cpy f g 0 0 z.toNatClampNeg j)))) (locs ++ ((arrV (G.2.1 .int) N (fun j => .int (f j))).stretch (0 : Int32).toNatClampNeg z.toNatClampNeg).zipIdx.map fun q => ⟨mm_a G b, (0 : Int32).toNatClampNeg + q.2⟩) cells slots hL
    (hR.upd hb (show (H.setIfInBounds (mm_a G b) _)[mm_a G b]? = some _ by simp [Array.getElem?_setIfInBounds, hl]; rfl) (by simp) oq)
    ⟨by simp; exact hS.1, fun q g1 g2 => by
      rw [oq q (fun e => g2 (by rw [e]; exact mm_inA hR hb))]
      exact hS.2.1 q g1 g2, fun q hq => by
      rcases List.mem_append.mp hq with h | h
      · exact hS.2.2 q h
      · obtain ⟨y, -, hy⟩ := List.mem_map.mp h
        rw [← hy]
        exact mm_inA hR hb⟩ hc hs
  obtain ⟨t, a1, b1⟩ := k1 _ (by rw [← hT]; rfl) X'
  exact ⟨t, step t a1, b1⟩
def clA (h : mm_H) (n a B : Nat) : Option mm_H := match h a with
  | .inl (.int, N, .inl f) => if (48 ≤ a ∧ a < n) ∧ N ≤ B ∧ n < 1000000 then some (mm_up h n (.inl (.int, N, .inl f))) else none
  | _ => none
theorem clA_s {h h1 : mm_H} {n a B : Nat} (e : clA h n a B = some h1) : (48 ≤ a ∧ a < n) ∧ ∃ N f, h a = .inl (.int, N, .inl f) ∧ (N ≤ B ∧ n < 1000000) ∧ h1 = mm_up h n (.inl (.int, N, .inl f)) := by
  unfold clA at e
  split at e
  · rename_i N f ho
    split at e
    · rename_i h2
      exact ⟨h2.1, N, f, ho, h2.2, (Option.some.inj e).symm⟩
    · cases e
  · cases e
def ckA (h : mm_H) (n a : Nat) : Option Unit := match h a with
  | .inl (.int, _, .inl _) => if 48 ≤ a ∧ a < n then some () else none
  | _ => none
theorem ckA_s {h : mm_H} {n a : Nat} {u : Unit} (e : ckA h n a = some u) : (48 ≤ a ∧ a < n) ∧ ∃ N f, h a = .inl (.int, N, .inl f) := by
  unfold ckA at e
  split at e
  · rename_i N f ho
    split at e
    · rename_i h2
      exact ⟨h2, N, f, ho⟩
    · cases e
  · cases e
def cpA (h : mm_H) (n a b : Nat) (z : Int32) : Option mm_H := match h a, h b with
  | .inl (.int, N, .inl f), .inl (.int, M, .inl g) => if (48 ≤ a ∧ a < n) ∧ (48 ≤ b ∧ b < n) ∧ ¬ z < 0 ∧ z.toNatClampNeg ≤ N ∧ z.toNatClampNeg ≤ M then some (mm_up h b (.inl (.int, M, .inl (va_cpy f g 0 0 z.toNatClampNeg)))) else none
  | _, _ => none
theorem cpA_s {h h1 : mm_H} {n a b : Nat} {z : Int32} (e : cpA h n a b z = some h1) : ∃ N M f g, h a = .inl (.int, N, .inl f) ∧ h b = .inl (.int, M, .inl g) ∧ ((48 ≤ a ∧ a < n) ∧ (48 ≤ b ∧ b < n) ∧ ¬ z < 0 ∧ z.toNatClampNeg ≤ N ∧ z.toNatClampNeg ≤ M) ∧ h1 = mm_up h b (.inl (.int, M, .inl (va_cpy f g 0 0 z.toNatClampNeg))) := by
  unfold cpA at e
  split at e
  · rename_i N f M g ho hp
    split at e
    · rename_i h2
      exact ⟨N, M, f, g, ho, hp, h2, (Option.some.inj e).symm⟩
    · cases e
  · cases e
theorem rr_cloneq (C : mm_C w G cc own nL mc ms ret d nm) {index a B : Nat} {h1 : mm_H} (hd : decode cc pc = .ok (.invokevirtual index, 3)) (hw : Cond.methodLink own index ⟨"[I", "clone", "()Ljava/lang/Object;"⟩ ∈ mm_tbl) (hdd : 1 ≤ d) (hst : (st.map fun v => v.category).sum ≤ 8) (e : clA h n a B = some h1)
    (kk : WW w G nL mc ms Q (pc + 3) L (.ref n :: st) h1 (n + 1) kc ks) : WW w G nL mc ms Q pc L (.ref a :: st) h n (kc + 1) (ks + B) := by
  obtain ⟨ha, N, f, he, ⟨hN, hHI⟩, rfl⟩ := clA_s e
  exact rr_cut C (kc' := kc + 1) (ks' := ks + N) (Nat.le_refl _) (Nat.add_le_add_left hN _) (rr_clone C hd hw hHI ha he hdd hst kk)
theorem rr_castq (C : mm_C w G cc own nL mc ms ret d nm) {index a : Nat} {u : Unit} (hd : decode cc pc = .ok (.checkcast index, 3)) (hw : Cond.classLink own index "[I" ∈ mm_tbl) (e : ckA h n a = some u)
    (kk : WW w G nL mc ms Q (pc + 3) L (.ref a :: st) h n kc ks) : WW w G nL mc ms Q pc L (.ref a :: st) h n kc ks := by
  obtain ⟨ha, N, f, he⟩ := ckA_s e
  exact rr_cast C hd hw ha he kk
theorem rr_acopyq (C : mm_C w G cc own nL mc ms ret d nm) {index a b : Nat} {z : Int32} {h1 : mm_H} (hd : decode cc pc = .ok (.invokestatic index, 3)) (hw : Cond.methodLink own index arraycopyName ∈ mm_tbl) (hdd : 1 ≤ d) (hst : (st.map fun v => v.category).sum ≤ 8) (e : cpA h n a b z = some h1)
    (kk : WW w G nL mc ms Q (pc + 3) L st h1 n kc ks) : WW w G nL mc ms Q pc L (.int z :: .int 0 :: .ref b :: .int 0 :: .ref a :: st) h n kc ks := by
  obtain ⟨N, M, f, g, he, he2, ⟨ha, hb, hz, h4, h5⟩, rfl⟩ := cpA_s e
  exact rr_acopy C hd hw ha he hb he2 hz h4 h5 hdd hst kk
theorem rr_cloneB (C : mm_C w G cc own nL mc ms ret d nm) {index a N : Nat} {f : Nat → Int32} (hd : decode cc pc = .ok (.invokevirtual index, 3)) (hw : Cond.methodLink own index ⟨"[B", "clone", "()Ljava/lang/Object;"⟩ ∈ mm_tbl) (hHI : n < 1000000) (ha : 48 ≤ a ∧ a < n) (he : h a = .inl (.byte, N, .inl f)) (hfb : ∀ i, i < N → fits .byte (.int (f i)) = true) (hdd : 1 ≤ d) (hst : (st.map fun v => v.category).sum ≤ 8)
    (kk : WW w G nL mc ms Q (pc + 3) L (.ref n :: st) (mm_up h n (.inl (.byte, N, .inl f))) (n + 1) kc ks) : WW w G nL mc ms Q pc L (.ref a :: st) h n (kc + 1) (ks + N) := by
  obtain ⟨p, l, e, R, s, m, args, below, meth, c⟩ := w
  intro ls H locs cells slots hL hR hS hc hs T hT X
  have hmc := C.2.2.2.2.2.2.2.2.2.1
  have hms := C.2.2.2.2.2.2.2.2.2.2.1
  have hfr := C.2.2.2.2.2.2.2.2.2.2.2.1
  have hlo := C.2.2.2.2.2.2.2.2.2.2.2.2.1
  have hcast := C.2.2.2.2.2.2.1.1.2.2.2.2
  have h1 := hR.2.2.1 a ha.1 ha.2
  rw [he] at h1
  have hcell : T.heap[mm_a G a]? = some (arrV (G.2.1 .byte) N (fun j => .int (f j))) := by rw [hT]; exact mm_one h1 0 _ rfl
  obtain ⟨-, kS, hkS, compS, hkindS⟩ := (C.2.2.2.2.2.1.2 2 (G.2.1 .byte, .byte) rfl).1 N (fun j => .int (f j))
  have hnm : s.vm.findClass "[B" = some (G.2.1 .byte) := (C.2.2.2.2.2.1.2 2 (G.2.1 .byte, .byte) rfl).2
  obtain ⟨c0, t0, f1, f2, f3⟩ := Cond.castable_spec (va_Nw.use (A := args) rfl hcast)
  cases hnm.symm.trans f1
  obtain ⟨-, kA, hkA, comp, hkind⟩ := State.isArrayOf_alike X.warmed.alike ((C.2.2.2.2.2.1.2 2 (G.2.1 .byte, .byte) rfl).1 0 (fun _ => .null))
  have hst' : ((st.map (mm_v G)).map fun v => v.category).sum ≤ 8 := by rw [mm_cats]; exact hst
  obtain ⟨vm', X', st1⟩ := X.cloneArray C.1 C.2.2.2.1 (C.2.2.2.2.1 _ hw) (C.2.2.2.2.1 _ kb_same) (C.2.2.2.2.1 _ kl_nat) (C.2.2.2.2.1 _ kl_inst) (C.2.2.2.2.1 _ kb_sel) (a := mm_a G a) (cell := arrV (G.2.1 .byte) N (fun j => .int (f j))) hcell (fun _ q => by cases q) (fun q => by cases q) hnm f2 f3
    (fun i v hv => by
      have hi : i < N := by have := (Array.getElem?_eq_some_iff.mp hv).1; rw [arrV_size] at this; exact this
      rw [arrV_read _ _ hi] at hv
      cases hv
      have hk' : T.vm.classes[G.2.1 .byte]? = some kA := hkA
      have h9 := hfb i hi
      simp [State.fitsSlot, State.slotType?, arrV, hk', hkind, h9])
    (g := F0 m pc ls ((Value.ref a :: st).map (mm_v G))) rfl (by rw [C.2.2.1]; exact hL.1) rfl (by rw [C.2.1]; exact hd) (by omega) (by show 2 * 0 + _ + 14 ≤ _; omega) (by omega) (by rw [arrV_size]; omega) (hloader := Vm.clonesLoader_of_array hkS hkindS)
  generalize hH1 : H.push (arrV (G.2.1 .byte) N (fun j => .int (f j))) = H1
  have z1 : H1.size = H.size + 1 := by rw [← hH1, Array.size_push]
  have e1 : H1[H.size]? = some (arrV (G.2.1 .byte) N (fun j => .int (f j))) := by rw [← hH1, Array.getElem?_push_size]
  have o1 : ∀ q : Nat, q < H.size → H1[q]? = H[q]? := fun q hq => by rw [← hH1, Array.getElem?_push, if_neg (Nat.ne_of_lt hq)]
  have k1 := kk ls H1 locs (cells + 1) (slots + N) hL (hR.new hHI (e := .inl (.byte, N, .inl f)) e1 z1 o1) (mm_Snew hS z1 o1) (by omega) (by omega)
  rw [arrV_size] at X'
  obtain ⟨t, b1, b2⟩ := k1 _ (by rw [← hH1, ← hT]; rfl) X'
  refine ⟨t, st1 t ?_, b2⟩
  rw [hT, show H.size = mm_a G n from (hR.next hHI).symm]
  exact b1
theorem rr_castB (C : mm_C w G cc own nL mc ms ret d nm) {index a N : Nat} {f : Nat → Int32} (hd : decode cc pc = .ok (.checkcast index, 3)) (hw : Cond.classLink own index "[B" ∈ mm_tbl) (ha : 48 ≤ a ∧ a < n) (he : h a = .inl (.byte, N, .inl f))
    (kk : WW w G nL mc ms Q (pc + 3) L (.ref a :: st) h n kc ks) : WW w G nL mc ms Q pc L (.ref a :: st) h n kc ks := by
  obtain ⟨p, l, e, R, s, m, args, below, meth, c⟩ := w
  intro ls H locs cells slots hL hR hS hc hs
  have h1 := hR.2.2.1 a ha.1 ha.2
  rw [he] at h1
  exact va_castA C.1 C.2.1 C.2.2.2.1 (C.2.2.2.2.1 _ hw) (mm_one h1) 0 rfl (C.2.2.2.2.2.1.2 2 (G.2.1 .byte, .byte) rfl).2 hd (kk ls H locs cells slots hL hR hS hc hs)
def clB (h : mm_H) (n a B : Nat) : Option mm_H := match h a with
  | .inl (.byte, N, .inl f) => if (48 ≤ a ∧ a < n) ∧ N ≤ B ∧ n < 1000000 ∧ (∀ i, i < N → fits .byte (.int (f i)) = true) then some (mm_up h n (.inl (.byte, N, .inl f))) else none
  | _ => none
theorem clB_s {h h1 : mm_H} {n a B : Nat} (e : clB h n a B = some h1) : (48 ≤ a ∧ a < n) ∧ ∃ N f, h a = .inl (.byte, N, .inl f) ∧ (N ≤ B ∧ n < 1000000 ∧ (∀ i, i < N → fits .byte (.int (f i)) = true)) ∧ h1 = mm_up h n (.inl (.byte, N, .inl f)) := by
  unfold clB at e
  split at e
  · rename_i N f ho
    split at e
    · rename_i h2
      exact ⟨h2.1, N, f, ho, h2.2, (Option.some.inj e).symm⟩
    · cases e
  · cases e
def ckB (h : mm_H) (n a : Nat) : Option Unit := match h a with
  | .inl (.byte, _, .inl _) => if 48 ≤ a ∧ a < n then some () else none
  | _ => none
theorem ckB_s {h : mm_H} {n a : Nat} {u : Unit} (e : ckB h n a = some u) : (48 ≤ a ∧ a < n) ∧ ∃ N f, h a = .inl (.byte, N, .inl f) := by
  unfold ckB at e
  split at e
  · rename_i N f ho
    split at e
    · rename_i h2
      exact ⟨h2, N, f, ho⟩
    · cases e
  · cases e
theorem rr_clonebq (C : mm_C w G cc own nL mc ms ret d nm) {index a B : Nat} {h1 : mm_H} (hd : decode cc pc = .ok (.invokevirtual index, 3)) (hw : Cond.methodLink own index ⟨"[B", "clone", "()Ljava/lang/Object;"⟩ ∈ mm_tbl) (hdd : 1 ≤ d) (hst : (st.map fun v => v.category).sum ≤ 8) (e : clB h n a B = some h1)
    (kk : WW w G nL mc ms Q (pc + 3) L (.ref n :: st) h1 (n + 1) kc ks) : WW w G nL mc ms Q pc L (.ref a :: st) h n (kc + 1) (ks + B) := by
  obtain ⟨ha, N, f, he, ⟨hN, hHI, hfb⟩, rfl⟩ := clB_s e
  exact rr_cut C (kc' := kc + 1) (ks' := ks + N) (Nat.le_refl _) (Nat.add_le_add_left hN _) (rr_cloneB C hd hw hHI ha he hfb hdd hst kk)
theorem rr_castbq (C : mm_C w G cc own nL mc ms ret d nm) {index a : Nat} {u : Unit} (hd : decode cc pc = .ok (.checkcast index, 3)) (hw : Cond.classLink own index "[B" ∈ mm_tbl) (e : ckB h n a = some u)
    (kk : WW w G nL mc ms Q (pc + 3) L (.ref a :: st) h n kc ks) : WW w G nL mc ms Q pc L (.ref a :: st) h n kc ks := by
  obtain ⟨ha, N, f, he⟩ := ckB_s e
  exact rr_castB C hd hw ha he kk
theorem rr_acopyb (C : mm_C w G cc own nL mc ms ret d nm) {index a b N M : Nat} {f g : Nat → Int32} {sp dp z : Int32} (hd : decode cc pc = .ok (.invokestatic index, 3)) (hw : Cond.methodLink own index arraycopyName ∈ mm_tbl) (ha : 1000000 ≤ a ∨ (48 ≤ a ∧ a < n)) (he : h a = .inl (.byte, N, .inl f)) (hb : 48 ≤ b ∧ b < n) (he2 : h b = .inl (.byte, M, .inl g)) (hsp : ¬ sp < 0) (hdp : ¬ dp < 0) (hz : ¬ z < 0) (h4 : sp.toNatClampNeg + z.toNatClampNeg ≤ N) (h5 : dp.toNatClampNeg + z.toNatClampNeg ≤ M) (hfb : ∀ i, i < z.toNatClampNeg → fits .byte (.int (f (sp.toNatClampNeg + i))) = true) (hdd : 1 ≤ d) (hst : (st.map fun v => v.category).sum ≤ 8)
    (kk : WW w G nL mc ms Q (pc + 3) L st (mm_up h b (.inl (.byte, M, .inl (va_cpy f g sp.toNatClampNeg dp.toNatClampNeg z.toNatClampNeg)))) n kc ks) : WW w G nL mc ms Q pc L (.int z :: .int dp :: .ref b :: .int sp :: .ref a :: st) h n kc ks := by
  obtain ⟨p, l, e, R, s, m, args, below, meth, c⟩ := w
  intro ls H locs cells slots hL hR hS hc hs T hT X
  have hfr := C.2.2.2.2.2.2.2.2.2.2.2.1
  have hlo := C.2.2.2.2.2.2.2.2.2.2.2.2.1
  have h2 := hR.2.2.1 b hb.1 hb.2
  rw [he2] at h2
  have hsrc : ∃ cs : Cell, H[mm_a G a]? = some cs ∧ s.isArrayOf cs .byte ∧ cs.vm ≠ .unknown ∧ N ≤ cs.slots.size ∧ ∀ j : Nat, j < N → cs.slots[j]? = some (.int (f j)) := by
    rcases ha with ha | ha
    · have e1 := hR.2.2.2 a (Or.inr ha)
      obtain ⟨cs, q1, q2, q3, q4, -, q5, q6⟩ := C.2.2.2.2.2.2.1.2.1 a N .byte f (Or.inr ha) (Or.inr rfl) (by rw [← e1]; exact he)
      refine ⟨cs, ?_, q2, q3, q4, q5⟩
      rw [mm_out (G := G) (Or.inr ha), hS.2.1 _ (Array.getElem?_eq_some_iff.mp q1).1 q6]
      exact q1
    · have h1 := hR.2.2.1 a ha.1 ha.2
      rw [he] at h1
      have hc0 : H[mm_a G a]? = some (arrV (G.2.1 .byte) N (fun j => .int (f j))) := mm_one h1 0 _ rfl
      exact ⟨_, hc0, (C.2.2.2.2.2.1.2 2 (G.2.1 .byte, .byte) rfl).1 N (fun j => .int (f j)), (fun q => by cases q), by rw [arrV_size]; exact Nat.le_refl _, fun j hj => arrV_read _ _ hj⟩
  obtain ⟨cs, hc0, hs2, hs3, hs4, hs5⟩ := hsrc
  obtain ⟨hs6, k0, hk0, cm0, hkk0⟩ := hs2
  have hc1 : H[mm_a G b]? = some (arrV (G.2.1 .byte) M (fun j => .int (g j))) := mm_one h2 0 _ rfl
  obtain ⟨-, k1, hk1, cm1, hkk1⟩ := (C.2.2.2.2.2.1.2 2 (G.2.1 .byte, .byte) rfl).1 M (fun j => .int (g j))
  have hst' : ((st.map (mm_v G)).map fun v => v.category).sum ≤ 8 := by rw [mm_cats]; exact hst
  have nn : ∀ z : Int32, ¬ z < 0 → z.toInt = (z.toNatClampNeg : Int) := by
    intro z hz
    have hz0 : (0 : Int) ≤ z.toInt := by
      have := Int32.not_lt.mp hz
      simpa using Int32.le_iff_toInt_le.mp this
    show z.toInt = ((z.toInt.toNat : Nat) : Int)
    omega
  have hfw : nativeFrameWords "java/lang/System" "arraycopy" 5 ≤ 40 := by decide +kernel
  have hroom : 2 * 0 + ((st.map (mm_v G)).map fun v => v.category).sum + (nativeFrameWords "java/lang/System" "arraycopy" 5 + 11) ≤ R.locals := by omega
  obtain ⟨vm', X', step⟩ := X.arraycopy C.1 C.2.2.2.1 (C.2.2.2.2.1 _ hw) (C.2.2.2.2.1 _ kl_cnat) (C.2.2.2.2.1 _ kl_cstat) (C.2.2.2.2.1 _ kl_cini) (src := mm_a G a) (dst := mm_a G b) (srcPos := sp) (destPos := dp) (n := z) (cs := cs) (cd := arrV (G.2.1 .byte) M (fun j => .int (g j))) (by rw [hT]; exact hc0) (by rw [hT]; exact hc1)
    hs6 (fun _ q => by cases q) hs3 (fun q => by cases q) hk0 hk1 hkk0 hkk1 rfl hsp hdp hz
    (by rw [nn sp hsp, nn z hz]; omega) (by rw [nn dp hdp, nn z hz, arrV_size]; omega)
    (fun vm₁ _ i hi => by
      have e0 : cs.slots.getD (sp.toNatClampNeg + i) .null = .int (f (sp.toNatClampNeg + i)) := by
        rw [Array.getD_eq_getD_getElem?, hs5 _ (by omega)]
        rfl
      rw [e0]
      exact ⟨hfb i hi, trivial⟩)
    (g := F0 m pc ls ((Value.int z :: .int dp :: .ref b :: .int sp :: .ref a :: st).map (mm_v G))) rfl (by rw [C.2.2.1]; exact hL.1) (rest := st.map (mm_v G)) rfl (by rw [C.2.1]; exact hd) (by omega) hroom
  have e1 : copied cs (arrV (G.2.1 .byte) M (fun j => .int (g j))) sp dp z = arrV (G.2.1 .byte) M (fun j => .int (va_cpy f g sp.toNatClampNeg dp.toNatClampNeg z.toNatClampNeg j)) := va_copiedX (fun q => .int q) cs _ f g hs5 h4
  rw [e1] at X' step
  have hl : mm_a G b < H.size := (Array.getElem?_eq_some_iff.mp hc1).1
  generalize hFF : (fun j => Value.int (va_cpy f g sp.toNatClampNeg dp.toNatClampNeg z.toNatClampNeg j)) = FF at X' step
  have oq : ∀ q : Nat, q ≠ mm_a G b → (H.setIfInBounds (mm_a G b) (arrV (G.2.1 .byte) M FF))[q]? = H[q]? := fun q hq => by simp [Array.getElem?_setIfInBounds, Ne.symm hq]
  have k1 := kk ls (H.setIfInBounds (mm_a G b) (arrV (G.2.1 .byte) M FF)) (locs ++ (cs.stretch sp.toNatClampNeg z.toNatClampNeg).zipIdx.map fun q => ⟨mm_a G b, dp.toNatClampNeg + q.2⟩) cells slots hL
    (hR.upd hb (show (H.setIfInBounds (mm_a G b) _)[mm_a G b]? = some _ by simp [Array.getElem?_setIfInBounds, hl]; rw [← hFF]; rfl) (by simp) oq)
    ⟨by simp; exact hS.1, fun q g1 g2 => by
      rw [oq q (fun e => g2 (by rw [e]; exact mm_inA hR hb))]
      exact hS.2.1 q g1 g2, fun q hq => by
      rcases List.mem_append.mp hq with h | h
      · exact hS.2.2 q h
      · obtain ⟨y, -, hy⟩ := List.mem_map.mp h
        rw [← hy]
        exact mm_inA hR hb⟩ hc hs
  obtain ⟨t, a1, b1⟩ := k1 _ (by rw [← hT]; rfl) X'
  exact ⟨t, step t a1, b1⟩
def cpB (h : mm_H) (n a : Nat) (sp : Int32) (b : Nat) (dp z : Int32) : Option mm_H := match h a, h b with
  | .inl (.byte, N, .inl f), .inl (.byte, M, .inl g) => if (1000000 ≤ a ∨ (48 ≤ a ∧ a < n)) ∧ (48 ≤ b ∧ b < n) ∧ ¬ sp < 0 ∧ ¬ dp < 0 ∧ ¬ z < 0 ∧ sp.toNatClampNeg + z.toNatClampNeg ≤ N ∧ dp.toNatClampNeg + z.toNatClampNeg ≤ M ∧ (∀ i, i < z.toNatClampNeg → fits .byte (.int (f (sp.toNatClampNeg + i))) = true) then some (mm_up h b (.inl (.byte, M, .inl (va_cpy f g sp.toNatClampNeg dp.toNatClampNeg z.toNatClampNeg)))) else none
  | _, _ => none
theorem cpB_s {h h1 : mm_H} {n a b : Nat} {sp dp z : Int32} (e : cpB h n a sp b dp z = some h1) : ∃ N M f g, h a = .inl (.byte, N, .inl f) ∧ h b = .inl (.byte, M, .inl g) ∧ ((1000000 ≤ a ∨ (48 ≤ a ∧ a < n)) ∧ (48 ≤ b ∧ b < n) ∧ ¬ sp < 0 ∧ ¬ dp < 0 ∧ ¬ z < 0 ∧ sp.toNatClampNeg + z.toNatClampNeg ≤ N ∧ dp.toNatClampNeg + z.toNatClampNeg ≤ M ∧ (∀ i, i < z.toNatClampNeg → fits .byte (.int (f (sp.toNatClampNeg + i))) = true)) ∧ h1 = mm_up h b (.inl (.byte, M, .inl (va_cpy f g sp.toNatClampNeg dp.toNatClampNeg z.toNatClampNeg))) := by
  unfold cpB at e
  split at e
  · rename_i N f M g ho hp
    split at e
    · rename_i h2
      exact ⟨N, M, f, g, ho, hp, h2, (Option.some.inj e).symm⟩
    · cases e
  · cases e
theorem rr_acopybq (C : mm_C w G cc own nL mc ms ret d nm) {index a b : Nat} {sp dp z : Int32} {h1 : mm_H} (hd : decode cc pc = .ok (.invokestatic index, 3)) (hw : Cond.methodLink own index arraycopyName ∈ mm_tbl) (hdd : 1 ≤ d) (hst : (st.map fun v => v.category).sum ≤ 8) (e : cpB h n a sp b dp z = some h1)
    (kk : WW w G nL mc ms Q (pc + 3) L st h1 n kc ks) : WW w G nL mc ms Q pc L (.int z :: .int dp :: .ref b :: .int sp :: .ref a :: st) h n kc ks := by
  obtain ⟨N, M, f, g, he, he2, ⟨ha, hb, hsp, hdp, hz, h4, h5, hfb⟩, rfl⟩ := cpB_s e
  exact rr_acopyb C hd hw ha he hb he2 hsp hdp hz h4 h5 hfb hdd hst kk
end MMCL

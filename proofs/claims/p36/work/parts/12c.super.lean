/-! ===== calls on a StringBuilder: of its superclass' methods, of super, of an overridden one ===== -/
section MMSU
variable {w : mm_X} {G : mm_G} {cc : ByteArray} {own nm : String} {nL mc ms d pc n kc ks : Nat} {ret : Option FieldType} {Q : State → Prop} {L : List (Option Value)} {st : List Value} {h : mm_H}
theorem rr_callVU (C : mm_C w G cc own nL mc ms ret d nm) {y : MethodName} {cc' : ByteArray} {nL' d' mc' ms' index a : Nat} {ret' : Option FieldType} {as : List Value} {po : Option Value → mm_H → Nat → Prop} {u : Unit} (hd : decode cc pc = .ok (.invokevirtual index, 3)) (hw : IVU own index RJ4 y cc' nL' ret' as.length) (hdd : d' + 1 ≤ d) (ek : ckq h n a 11 = some u) (hst : (st.map fun v => v.category).sum ≤ 8)
    (hM : Sp G w.2.1 y cc' nL' ret' d' mc' ms' (.ref a :: as) h n po) (kk : ∀ (v : Option Value) (h' : mm_H) (n' : Nat), po v h' n' → WW w G nL mc ms Q (pc + 3) L (v.toList ++ st) h' n' kc ks) : WW w G nL mc ms Q pc L (as.reverse ++ .ref a :: st) h n (kc + mc') (ks + ms') := by
  obtain ⟨ha, fs, he⟩ := ckq_s ek
  obtain ⟨p, l, e, R, s, m, args, below, meth, c⟩ := w
  intro ls H locs cells slots hL hR hS hc hs
  obtain ⟨w1, w2, w3, w4, w5, w6, w7⟩ := hw
  have hmc := C.2.2.2.2.2.2.2.2.2.1
  have hms := C.2.2.2.2.2.2.2.2.2.2.1
  have hfr := C.2.2.2.2.2.2.2.2.2.2.2.1
  have hlo := C.2.2.2.2.2.2.2.2.2.2.2.2.1
  have h1 := hR.2.2.1 a ha.1 ha.2
  rw [he] at h1
  have hrec : ∃ cell : Cell, H[mm_a G a]? = some cell ∧ cell.vm.isStatics = false ∧ s.vm.findClass RJ4 = some cell.cls := va_recv (q := (RJ4, TJ4, 4)) C.2.2.2.2.2.1 (mm_one h1) rfl (q0 := 0) rfl
  have cw : CallW R s args own RJ4 index y cc' nL' ret' (.code y cc' nL' ret' :: mm_tbl) { frames := d', cells := mc', slots := ms', locals := 64 * d' } mc' ms' as.length :=
    ⟨callB_of as.length C.2.2.2.2.1 (mm_good w5) rfl rfl rfl (C.2.2.2.2.1 _ w4) (C.2.2.2.2.1 _ w1) w6 ⟨by show d' + 1 ≤ R.frames; omega, by show 8 + (nL' + 11) + 64 * d' ≤ R.locals; omega⟩, C.2.2.2.2.1 _ w2, C.2.2.2.2.1 _ w3⟩
  refine mm_back (rest := st) (va_runV (As := as.map (mm_v G)) (rest := st.map (mm_v G)) (b := mm_a G a) ⟨C.1, C.2.1, C.2.2.1, C.2.2.2.1, C.2.2.2.2.1⟩ hM cw ⟨mm_B.blind, hrec, fun U hU hW => ⟨rfl, by rw [hU]; exact hR, va_K.moved hW.alike C.2.2.2.2.2.1, mm_warm C.2.2.2.2.2.2.1 hS hU hW⟩⟩ rfl (by rw [List.length_map]) hL.1 ?_ (lv_room (by rw [mm_cats]; exact hst)) hd ⟨by omega, by omega⟩) hL hS hc hs kk
  show (as.reverse ++ .ref a :: st).map (mm_v G) = _
  rw [List.map_append, List.map_reverse]
  rfl
theorem rr_callSU (C : mm_C w G cc own nL mc ms ret d nm) {y : MethodName} {cc' : ByteArray} {nL' d' mc' ms' index a : Nat} {ret' : Option FieldType} {as : List Value} {po : Option Value → mm_H → Nat → Prop} {u : Unit} (hd : decode cc pc = .ok (.invokespecial index, 3)) (hw : ISU own index y cc' nL' ret' as.length) (hdd : d' + 1 ≤ d) (ek : ckq h n a 11 = some u) (hst : (st.map fun v => v.category).sum ≤ 8)
    (hM : Sp G w.2.1 y cc' nL' ret' d' mc' ms' (.ref a :: as) h n po) (kk : ∀ (v : Option Value) (h' : mm_H) (n' : Nat), po v h' n' → WW w G nL mc ms Q (pc + 3) L (v.toList ++ st) h' n' kc ks) : WW w G nL mc ms Q pc L (as.reverse ++ .ref a :: st) h n (kc + mc') (ks + ms') := by
  obtain ⟨ha, fs, he⟩ := ckq_s ek
  obtain ⟨p, l, e, R, s, m, args, below, meth, c⟩ := w
  intro ls H locs cells slots hL hR hS hc hs
  obtain ⟨w1, w2, w3, w4, w5, w6, w7, w8⟩ := hw
  have hmc := C.2.2.2.2.2.2.2.2.2.1
  have hms := C.2.2.2.2.2.2.2.2.2.2.1
  have hfr := C.2.2.2.2.2.2.2.2.2.2.2.1
  have hlo := C.2.2.2.2.2.2.2.2.2.2.2.2.1
  have h1 := hR.2.2.1 a ha.1 ha.2
  rw [he] at h1
  have hat : ClassAt s RJ4 (G.1.1 11) := (C.2.2.2.2.2.1.1 11 (RJ4, TJ4, 4) rfl).2
  have hrec : ∃ cell : Cell, H[mm_a G a]? = some cell ∧ cell.vm.isStatics = false ∧ s.vm.findClass RJ4 = some cell.cls := va_recv (q := (RJ4, TJ4, 4)) C.2.2.2.2.2.1 (mm_one h1) rfl (q0 := 0) rfl
  have cw : va_CS R s args own index y cc' nL' ret' (.code y cc' nL' ret' :: mm_tbl) { frames := d', cells := mc', slots := ms', locals := 64 * d' } mc' ms' as.length :=
    va_cwSU as.length C.2.2.2.2.1 (mm_goods (fun q hq => by
      unfold va_wsSU at hq
      rcases List.mem_append.mp hq with hq | hq
      · simp only [List.mem_cons, List.not_mem_nil, or_false] at hq
        rcases hq with rfl | rfl | rfl | rfl | rfl
        · exact w1
        · exact w2
        · exact w3
        · exact w4
        · exact w5
      · rcases List.mem_cons.mp hq with rfl | hq
        · exact w6
        · exact hq)) rfl rfl rfl w7 ⟨by show d' + 1 ≤ R.frames; omega, by show 8 + (nL' + 11) + 64 * d' ≤ R.locals; omega⟩
  refine mm_back (rest := st) (va_runSU hat (As := as.map (mm_v G)) (rest := st.map (mm_v G)) (b := mm_a G a) ⟨C.1, C.2.1, C.2.2.1, C.2.2.2.1, C.2.2.2.2.1⟩ hM cw ⟨mm_B.blind, hrec, fun U hU hW => ⟨rfl, by rw [hU]; exact hR, va_K.moved hW.alike C.2.2.2.2.2.1, mm_warm C.2.2.2.2.2.2.1 hS hU hW⟩⟩ rfl (by rw [List.length_map]) hL.1 ?_ (lv_room (by rw [mm_cats]; exact hst)) hd ⟨by omega, by omega⟩) hL hS hc hs kk
  show (as.reverse ++ .ref a :: st).map (mm_v G) = _
  rw [List.map_append, List.map_reverse]
  rfl
theorem rr_callVO (C : mm_C w G cc own nL mc ms ret d nm) {owner : String} {x y : MethodName} {cc' b0 : ByteArray} {nL' d' mc' ms' index a m0 : Nat} {ret' r0 : Option FieldType} {as : List Value} {po : Option Value → mm_H → Nat → Prop} {u : Unit} (hd : decode cc pc = .ok (.invokevirtual index, 3)) (hw : IVO own index RJ4 owner x y cc' nL' ret' as.length b0 m0 r0) (hdd : d' + 1 ≤ d) (ek : ckq h n a 11 = some u) (hst : (st.map fun v => v.category).sum ≤ 8)
    (hM : Sp G w.2.1 y cc' nL' ret' d' mc' ms' (.ref a :: as) h n po) (kk : ∀ (v : Option Value) (h' : mm_H) (n' : Nat), po v h' n' → WW w G nL mc ms Q (pc + 3) L (v.toList ++ st) h' n' kc ks) : WW w G nL mc ms Q pc L (as.reverse ++ .ref a :: st) h n (kc + mc') (ks + ms') := by
  obtain ⟨ha, fs, he⟩ := ckq_s ek
  obtain ⟨p, l, e, R, s, m, args, below, meth, c⟩ := w
  intro ls H locs cells slots hL hR hS hc hs
  obtain ⟨w1, w2, w3, w4, w5, w6, w7, w8, w9, w10⟩ := hw
  have hmc := C.2.2.2.2.2.2.2.2.2.1
  have hms := C.2.2.2.2.2.2.2.2.2.2.1
  have hfr := C.2.2.2.2.2.2.2.2.2.2.2.1
  have hlo := C.2.2.2.2.2.2.2.2.2.2.2.2.1
  have h1 := hR.2.2.1 a ha.1 ha.2
  rw [he] at h1
  have hrec : ∃ cell : Cell, H[mm_a G a]? = some cell ∧ cell.vm.isStatics = false ∧ s.vm.findClass RJ4 = some cell.cls := va_recv (q := (RJ4, TJ4, 4)) C.2.2.2.2.2.1 (mm_one h1) rfl (q0 := 0) rfl
  have cw : va_CU R s args own RJ4 owner index x y cc' nL' ret' (.code y cc' nL' ret' :: mm_tbl) { frames := d', cells := mc', slots := ms', locals := 64 * d' } mc' ms' as.length :=
    va_cwO as.length C.2.2.2.2.1 (mm_goods (fun q hq => by
      unfold va_wsO at hq
      rcases List.mem_append.mp hq with hq | hq
      · simp only [List.mem_cons, List.not_mem_nil, or_false] at hq
        rcases hq with rfl | rfl | rfl | rfl | rfl | rfl
        · exact w1
        · exact w2
        · exact w3
        · exact w4
        · exact w5
        · exact w6
      · rcases List.mem_cons.mp hq with rfl | hq
        · exact w7
        · exact hq)) rfl rfl rfl w8 w9 ⟨by show d' + 1 ≤ R.frames; omega, by show 8 + (nL' + 11) + 64 * d' ≤ R.locals; omega⟩
  refine mm_back (rest := st) (va_runU (As := as.map (mm_v G)) (rest := st.map (mm_v G)) (b := mm_a G a) ⟨C.1, C.2.1, C.2.2.1, C.2.2.2.1, C.2.2.2.2.1⟩ hM cw ⟨mm_B.blind, hrec, fun U hU hW => ⟨rfl, by rw [hU]; exact hR, va_K.moved hW.alike C.2.2.2.2.2.1, mm_warm C.2.2.2.2.2.2.1 hS hU hW⟩⟩ rfl (by rw [List.length_map]) hL.1 ?_ (lv_room (by rw [mm_cats]; exact hst)) hd ⟨by omega, by omega⟩) hL hS hc hs kk
  show (as.reverse ++ .ref a :: st).map (mm_v G) = _
  rw [List.map_append, List.map_reverse]
  rfl
end MMSU
/-- a byte of a table that lies outside -/
def ldO (h : mm_H) (a : Nat) (i : Int32) : Option Int32 := if 1000000 ≤ a then (match h a with
  | .inl (.byte, N, .inl f) => if inb i N = true then some (f i.toNatClampNeg) else none
  | _ => none) else none
theorem ldO_s {h : mm_H} {a : Nat} {i : Int32} {v : Int32} (e : ldO h a i = some v) : 1000000 ≤ a ∧ ∃ N f, h a = .inl (.byte, N, .inl f) ∧ vp_in i N ∧ f i.toNatClampNeg = v := by
  unfold ldO at e
  split at e
  · rename_i hc
    split at e
    · rename_i N f hx
      split at e
      · rename_i hi
        exact ⟨hc, N, f, hx, inb_vp hi, Option.some.inj e⟩
      · cases e
    · cases e
  · cases e
theorem rr_ldO {w : mm_X} {G : mm_G} {cc : ByteArray} {own nm : String} {nL mc ms d pc n kc ks : Nat} {ret : Option FieldType} {Q : State → Prop} {L : List (Option Value)} {st : List Value} {h : mm_H} (C : mm_C w G cc own nL mc ms ret d nm) {a : Nat} {i v : Int32} (hd : decode cc pc = .ok (.baload, 1)) (e : ldO h a i = some v) (kk : WW w G nL mc ms Q (pc + 1) L (.int v :: st) h n kc ks) : WW w G nL mc ms Q pc L (.int i :: .ref a :: st) h n kc ks := by
  obtain ⟨ha, N, f, he, hi, hv⟩ := ldO_s e
  subst hv
  exact rr_baldO C hd ha he hi kk

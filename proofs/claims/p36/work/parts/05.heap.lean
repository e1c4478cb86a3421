/-! ===== the clean machine: objects and arrays ===== -/
theorem mm_one {D : va_G} {cl : List vw_C} {q : Nat × va_E} {H : Heap} (h : va_at D cl q H) : va_P D cl [q] H := by
  intro k x hx
  have hk : k < 1 := (List.getElem?_eq_some_iff.mp hx).1
  rw [show k = 0 by omega] at hx
  cases hx
  exact h
theorem mm_own {G : mm_G} {a : Nat} (h : 48 ≤ a) (h2 : a < 1000000) : mm_a G a = G.2.2.2.1 + (a - 48) := (if_neg (by omega)).trans (if_pos h2)
theorem mm_out {G : mm_G} {a : Nat} (h : a < 48 ∨ 1000000 ≤ a) : mm_a G a = G.2.2.1 a := by
  rcases h with h | h
  · exact if_pos h
  · exact (if_neg (by omega)).trans (if_neg (by omega))
theorem mm_apart {G : mm_G} {a b : Nat} (ha : 48 ≤ a) (hb : 48 ≤ b) (ha2 : a < 1000000) (hb2 : b < 1000000) (h : b ≠ a) : mm_a G b ≠ mm_a G a := by
  rw [mm_own ha ha2, mm_own hb hb2]; omega
theorem mm_inA {G : mm_G} {h : mm_H} {n a : Nat} {H : Heap} (hR : mm_R G h n H) (ha : 48 ≤ a ∧ a < n) : mm_A G (mm_a G a) := by
  have h2 := hR.2.1.2
  rw [mm_own ha.1 (by omega)]; exact Nat.le_add_right _ _
theorem mm_rf (G : mm_G) (r : Option Nat) : mm_v G (va_rf r) = va_rf (r.map (mm_a G)) := by cases r <;> rfl
theorem mm_fits (G : mm_G) (ty : FieldType) (v : Value) : fits ty (mm_v G v) = fits ty v := by cases v <;> cases ty <;> rfl
theorem mm_narrow (G : mm_G) {ty : FieldType} {v : Value} (h : narrow ty v = v) : narrow ty (mm_v G v) = mm_v G v := by
  cases v with
  | ref a => cases ty <;> rfl
  | int x => exact h
  | long x => exact h
  | float x => exact h
  | double x => exact h
  | null => exact h
  | retAddr x => exact h
theorem mm_dfl (G : mm_G) (t : FieldType) : mm_v G (defaultValue t) = defaultValue t := by cases t <;> rfl
theorem mm_vpV (G : mm_G) (fs : List Value) (j : Nat) : vp_V (fs.map (mm_v G)) j = mm_v G (vp_V fs j) := by
  unfold vp_V
  rw [List.getD_eq_getElem?_getD, List.getD_eq_getElem?_getD, List.getElem?_map]
  cases fs[j]? <;> rfl
theorem mm_R.upd {G : mm_G} {h : mm_H} {n a : Nat} {e : mm_E} {H H1 : Heap} (hR : mm_R G h n H) (ha : 48 ≤ a ∧ a < n) (e1 : va_at G.1 vwCl (mm_a G a, mm_e G e) H1) (z : H1.size = H.size) (oq : ∀ q : Nat, q ≠ mm_a G a → H1[q]? = H[q]?) : mm_R G (mm_up h a e) n H1 := by
  refine ⟨by rw [z]; exact hR.1, hR.2.1, fun b h1 h2 => ?_, fun b hb => ?_⟩
  · by_cases hba : b = a
    · subst hba
      rw [mm_up_s]
      exact e1
    · rw [mm_up_n hba]
      have h9 := hR.2.1.2
      exact (hR.2.2.1 b h1 h2).kept (oq _ (mm_apart ha.1 h1 (by omega) (by omega) hba))
  · have h9 := hR.2.1.2
    rw [mm_up_n (by omega)]
    exact hR.2.2.2 b hb
theorem mm_R.next {G : mm_G} {h : mm_H} {n : Nat} {H : Heap} (hR : mm_R G h n H) (hn : n < 1000000) : mm_a G n = H.size := by
  have h1 := hR.1
  have h2 := hR.2.1.1
  rw [mm_own h2 hn]; omega
theorem mm_R.new {G : mm_G} {h : mm_H} {n : Nat} {e : mm_E} {H H1 : Heap} (hR : mm_R G h n H) (hn : n < 1000000) (e1 : va_at G.1 vwCl (H.size, mm_e G e) H1) (z : H1.size = H.size + 1) (oq : ∀ q : Nat, q < H.size → H1[q]? = H[q]?) : mm_R G (mm_up h n e) (n + 1) H1 := by
  have h1 := hR.1
  have h2 := hR.2.1.1
  refine ⟨by rw [z]; omega, ⟨by omega, by omega⟩, fun b hb1 hb2 => ?_, fun b hb => ?_⟩
  · by_cases hbn : b = n
    · subst hbn
      rw [mm_up_s, hR.next hn]
      exact e1
    · rw [mm_up_n hbn]
      have h3 := hR.2.2.1 b hb1 (by omega)
      exact h3.kept (oq _ h3.lt)
  · rw [mm_up_n (by omega)]
    exact hR.2.2.2 b hb
theorem mm_Snew {A : Nat → Prop} {H0 H H1 : Heap} {locs : List Loc} (hS : va_S A H0 H locs) (z : H1.size = H.size + 1) (oq : ∀ q : Nat, q < H.size → H1[q]? = H[q]?) : va_S A H0 H1 locs :=
  ⟨by rw [z]; exact Nat.le_succ_of_le hS.1, fun q h1 h2 => (oq q (Nat.lt_of_lt_of_le h1 hS.1)).trans (hS.2.1 q h1 h2), hS.2.2⟩
/-- a field's link in a class' constant pool -/
def FL (own : String) (index ci k : Nat) : Prop := ∃ (Cn : String) (T : u_T) (N : Nat), vwCl[ci]? = some (Cn, T, N) ∧ k < N ∧ Cond.fieldLink own index (T k).1 (T k).2.1 (T k).2.2.1 ∈ mm_tbl ∧ ∀ q ∈ u_ws Cn T N, q ∈ mm_tbl
def FP (own : String) (index ci k : Nat) (ty : FieldType) (fin : Bool) : Prop := ∃ (Cn : String) (T : u_T) (N : Nat) (ty0 : Nat → FieldType), vwCl[ci]? = some (Cn, T, N) ∧ k < N ∧ Cond.fieldLink own index (T k).1 (T k).2.1 (T k).2.2.1 ∈ mm_tbl ∧ (∀ q ∈ u_ws Cn T N, q ∈ mm_tbl) ∧
  (∀ j, j < N → parseFieldDescriptor (T j).2.2.1 = some (ty0 j)) ∧ (∀ a, a < N → ∀ b, b < N → a ≠ b → (T a).2.1 ≠ (T b).2.1) ∧ ty0 k = ty ∧ (T k).2.2.2 = fin ∧ (fin = true → (T k).1 = own)
def NW (own : String) (index ci N : Nat) (fs : List Value) : Prop := ∃ (Cn : String) (T : u_T) (ty0 : Nat → FieldType), vwCl[ci]? = some (Cn, T, N) ∧ Cond.classLink own index Cn ∈ mm_tbl ∧ Cond.instantiable Cn N ∈ mm_tbl ∧ Cond.initialized Cn ∈ mm_tbl ∧ (∀ q ∈ u_ws Cn T N, q ∈ mm_tbl) ∧
  (∀ j, j < N → parseFieldDescriptor (T j).2.2.1 = some (ty0 j)) ∧ ∀ j, j < N → defaultValue (ty0 j) = vp_V fs j
section MMH
variable {w : mm_X} {G : mm_G} {cc : ByteArray} {own nm : String} {nL mc ms d pc n kc ks : Nat} {ret : Option FieldType} {Q : State → Prop} {L : List (Option Value)} {st : List Value} {h : mm_H}
theorem rr_get (C : mm_C w G cc own nL mc ms ret d nm) {index ci k a : Nat} {fs : List Value} {v : Value} (hd : decode cc pc = .ok (.getfield index, 3)) (hf : FL own index ci k) (ha : 48 ≤ a ∧ a < n) (he : h a = .inr (ci, fs)) (hv : fs[k]? = some v)
    (kk : WW w G nL mc ms Q (pc + 3) L (v :: st) h n kc ks) : WW w G nL mc ms Q pc L (.ref a :: st) h n kc ks := by
  obtain ⟨p, l, e, R, s, m, args, below, meth, c⟩ := w
  intro ls H locs cells slots hL hR hS hc hs
  obtain ⟨Cn, T, N, hcl, hk, hw, hin⟩ := hf
  have h1 := hR.2.2.1 a ha.1 ha.2
  rw [he] at h1
  exact va_get (D := G.1) (ref := (T k).1) (ci := ci) (fs := fs.map (mm_v G)) C.1 C.2.1 C.2.2.2.2.1 hin C.2.2.2.1 C.2.2.2.2.2.1 (mm_one h1) 0 rfl hcl k hk (C.2.2.2.2.1 _ hw) (fun _ q => q) (v := mm_v G v) (by rw [List.getElem?_map, hv]; rfl) hd (kk ls H locs cells slots hL hR hS hc hs)
theorem rr_put (C : mm_C w G cc own nL mc ms ret d nm) {index ci k a : Nat} {fs : List Value} {v : Value} {ty : FieldType} (hd : decode cc pc = .ok (.putfield index, 3)) (hf : FP own index ci k ty false) (ha : 48 ≤ a ∧ a < n) (he : h a = .inr (ci, fs)) (hl : k < fs.length) (hn : narrow ty v = v) (hfit : fits ty v = true)
    (kk : WW w G nL mc ms Q (pc + 3) L st (mm_up h a (.inr (ci, fs.set k v))) n kc ks) : WW w G nL mc ms Q pc L (v :: .ref a :: st) h n kc ks := by
  obtain ⟨p, l, e, R, s, m, args, below, meth, c⟩ := w
  intro ls H locs cells slots hL hR hS hc hs
  obtain ⟨Cn, T, N, ty0, hcl, hk, hw, hin, hty, hnm, hd0, hfin, -⟩ := hf
  have h1 := hR.2.2.1 a ha.1 ha.2
  rw [he] at h1
  have hap := va_apart (own := own) C.2.2.2.2.1 hin ty0 hty hnm C.2.2.2.2.2.1 hcl
  obtain ⟨r, h2, cell, q1, q2, q3, q4⟩ := h1
  have hr : r = (Cn, T, N) := Option.some.inj (h2.symm.trans hcl)
  subst hr
  obtain ⟨hS0, hfc, kC, hkC, hkind⟩ := C.2.2.2.2.2.1.1 ci _ hcl
  obtain ⟨cf, kf, fi, f, hi, hsl⟩ := hS0 k hk
  have hlay := C.2.2.2.2.1 _ (hin _ (u_in_lay hk))
  unfold u_lay at hlay
  rw [if_neg (by rw [hfin]; decide)] at hlay
  have hst := (u_facts hfc hkC (u_lays C.2.2.2.2.1 hin hk) hi).1
  have h6 := u_store (v := mm_v G v) hfc hkC hkind hlay hi (hd0 ▸ hty k hk) (mm_narrow G hn) ((mm_fits G ty v).trans hfit)
  refine W.putK C.1 C.2.1 (f := f) ⟨C.2.2.2.1, C.2.2.2.2.1 _ hw, ⟨_, _, _, hi⟩, hst⟩ (by rw [q2]; exact h6) q1 q3 (by rw [hsl]; exact k2_hasslot (q4 k hk)) rfl rfl hd fun H' e1 e2 e3 => ?_
  rw [hsl] at e1 ⊢
  refine kk ls H' _ cells slots hL (hR.upd ha ⟨_, hcl, t_OB.to (V := updV (vp_V (fs.map (mm_v G))) k (mm_v G v)) ⟨_, e1, q2, q3, t_set q4 hap hk _⟩ (fun j _ => ?_)⟩ e2 e3) (hS.put e2 e3 (mm_inA hR ha)) hc hs
  show _ = vp_V ((fs.set k v).map (mm_v G)) j
  rw [List.map_set]
  exact vp_updV_set (by rw [List.length_map]; exact hl) _ j
theorem rr_putF (C : mm_C w G cc own nL mc ms ret d "<init>") {index ci k a : Nat} {fs : List Value} {v : Value} {ty : FieldType} (hd : decode cc pc = .ok (.putfield index, 3)) (hf : FP own index ci k ty true) (ha : 48 ≤ a ∧ a < n) (he : h a = .inr (ci, fs)) (hl : k < fs.length) (hn : narrow ty v = v) (hfit : fits ty v = true)
    (kk : WW w G nL mc ms Q (pc + 3) L st (mm_up h a (.inr (ci, fs.set k v))) n kc ks) : WW w G nL mc ms Q pc L (v :: .ref a :: st) h n kc ks := by
  obtain ⟨p, l, e, R, s, m, args, below, meth, c⟩ := w
  intro ls H locs cells slots hL hR hS hc hs
  obtain ⟨Cn, T, N, ty0, hcl, hk, hw, hin, hty, hnm, hd0, hfin, hdecl⟩ := hf
  have h1 := hR.2.2.1 a ha.1 ha.2
  rw [he] at h1
  have hap := va_apart (own := own) C.2.2.2.2.1 hin ty0 hty hnm C.2.2.2.2.2.1 hcl
  obtain ⟨r, h2, cell, q1, q2, q3, q4⟩ := h1
  have hr : r = (Cn, T, N) := Option.some.inj (h2.symm.trans hcl)
  subst hr
  obtain ⟨hS0, hfc, kC, hkC, hkind⟩ := C.2.2.2.2.2.1.1 ci _ hcl
  obtain ⟨cf, kf, fi, f, hi, hsl⟩ := hS0 k hk
  have hlay := C.2.2.2.2.1 _ (hin _ (u_in_lay hk))
  unfold u_lay at hlay
  rw [if_pos hfin] at hlay
  have hst := (u_facts hfc hkC (u_lays C.2.2.2.2.1 hin hk) hi).1
  have hcf : m.cls = cf := by
    obtain ⟨_, _, c', _, _, _, -, -, hf', -, -, -, hown2, -⟩ := Cond.laysFinal_spec hlay
    have e1 : c' = cf := by have := hi.symm.trans hf'; simp at this; exact this.1.symm
    rw [hdecl rfl] at hown2
    rw [← e1]; exact Option.some.inj (C.2.2.2.1.symm.trans hown2)
  have h6 := u_fits (v := mm_v G v) hfc hkC hkind (Or.inr hlay) hi (hd0 ▸ hty k hk) (mm_narrow G hn) ((mm_fits G ty v).trans hfit)
  refine W.putFinK C.1 C.2.1 C.2.2.2.1 (C.2.2.2.2.1 _ hw) hi hst hcf C.2.2.2.2.2.2.2.2.2.2.2.2.2.2 (by rw [q2]; exact h6) q1 q3 (by rw [hsl]; exact k2_hasslot (q4 k hk)) rfl rfl hd fun H' e1 e2 e3 => ?_
  rw [hsl] at e1 ⊢
  refine kk ls H' _ cells slots hL (hR.upd ha ⟨_, hcl, t_OB.to (V := updV (vp_V (fs.map (mm_v G))) k (mm_v G v)) ⟨_, e1, q2, q3, t_set q4 hap hk _⟩ (fun j _ => ?_)⟩ e2 e3) (hS.put e2 e3 (mm_inA hR ha)) hc hs
  show _ = vp_V ((fs.set k v).map (mm_v G)) j
  rw [List.map_set]
  exact vp_updV_set (by rw [List.length_map]; exact hl) _ j
theorem rr_new (C : mm_C w G cc own nL mc ms ret d nm) (hHI : n < 1000000) {index ci N : Nat} {fs : List Value} (hd : decode cc pc = .ok (.new index, 3)) (hf : NW own index ci N fs)
    (kk : WW w G nL mc ms Q (pc + 3) L (.ref n :: st) (mm_up h n (.inr (ci, fs))) (n + 1) kc ks) : WW w G nL mc ms Q pc L st h n (kc + 1) (ks + N) := by
  obtain ⟨p, l, e, R, s, m, args, below, meth, c⟩ := w
  intro ls H locs cells slots hL hR hS hc hs
  obtain ⟨Cn, T, ty0, hcl, hw1, hw2, hw3, hin, hty, hfs⟩ := hf
  have hKn := C.2.2.2.2.2.1.1 ci _ hcl
  have hmc := C.2.2.2.2.2.2.2.2.2.1
  have hms := C.2.2.2.2.2.2.2.2.2.2.1
  refine W.newcK C.1 C.2.1 C.2.2.2.1 (C.2.2.2.2.1 _ hw1) (C.2.2.2.2.1 _ hw2) (C.2.2.2.2.1 _ hw3) rfl hd (by omega) (by omega) hKn.2.1 rfl fun H1 kC hkC e1 z1 o1 => ?_
  have k1 := kk ls H1 locs (cells + 1) (slots + N) hL (hR.new hHI (e := .inr (ci, fs)) ⟨_, hcl, (u_born ty0 C.2.2.2.2.1 hin hKn hkC e1 hty).to fun j hj => ?_⟩ z1 o1) (mm_Snew hS z1 o1) (by omega) (by omega)
  · rw [← hR.next hHI]
    exact k1
  · show _ = vp_V (fs.map (mm_v G)) j
    rw [mm_vpV, ← hfs j hj, mm_dfl]
theorem rr_iald (C : mm_C w G cc own nL mc ms ret d nm) {a N : Nat} {f : Nat → Int32} {i : Int32} (hd : decode cc pc = .ok (.iaload, 1)) (ha : a < n) (he : h a = .inl (.int, N, .inl f)) (hin : vp_in i N)
    (kk : WW w G nL mc ms Q (pc + 1) L (.int (f i.toNatClampNeg) :: st) h n kc ks) : WW w G nL mc ms Q pc L (.int i :: .ref a :: st) h n kc ks := by
  obtain ⟨p, l, e, R, s, m, args, below, meth, c⟩ := w
  intro ls H locs cells slots hL hR hS hc hs
  by_cases ha0 : a < 48
  · have e1 := hR.2.2.2 a (Or.inl ha0)
    have hT := C.2.2.2.2.2.2.1.2.1 a N .int f (Or.inl ha0) (Or.inl rfl) (by rw [← e1]; exact he)
    rw [← mm_out (G := G) (Or.inl ha0)] at hT
    exact va_ti C.1 C.2.1 hT hS hin rfl hd (kk ls H locs cells slots hL hR hS hc hs)
  · have h1 := hR.2.2.1 a (by omega) ha
    rw [he] at h1
    exact va_iald C.1 C.2.1 C.2.2.2.2.2.1 (mm_one h1) 0 0 (cA := G.2.1 .int) (n := N) (f := f) rfl rfl hin hd (kk ls H locs cells slots hL hR hS hc hs)
theorem rr_lald (C : mm_C w G cc own nL mc ms ret d nm) {a N : Nat} {f : Nat → Int64} {i : Int32} (hd : decode cc pc = .ok (.laload, 1)) (ha : 48 ≤ a ∧ a < n) (he : h a = .inl (.long, N, .inr (.inl f))) (hin : vp_in i N)
    (kk : WW w G nL mc ms Q (pc + 1) L (.long (f i.toNatClampNeg) :: st) h n kc ks) : WW w G nL mc ms Q pc L (.int i :: .ref a :: st) h n kc ks := by
  obtain ⟨p, l, e, R, s, m, args, below, meth, c⟩ := w
  intro ls H locs cells slots hL hR hS hc hs
  have h1 := hR.2.2.1 a ha.1 ha.2
  rw [he] at h1
  exact va_lald C.1 C.2.1 C.2.2.2.2.2.1 (mm_one h1) 0 1 (cA := G.2.1 .long) (n := N) (f := f) rfl rfl hin hd (kk ls H locs cells slots hL hR hS hc hs)
theorem rr_bald (C : mm_C w G cc own nL mc ms ret d nm) {a N : Nat} {f : Nat → Int32} {i : Int32} (hd : decode cc pc = .ok (.baload, 1)) (ha : a < n) (he : h a = .inl (.byte, N, .inl f)) (hin : vp_in i N)
    (kk : WW w G nL mc ms Q (pc + 1) L (.int (f i.toNatClampNeg) :: st) h n kc ks) : WW w G nL mc ms Q pc L (.int i :: .ref a :: st) h n kc ks := by
  obtain ⟨p, l, e, R, s, m, args, below, meth, c⟩ := w
  intro ls H locs cells slots hL hR hS hc hs
  by_cases ha0 : a < 48
  · have e1 := hR.2.2.2 a (Or.inl ha0)
    have hT := C.2.2.2.2.2.2.1.2.1 a N .byte f (Or.inl ha0) (Or.inr rfl) (by rw [← e1]; exact he)
    rw [← mm_out (G := G) (Or.inl ha0)] at hT
    exact va_tb C.1 C.2.1 hT hS hin rfl hd (kk ls H locs cells slots hL hR hS hc hs)
  · have h1 := hR.2.2.1 a (by omega) ha
    rw [he] at h1
    exact va_bald C.1 C.2.1 C.2.2.2.2.2.1 (mm_one h1) 0 2 (cA := G.2.1 .byte) (n := N) (f := f) rfl rfl hin hd (kk ls H locs cells slots hL hR hS hc hs)
theorem rr_baldO (C : mm_C w G cc own nL mc ms ret d nm) {a N : Nat} {f : Nat → Int32} {i : Int32} (hd : decode cc pc = .ok (.baload, 1)) (ha : 1000000 ≤ a) (he : h a = .inl (.byte, N, .inl f)) (hin : vp_in i N)
    (kk : WW w G nL mc ms Q (pc + 1) L (.int (f i.toNatClampNeg) :: st) h n kc ks) : WW w G nL mc ms Q pc L (.int i :: .ref a :: st) h n kc ks := by
  obtain ⟨p, l, e, R, s, m, args, below, meth, c⟩ := w
  intro ls H locs cells slots hL hR hS hc hs
  have e1 := hR.2.2.2 a (Or.inr ha)
  have hT := C.2.2.2.2.2.2.1.2.1 a N .byte f (Or.inr ha) (Or.inr rfl) (by rw [← e1]; exact he)
  rw [← mm_out (G := G) (Or.inr ha)] at hT
  exact va_tb C.1 C.2.1 hT hS hin rfl hd (kk ls H locs cells slots hL hR hS hc hs)
theorem rr_aald (C : mm_C w G cc own nL mc ms ret d nm) {a N t0 : Nat} {ty : FieldType} {f : Nat → Option Nat} {i : Int32} (hd : decode cc pc = .ok (.aaload, 1)) (ha : 48 ≤ a ∧ a < n) (he : h a = .inl (ty, N, .inr (.inr (.inr (.inr f))))) (ht : mm_tys[t0]? = some ty) (hty : ty.isReference = true) (hin : vp_in i N)
    (kk : WW w G nL mc ms Q (pc + 1) L (va_rf (f i.toNatClampNeg) :: st) h n kc ks) : WW w G nL mc ms Q pc L (.int i :: .ref a :: st) h n kc ks := by
  obtain ⟨p, l, e, R, s, m, args, below, meth, c⟩ := w
  intro ls H locs cells slots hL hR hS hc hs
  have h1 := hR.2.2.1 a ha.1 ha.2
  rw [he] at h1
  have hlt : i.toNatClampNeg < N := Nat.not_le.mp fun q => hin (Or.inr q)
  have ht' : (mm_T G)[t0]? = some (G.2.1 ty, ty) := by unfold mm_T; rw [List.getElem?_map, ht]; rfl
  have hk := kk ls H locs cells slots hL hR hS hc hs
  rw [List.map_cons, mm_rf] at hk
  exact W.aald (v := va_rf ((f i.toNatClampNeg).map (mm_a G))) (ty := ty) C.1 C.2.1 (mm_one h1 0 _ rfl) ((C.2.2.2.2.2.1.2 t0 _ ht').1 N (fun j => va_rf ((f j).map (mm_a G)))) hty (fun q => by cases q) (by show ¬ (i < 0 ∨ (arrV _ _ _).slots.size ≤ _); rw [arrV_size]; exact hin) (arrV_read (G.2.1 ty) (fun j => va_rf ((f j).map (mm_a G))) hlt) rfl rfl hd hk
theorem rr_alen (C : mm_C w G cc own nL mc ms ret d nm) {a t0 : Nat} {ty : FieldType} {x : vp_A} {v : Int32} (hd : decode cc pc = .ok (.arraylength, 1)) (ha : 48 ≤ a ∧ a < n) (he : h a = .inl (ty, x)) (ht : mm_tys[t0]? = some ty) (hv : Int32.ofNat x.1 = v)
    (kk : WW w G nL mc ms Q (pc + 1) L (.int v :: st) h n kc ks) : WW w G nL mc ms Q pc L (.ref a :: st) h n kc ks := by
  obtain ⟨p, l, e, R, s, m, args, below, meth, c⟩ := w
  intro ls H locs cells slots hL hR hS hc hs
  have h1 := hR.2.2.1 a ha.1 ha.2
  rw [he] at h1
  have ht' : (mm_T G)[t0]? = some (G.2.1 ty, ty) := by unfold mm_T; rw [List.getElem?_map, ht]; rfl
  refine va_alen C.1 C.2.1 C.2.2.2.2.2.1 (mm_one h1) 0 t0 (cA := G.2.1 ty) (x := mm_x G x) rfl ht' (v := v) ?_ hd (kk ls H locs cells slots hL hR hS hc hs)
  obtain ⟨m9, f | f | f | f | f⟩ := x <;> exact hv
theorem rr_alenO (C : mm_C w G cc own nL mc ms ret d nm) {a N : Nat} {ty : FieldType} {f : Nat → Int32} {v : Int32} (hd : decode cc pc = .ok (.arraylength, 1)) (ha : a < 48 ∨ 1000000 ≤ a) (ht : ty = .int ∨ ty = .byte) (he : h a = .inl (ty, N, .inl f)) (hv : Int32.ofNat N = v)
    (kk : WW w G nL mc ms Q (pc + 1) L (.int v :: st) h n kc ks) : WW w G nL mc ms Q pc L (.ref a :: st) h n kc ks := by
  obtain ⟨p, l, e, R, s, m, args, below, meth, c⟩ := w
  intro ls H locs cells slots hL hR hS hc hs
  have e1 := hR.2.2.2 a ha
  obtain ⟨cell, h1, h2, h3, h4, h5, h6, h7⟩ := C.2.2.2.2.2.2.1.2.1 a N ty f ha ht (by rw [← e1]; exact he)
  have ho := mm_out (G := G) ha
  show W p l e R s m args below meth c H locs cells slots Q (F0 m pc ls (.ref (mm_a G a) :: st.map (mm_v G)))
  rw [ho]
  exact W.alen (n := v) C.1 C.2.1 (by rw [hS.2.1 _ (Array.getElem?_eq_some_iff.mp h1).1 h7]; exact h1) h2 (by rw [h5]; exact hv) rfl rfl hd (kk ls H locs cells slots hL hR hS hc hs)
theorem rr_iast (C : mm_C w G cc own nL mc ms ret d nm) {a N : Nat} {f : Nat → Int32} {i x : Int32} (hd : decode cc pc = .ok (.iastore, 1)) (ha : 48 ≤ a ∧ a < n) (he : h a = .inl (.int, N, .inl f)) (hin : vp_in i N)
    (kk : WW w G nL mc ms Q (pc + 1) L st (mm_up h a (.inl (.int, N, .inl (upd f i.toNatClampNeg x)))) n kc ks) : WW w G nL mc ms Q pc L (.int x :: .int i :: .ref a :: st) h n kc ks := by
  obtain ⟨p, l, e, R, s, m, args, below, meth, c⟩ := w
  intro ls H locs cells slots hL hR hS hc hs
  have h1 := hR.2.2.1 a ha.1 ha.2
  rw [he] at h1
  refine W.iast C.1 C.2.1 (mm_one h1 0 _ rfl) ((C.2.2.2.2.2.1.2 0 (G.2.1 .int, .int) rfl).1 N (fun j => .int (f j))) (fun q => by cases q) (by show ¬ (i < 0 ∨ (arrV _ _ _).slots.size ≤ _); rw [arrV_size]; exact hin) rfl rfl hd fun H1 e z oq => ?_
  refine kk ls H1 _ cells slots hL (hR.upd ha ?_ z oq) (hS.put z oq (mm_inA hR ha)) hc hs
  show H1[mm_a G a]? = some (vp_cell (G.2.1 .int) (N, .inl _))
  rw [e]
  show some ((vp_cell (G.2.1 .int) (N, .inl f)).setSlot _ _) = _
  rw [vp_cell_i, vp_cell_i, arrV_store]
  congr 2
  funext q
  by_cases hq : q = i.toNatClampNeg
  · subst hq
    simp [updV, upd]
  · simp [updV, upd, hq]
theorem rr_bast (C : mm_C w G cc own nL mc ms ret d nm) {a N : Nat} {f : Nat → Int32} {i x : Int32} (hd : decode cc pc = .ok (.bastore, 1)) (ha : 48 ≤ a ∧ a < n) (he : h a = .inl (.byte, N, .inl f)) (hin : vp_in i N)
    (kk : WW w G nL mc ms Q (pc + 1) L st (mm_up h a (.inl (.byte, N, .inl (upd f i.toNatClampNeg (vp_nar .byte x))))) n kc ks) : WW w G nL mc ms Q pc L (.int x :: .int i :: .ref a :: st) h n kc ks := by
  obtain ⟨p, l, e, R, s, m, args, below, meth, c⟩ := w
  intro ls H locs cells slots hL hR hS hc hs
  have h1 := hR.2.2.1 a ha.1 ha.2
  rw [he] at h1
  refine W.bast C.1 C.2.1 (mm_one h1 0 _ rfl) ((C.2.2.2.2.2.1.2 2 (G.2.1 .byte, .byte) rfl).1 N (fun j => .int (f j))) (fun q => by cases q) (by show ¬ (i < 0 ∨ (arrV _ _ _).slots.size ≤ _); rw [arrV_size]; exact hin) rfl rfl hd fun H1 e z oq => ?_
  refine kk ls H1 _ cells slots hL (hR.upd ha ?_ z oq) (hS.put z oq (mm_inA hR ha)) hc hs
  show H1[mm_a G a]? = some (vp_cell (G.2.1 .byte) (N, .inl _))
  rw [e]
  show some ((vp_cell (G.2.1 .byte) (N, .inl f)).setSlot _ _) = _
  rw [vp_cell_i, vp_cell_i, arrV_store]
  congr 2
  funext q
  by_cases hq : q = i.toNatClampNeg
  · subst hq
    simp [updV, upd, vp_nar]
    try rfl
  · simp [updV, upd, hq]
theorem rr_last (C : mm_C w G cc own nL mc ms ret d nm) {a N : Nat} {f : Nat → Int64} {i : Int32} {x : Int64} (hd : decode cc pc = .ok (.lastore, 1)) (ha : 48 ≤ a ∧ a < n) (he : h a = .inl (.long, N, .inr (.inl f))) (hin : vp_in i N)
    (kk : WW w G nL mc ms Q (pc + 1) L st (mm_up h a (.inl (.long, N, .inr (.inl (vp_updL f i.toNatClampNeg x))))) n kc ks) : WW w G nL mc ms Q pc L (.long x :: .int i :: .ref a :: st) h n kc ks := by
  obtain ⟨p, l, e, R, s, m, args, below, meth, c⟩ := w
  intro ls H locs cells slots hL hR hS hc hs
  have h1 := hR.2.2.1 a ha.1 ha.2
  rw [he] at h1
  refine W.last C.1 C.2.1 (mm_one h1 0 _ rfl) ((C.2.2.2.2.2.1.2 1 (G.2.1 .long, .long) rfl).1 N (fun j => .long (f j))) (fun q => by cases q) (by show ¬ (i < 0 ∨ (arrV _ _ _).slots.size ≤ _); rw [arrV_size]; exact hin) rfl rfl hd fun H1 e z oq => ?_
  refine kk ls H1 _ cells slots hL (hR.upd ha ?_ z oq) (hS.put z oq (mm_inA hR ha)) hc hs
  show H1[mm_a G a]? = some (vp_cell (G.2.1 .long) (N, .inr (.inl _)))
  rw [e]
  show some ((vp_cell (G.2.1 .long) (N, .inr (.inl f))).setSlot _ _) = _
  rw [vp_cell_l, vp_cell_l, arrV_store]
  congr 2
  funext q
  by_cases hq : q = i.toNatClampNeg
  · subst hq
    simp [updV, vp_updL]
  · simp [updV, vp_updL, hq]
theorem rr_aast (C : mm_C w G cc own nL mc ms ret d nm) {a b N t0 ci : Nat} {Cn : String} {T : u_T} {M : Nat} {vs : List Value} {f : Nat → Option Nat} {i : Int32} (hd : decode cc pc = .ok (.aastore, 1)) (ha : 48 ≤ a ∧ a < n) (he : h a = .inl (.object Cn, N, .inr (.inr (.inr (.inr f))))) (ht : mm_tys[t0]? = some (.object Cn)) (hb : 48 ≤ b ∧ b < n) (hv : h b = .inr (ci, vs)) (hcl : vwCl[ci]? = some (Cn, T, M)) (hin : vp_in i N)
    (kk : WW w G nL mc ms Q (pc + 1) L st (mm_up h a (.inl (.object Cn, N, .inr (.inr (.inr (.inr (va_up f i.toNatClampNeg (some b)))))))) n kc ks) : WW w G nL mc ms Q pc L (.ref b :: .int i :: .ref a :: st) h n kc ks := by
  obtain ⟨p, l, e, R, s, m, args, below, meth, c⟩ := w
  intro ls H locs cells slots hL hR hS hc hs
  have h1 := hR.2.2.1 a ha.1 ha.2
  rw [he] at h1
  have h2 := hR.2.2.1 b hb.1 hb.2
  rw [hv] at h2
  have hlt : i.toNatClampNeg < N := Nat.not_le.mp fun q => hin (Or.inr q)
  have h0 : ¬ i < 0 := fun q => hin (Or.inl q)
  have ht' : (mm_T G)[t0]? = some (G.2.1 (.object Cn), .object Cn) := by unfold mm_T; rw [List.getElem?_map, ht]; rfl
  obtain ⟨r', hr', cellV, g1, g2, g3, -⟩ := h2
  have hcls := (C.2.2.2.2.2.1.1 ci _ hcl).2
  obtain ⟨kA, comp, k1, k2, k3, -⟩ := (C.2.2.2.2.2.1.2 t0 _ ht').2
  have hcomp : comp = G.1.1 ci := Option.some.inj (k3.symm.trans hcls.1)
  subst hcomp
  obtain ⟨kC, hkC, -⟩ := hcls.2
  refine W.aast C.1 C.2.1 (mm_one h1 0 _ rfl) (fun q h => by cases h) (fun h => by cases h) k1 k2 rfl hkC ⟨h0, by show _ < (arrV _ _ _).slots.size; rw [arrV_size]; exact hlt⟩ g1 (fun q h => by rw [g3] at h; cases h) (by rw [g2]; exact hkC) (by rw [g2]; exact va_assign hcls) rfl rfl hd fun H1 e z oq => ?_
  refine kk ls H1 _ cells slots hL (hR.upd ha ?_ z oq) (hS.put z oq (mm_inA hR ha)) hc hs
  show H1[mm_a G a]? = some (vp_cell (G.2.1 (.object Cn)) (N, .inr (.inr (.inr (.inr _)))))
  rw [e]
  show some ((vp_cell (G.2.1 (.object Cn)) (N, .inr (.inr (.inr (.inr _))))).setSlot _ _) = _
  rw [vp_cell_q, vp_cell_q, arrV_store]
  congr 2
  funext q
  by_cases hq : q = i.toNatClampNeg
  · subst hq
    simp [updV, va_up, va_rf]
  · simp [updV, va_up, hq]
theorem rr_newI (C : mm_C w G cc own nL mc ms ret d nm) (hHI : n < 1000000) {atype : ArrayType} {ty : FieldType} {N t0 : Nat} {i : Int32} (hd : decode cc pc = .ok (.newarray atype, 2)) (hty : newarray.typeOf atype = ty) (ht : mm_tys[t0]? = some ty) (ht0 : t0 < 4) (hz : defaultValue ty = .int 0) (hw : Cond.arrayClass ty ∈ mm_tbl) (hn : ¬ i < 0) (hN : i.toNatClampNeg = N) (hb : N * componentBytes ty ≤ 536870912)
    (kk : WW w G nL mc ms Q (pc + 2) L (.ref n :: st) (mm_up h n (.inl (ty, N, .inl (fun _ => 0)))) (n + 1) kc ks) : WW w G nL mc ms Q pc L (.int i :: st) h n (kc + 1) (ks + N) := by
  obtain ⟨p, l, e, R, s, m, args, below, meth, c⟩ := w
  intro ls H locs cells slots hL hR hS hc hs
  subst hty
  have hmc := C.2.2.2.2.2.2.2.2.2.1
  have hms := C.2.2.2.2.2.2.2.2.2.2.1
  have ht' : (mm_T G)[t0]? = some (G.2.1 (newarray.typeOf atype), newarray.typeOf atype) := by unfold mm_T; rw [List.getElem?_map, ht]; rfl
  have hra := (C.2.2.2.2.2.1.2 t0 _ ht').2
  refine va_newaK C.1 C.2.1 (C.2.2.2.2.1 _ hw) rfl hd rfl hn hN hb (by omega) (by omega) rfl fun H1 cA e1 z1 o1 _ hNm => ?_
  have hcA : cA = G.2.1 (newarray.typeOf atype) := by
    have : s.vm.findClass ("[" ++ (newarray.typeOf atype).toString) = some (G.2.1 (newarray.typeOf atype)) := by cases atype <;> exact hra
    exact Option.some.inj (hNm.symm.trans this)
  subst hcA
  have k1 := kk ls H1 locs (cells + 1) (slots + N) hL (hR.new hHI (e := .inl (newarray.typeOf atype, N, .inl (fun _ => 0))) (by show H1[H.size]? = some (vp_cell _ (N, .inl (fun _ => 0))); rw [e1, hz]; rfl) z1 o1) (mm_Snew hS z1 o1) (by omega) (by omega)
  rw [← hR.next hHI]
  exact k1
theorem rr_newJ (C : mm_C w G cc own nL mc ms ret d nm) (hHI : n < 1000000) {N : Nat} {i : Int32} (hd : decode cc pc = .ok (.newarray .long, 2)) (hw : Cond.arrayClass .long ∈ mm_tbl) (hn : ¬ i < 0) (hN : i.toNatClampNeg = N) (hb : N * componentBytes .long ≤ 536870912)
    (kk : WW w G nL mc ms Q (pc + 2) L (.ref n :: st) (mm_up h n (.inl (.long, N, .inr (.inl (fun _ => 0))))) (n + 1) kc ks) : WW w G nL mc ms Q pc L (.int i :: st) h n (kc + 1) (ks + N) := by
  obtain ⟨p, l, e, R, s, m, args, below, meth, c⟩ := w
  intro ls H locs cells slots hL hR hS hc hs
  have hmc := C.2.2.2.2.2.2.2.2.2.1
  have hms := C.2.2.2.2.2.2.2.2.2.2.1
  have hra := (C.2.2.2.2.2.1.2 1 (G.2.1 .long, .long) rfl).2
  refine va_newaK (atype := .long) C.1 C.2.1 (C.2.2.2.2.1 _ hw) rfl hd rfl hn hN hb (by omega) (by omega) rfl fun H1 cA e1 z1 o1 _ hNm => ?_
  have hcA : cA = G.2.1 .long := Option.some.inj (hNm.symm.trans hra)
  subst hcA
  have k1 := kk ls H1 locs (cells + 1) (slots + N) hL (hR.new hHI (e := .inl (.long, N, .inr (.inl (fun _ => 0)))) (by show H1[H.size]? = some (vp_cell _ (N, .inr (.inl (fun _ => 0)))); rw [e1]; rfl) z1 o1) (mm_Snew hS z1 o1) (by omega) (by omega)
  rw [← hR.next hHI]
  exact k1
theorem rr_newA (C : mm_C w G cc own nL mc ms ret d nm) (hHI : n < 1000000) {Cn : String} {N t0 index : Nat} {i : Int32} (hd : decode cc pc = .ok (.anewarray index, 3)) (ht : mm_tys[t0]? = some (.object Cn)) (hw : Cond.classLink own index Cn ∈ mm_tbl) (hw2 : ∀ U : State, mm_O G U U.heap → va_AO Cn U) (hn : ¬ i < 0) (hN : i.toNatClampNeg = N) (hb : N * 4 ≤ 536870912)
    (kk : WW w G nL mc ms Q (pc + 3) L (.ref n :: st) (mm_up h n (.inl (.object Cn, N, .inr (.inr (.inr (.inr (fun _ => none))))))) (n + 1) kc ks) : WW w G nL mc ms Q pc L (.int i :: st) h n (kc + 1) (ks + N) := by
  obtain ⟨p, l, e, R, s, m, args, below, meth, c⟩ := w
  intro ls H locs cells slots hL hR hS hc hs
  subst hN
  have hmc := C.2.2.2.2.2.2.2.2.2.1
  have hms := C.2.2.2.2.2.2.2.2.2.2.1
  have ht' : (mm_T G)[t0]? = some (G.2.1 (.object Cn), .object Cn) := by unfold mm_T; rw [List.getElem?_map, ht]; rfl
  obtain ⟨kA, comp, r1, r2, r3, r4⟩ := (C.2.2.2.2.2.1.2 t0 _ ht').2
  refine W.anew C.1 C.2.1 C.2.2.2.1 (C.2.2.2.2.1 _ hw) (hw2 s C.2.2.2.2.2.2.1).use rfl hd rfl hn hb (by omega) (by omega) fun cA kA' comp' f1 f2 f3 f4 => ?_
  have hcA : cA = G.2.1 (.object Cn) := Option.some.inj (f1.symm.trans r4)
  subst hcA
  have z1 : (H.push { cls := G.2.1 (.object Cn), slots := Array.replicate i.toNatClampNeg .null, vm := .none } : Heap).size = H.size + 1 := by simp
  have o1 : ∀ q : Nat, q < H.size → (H.push { cls := G.2.1 (.object Cn), slots := Array.replicate i.toNatClampNeg .null, vm := .none } : Heap)[q]? = H[q]? := fun q hq => by rw [Array.getElem?_push, if_neg (Nat.ne_of_lt hq)]
  have k1 := kk ls _ locs (cells + 1) (slots + i.toNatClampNeg) hL (hR.new hHI (e := .inl (.object Cn, i.toNatClampNeg, .inr (.inr (.inr (.inr (fun _ => none)))))) (by show (H.push _ : Heap)[H.size]? = some (vp_cell _ (i.toNatClampNeg, .inr (.inr (.inr (.inr (fun _ => none)))))); rw [arrV_new]; simp; rfl) z1 o1) (mm_Snew hS z1 o1) (by omega) (by omega)
  rw [← hR.next hHI]
  exact k1
end MMH

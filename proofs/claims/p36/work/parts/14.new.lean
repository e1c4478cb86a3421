/-! ===== new cells ===== -/
section MMN
variable {w : mm_X} {G : mm_G} {cc : ByteArray} {own nm : String} {nL mc ms d pc n kc ks : Nat} {ret : Option FieldType} {Q : State → Prop} {L : List (Option Value)} {st : List Value} {h : mm_H}
def newO (h : mm_H) (n ci : Nat) (fs : List Value) : Option mm_H := if n < 1000000 then some (mm_up h n (.inr (ci, fs))) else none
theorem rr_newq (C : mm_C w G cc own nL mc ms ret d nm) {index ci N : Nat} {fs : List Value} {h1 : mm_H} (hd : decode cc pc = .ok (.new index, 3)) (hf : NW own index ci N fs) (e : newO h n ci fs = some h1)
    (kk : WW w G nL mc ms Q (pc + 3) L (.ref n :: st) h1 (n + 1) kc ks) : WW w G nL mc ms Q pc L st h n (kc + 1) (ks + N) := by
  unfold newO at e
  split at e
  · rename_i hHI
    obtain rfl := Option.some.inj e
    exact rr_new C hHI hd hf kk
  · cases e
def newI (h : mm_H) (n : Nat) (ty : FieldType) (N : Nat) (i : Int32) : Option mm_H := if ¬ i < 0 ∧ i.toNatClampNeg ≤ N ∧ n < 1000000 then some (mm_up h n (.inl (ty, i.toNatClampNeg, .inl (fun _ => 0)))) else none
def newJ (h : mm_H) (n : Nat) (N : Nat) (i : Int32) : Option mm_H := if ¬ i < 0 ∧ i.toNatClampNeg ≤ N ∧ n < 1000000 then some (mm_up h n (.inl (.long, i.toNatClampNeg, .inr (.inl (fun _ => 0))))) else none
def newA (h : mm_H) (n : Nat) (ty : FieldType) (N : Nat) (i : Int32) : Option mm_H := if ¬ i < 0 ∧ i.toNatClampNeg ≤ N ∧ n < 1000000 then some (mm_up h n (.inl (ty, i.toNatClampNeg, .inr (.inr (.inr (.inr (fun _ => none))))))) else none
theorem rr_newIq (C : mm_C w G cc own nL mc ms ret d nm) {atype : ArrayType} {ty : FieldType} {t0 : Nat} {i : Int32} {h1 : mm_H} (hd : decode cc pc = .ok (.newarray atype, 2)) (hty : newarray.typeOf atype = ty) (ht : mm_tys[t0]? = some ty) (ht0 : t0 < 4) (hz : defaultValue ty = .int 0) (hw : Cond.arrayClass ty ∈ mm_tbl) {N : Nat} (hb : N * componentBytes ty ≤ 536870912) (e : newI h n ty N i = some h1)
    (kk : WW w G nL mc ms Q (pc + 2) L (.ref n :: st) h1 (n + 1) kc ks) : WW w G nL mc ms Q pc L (.int i :: st) h n (kc + 1) (ks + N) := by
  unfold newI at e
  split at e
  · rename_i hc
    obtain rfl := Option.some.inj e
    refine rr_cut C (kc' := kc + 1) (ks' := ks + i.toNatClampNeg) (Nat.le_refl _) (Nat.add_le_add_left hc.2.1 _) ?_
    exact rr_newI C hc.2.2 hd hty ht ht0 hz hw hc.1 rfl (Nat.le_trans (Nat.mul_le_mul_right _ hc.2.1) hb) kk
  · cases e
theorem rr_newJq (C : mm_C w G cc own nL mc ms ret d nm) {i : Int32} {h1 : mm_H} (hd : decode cc pc = .ok (.newarray .long, 2)) (hw : Cond.arrayClass .long ∈ mm_tbl) {N : Nat} (hb : N * componentBytes .long ≤ 536870912) (e : newJ h n N i = some h1)
    (kk : WW w G nL mc ms Q (pc + 2) L (.ref n :: st) h1 (n + 1) kc ks) : WW w G nL mc ms Q pc L (.int i :: st) h n (kc + 1) (ks + N) := by
  unfold newJ at e
  split at e
  · rename_i hc
    obtain rfl := Option.some.inj e
    refine rr_cut C (kc' := kc + 1) (ks' := ks + i.toNatClampNeg) (Nat.le_refl _) (Nat.add_le_add_left hc.2.1 _) ?_
    exact rr_newJ C hc.2.2 hd hw hc.1 rfl (Nat.le_trans (Nat.mul_le_mul_right _ hc.2.1) hb) kk
  · cases e
theorem rr_newAq (C : mm_C w G cc own nL mc ms ret d nm) {Cn : String} {t0 index : Nat} {i : Int32} {h1 : mm_H} (hd : decode cc pc = .ok (.anewarray index, 3)) (ht : mm_tys[t0]? = some (.object Cn)) (hw : Cond.classLink own index Cn ∈ mm_tbl) (hw2 : ∀ U : State, mm_O G U U.heap → va_AO Cn U) {N : Nat} (hb : N * 4 ≤ 536870912) (e : newA h n (.object Cn) N i = some h1)
    (kk : WW w G nL mc ms Q (pc + 3) L (.ref n :: st) h1 (n + 1) kc ks) : WW w G nL mc ms Q pc L (.int i :: st) h n (kc + 1) (ks + N) := by
  unfold newA at e
  split at e
  · rename_i hc
    obtain rfl := Option.some.inj e
    refine rr_cut C (kc' := kc + 1) (ks' := ks + i.toNatClampNeg) (Nat.le_refl _) (Nat.add_le_add_left hc.2.1 _) ?_
    exact rr_newA C hc.2.2 hd ht hw hw2 hc.1 rfl (Nat.le_trans (Nat.mul_le_mul_right _ hc.2.1) hb) kk
  · cases e
theorem rr_wrFF (C : mm_C w G cc own nL mc ms ret d "<init>") {index ci k a : Nat} {v : Value} {ty : FieldType} {h1 : mm_H} (hd : decode cc pc = .ok (.putfield index, 3)) (hf : FP own index ci k ty true) (hn : narrow ty v = v) (hfit : fits ty v = true) (e : wrF h n a ci k v = some h1) (kk : WW w G nL mc ms Q (pc + 3) L st h1 n kc ks) : WW w G nL mc ms Q pc L (v :: .ref a :: st) h n kc ks := by
  obtain ⟨ha, h2, fs, he, hl⟩ := wrF_s e
  subst h2
  exact rr_putFS C hd hf ha he hl hn hfit kk
end MMN

/-! ===== reads and writes of a heap, as far as they come through; the rows that take them ===== -/
def inb (i : Int32) (N : Nat) : Bool := decide (0 ≤ i.toInt) && decide (i.toInt < N)
theorem inb_vp {i : Int32} {N : Nat} (h : inb i N = true) : vp_in i N := by
  unfold inb at h
  simp only [Bool.and_eq_true, decide_eq_true_eq] at h
  exact vp_in_c h.1 h.2
def rdI (h : mm_H) (n a ci k : Nat) : Option Int32 := if 48 ≤ a ∧ a < n then (match h a with
  | .inr (c, fs) => if c = ci then (match fs[k]? with
    | some (.int x) => some x
    | _ => none) else none
  | _ => none) else none
theorem rdI_s {h : mm_H} {n a ci k : Nat} {v : Int32} (e : rdI h n a ci k = some v) : (48 ≤ a ∧ a < n) ∧ ∃ fs, h a = .inr (ci, fs) ∧ fs[k]? = some (.int v) := by
  unfold rdI at e
  split at e
  · rename_i hc
    split at e
    · rename_i c fs ho
      split at e
      · rename_i h1
        split at e
        · rename_i x hx
          cases e
          subst h1
          exact ⟨hc, fs, ho, hx⟩
        · cases e
      · cases e
    · cases e
  · cases e
def rdJ (h : mm_H) (n a ci k : Nat) : Option Int64 := if 48 ≤ a ∧ a < n then (match h a with
  | .inr (c, fs) => if c = ci then (match fs[k]? with
    | some (.long x) => some x
    | _ => none) else none
  | _ => none) else none
theorem rdJ_s {h : mm_H} {n a ci k : Nat} {v : Int64} (e : rdJ h n a ci k = some v) : (48 ≤ a ∧ a < n) ∧ ∃ fs, h a = .inr (ci, fs) ∧ fs[k]? = some (.long v) := by
  unfold rdJ at e
  split at e
  · rename_i hc
    split at e
    · rename_i c fs ho
      split at e
      · rename_i h1
        split at e
        · rename_i x hx
          cases e
          subst h1
          exact ⟨hc, fs, ho, hx⟩
        · cases e
      · cases e
    · cases e
  · cases e
def rdR (h : mm_H) (n a ci k : Nat) : Option (Option Nat) := if 48 ≤ a ∧ a < n then (match h a with
  | .inr (c, fs) => if c = ci then (match fs[k]? with
    | some (.ref x) => some (some x)
    | some .null => some none
    | _ => none) else none
  | _ => none) else none
theorem rdR_s {h : mm_H} {n a ci k : Nat} {v : Option Nat} (e : rdR h n a ci k = some v) : (48 ≤ a ∧ a < n) ∧ ∃ fs, h a = .inr (ci, fs) ∧ fs[k]? = some (va_rf v) := by
  unfold rdR at e
  split at e
  · rename_i hc
    split at e
    · rename_i c fs ho
      split at e
      · rename_i h1
        split at e
        · rename_i x hx
          cases e
          subst h1
          exact ⟨hc, fs, ho, hx⟩
        · rename_i hx
          cases e
          subst h1
          exact ⟨hc, fs, ho, hx⟩
        · cases e
      · cases e
    · cases e
  · cases e
def ldI (h : mm_H) (n a : Nat) (i : Int32) : Option Int32 := if a < n then (match h a with
  | .inl (.int, N, .inl f) => if inb i N = true then some (f i.toNatClampNeg) else none
  | _ => none) else none
theorem ldI_s {h : mm_H} {n a : Nat} {i : Int32} {v : Int32} (e : ldI h n a i = some v) : (a < n) ∧ ∃ N f, h a = .inl (.int, N, .inl f) ∧ vp_in i N ∧ f i.toNatClampNeg = v := by
  unfold ldI at e
  split at e
  · rename_i hc
    split at e
    · rename_i N f hx
      split at e
      · rename_i hi
        cases e
        exact ⟨hc, N, f, hx, inb_vp hi, rfl⟩
      · cases e
    · cases e
  · cases e
def ldB (h : mm_H) (n a : Nat) (i : Int32) : Option Int32 := if a < n then (match h a with
  | .inl (.byte, N, .inl f) => if inb i N = true then some (f i.toNatClampNeg) else none
  | _ => none) else none
theorem ldB_s {h : mm_H} {n a : Nat} {i : Int32} {v : Int32} (e : ldB h n a i = some v) : (a < n) ∧ ∃ N f, h a = .inl (.byte, N, .inl f) ∧ vp_in i N ∧ f i.toNatClampNeg = v := by
  unfold ldB at e
  split at e
  · rename_i hc
    split at e
    · rename_i N f hx
      split at e
      · rename_i hi
        cases e
        exact ⟨hc, N, f, hx, inb_vp hi, rfl⟩
      · cases e
    · cases e
  · cases e
def ldJ (h : mm_H) (n a : Nat) (i : Int32) : Option Int64 := if 48 ≤ a ∧ a < n then (match h a with
  | .inl (.long, N, .inr (.inl f)) => if inb i N = true then some (f i.toNatClampNeg) else none
  | _ => none) else none
theorem ldJ_s {h : mm_H} {n a : Nat} {i : Int32} {v : Int64} (e : ldJ h n a i = some v) : (48 ≤ a ∧ a < n) ∧ ∃ N f, h a = .inl (.long, N, .inr (.inl f)) ∧ vp_in i N ∧ f i.toNatClampNeg = v := by
  unfold ldJ at e
  split at e
  · rename_i hc
    split at e
    · rename_i N f hx
      split at e
      · rename_i hi
        cases e
        exact ⟨hc, N, f, hx, inb_vp hi, rfl⟩
      · cases e
    · cases e
  · cases e
def ldR (h : mm_H) (n a t0 : Nat) (i : Int32) : Option (Option Nat) := if 48 ≤ a ∧ a < n then (match h a with
  | .inl (ty, N, .inr (.inr (.inr (.inr f)))) => if mm_tys[t0]? = some ty ∧ ty.isReference = true ∧ inb i N = true then some (f i.toNatClampNeg) else none
  | _ => none) else none
theorem ldR_s {h : mm_H} {n a t0 : Nat} {i : Int32} {v : Option Nat} (e : ldR h n a t0 i = some v) : (48 ≤ a ∧ a < n) ∧ ∃ ty N f, h a = .inl (ty, N, .inr (.inr (.inr (.inr f)))) ∧ mm_tys[t0]? = some ty ∧ ty.isReference = true ∧ vp_in i N ∧ f i.toNatClampNeg = v := by
  unfold ldR at e
  split at e
  · rename_i hc
    split at e
    · rename_i ty N f hx
      split at e
      · rename_i hi
        cases e
        exact ⟨hc, ty, N, f, hx, hi.1, hi.2.1, inb_vp hi.2.2, rfl⟩
      · cases e
    · cases e
  · cases e
/-- an own array's length; an outer int array's length -/
def lenA (h : mm_H) (n a t0 : Nat) : Option Int32 := if 48 ≤ a ∧ a < n then (match h a with
  | .inl (ty, x) => if mm_tys[t0]? = some ty then some (Int32.ofNat x.1) else none
  | _ => none) else if a < 48 ∨ 1000000 ≤ a then (match h a with
  | .inl (.int, N, .inl _) => some (Int32.ofNat N)
  | .inl (.byte, N, .inl _) => some (Int32.ofNat N)
  | _ => none) else none
theorem lenA_s {h : mm_H} {n a t0 : Nat} {v : Int32} (e : lenA h n a t0 = some v) : ((48 ≤ a ∧ a < n) ∧ ∃ ty x, h a = .inl (ty, x) ∧ mm_tys[t0]? = some ty ∧ Int32.ofNat x.1 = v) ∨ ((a < 48 ∨ 1000000 ≤ a) ∧ ∃ N ty f, (ty = .int ∨ ty = .byte) ∧ h a = .inl (ty, N, .inl f) ∧ Int32.ofNat N = v) := by
  unfold lenA at e
  split at e
  · rename_i hc
    split at e
    · rename_i ty x hx
      split at e
      · rename_i hi
        cases e
        exact Or.inl ⟨hc, ty, x, hx, hi, rfl⟩
      · cases e
    · cases e
  · split at e
    · rename_i hc
      split at e
      · rename_i N f hx
        cases e
        exact Or.inr ⟨hc, N, .int, f, Or.inl rfl, hx, rfl⟩
      · rename_i N f hx
        cases e
        exact Or.inr ⟨hc, N, .byte, f, Or.inr rfl, hx, rfl⟩
      · cases e
    · cases e
def wrF (h : mm_H) (n a ci k : Nat) (v : Value) : Option mm_H := if 48 ≤ a ∧ a < n then (match h a with
  | .inr (c, fs) => if c = ci ∧ k < fs.length then some (mm_sf h a k v) else none
  | _ => none) else none
theorem wrF_s {h h1 : mm_H} {n a ci k : Nat} {v : Value} (e : wrF h n a ci k v = some h1) : (48 ≤ a ∧ a < n) ∧ h1 = mm_sf h a k v ∧ ∃ fs, h a = .inr (ci, fs) ∧ k < fs.length := by
  unfold wrF at e
  split at e
  · rename_i hc
    split at e
    · rename_i c fs ho
      split at e
      · rename_i h2
        cases e
        obtain ⟨h3, h4⟩ := h2
        subst h3
        exact ⟨hc, rfl, fs, ho, h4⟩
      · cases e
    · cases e
  · cases e
def stI (h : mm_H) (n a : Nat) (i : Int32) (x : Int32) : Option mm_H := if 48 ≤ a ∧ a < n then (match h a with
  | .inl (.int, N, .inl _) => if inb i N = true then some (mm_si h a i.toNatClampNeg x) else none
  | _ => none) else none
theorem stI_s {h h1 : mm_H} {n a : Nat} {i : Int32} {x : Int32} (e : stI h n a i x = some h1) : (48 ≤ a ∧ a < n) ∧ h1 = mm_si h a i.toNatClampNeg x ∧ ∃ N f, h a = .inl (.int, N, .inl f) ∧ vp_in i N := by
  unfold stI at e
  split at e
  · rename_i hc
    split at e
    · rename_i N f hx
      split at e
      · rename_i hi
        cases e
        exact ⟨hc, rfl, N, f, hx, inb_vp hi⟩
      · cases e
    · cases e
  · cases e
def stB (h : mm_H) (n a : Nat) (i : Int32) (x : Int32) : Option mm_H := if 48 ≤ a ∧ a < n then (match h a with
  | .inl (.byte, N, .inl _) => if inb i N = true then some (mm_si h a i.toNatClampNeg (vp_nar .byte x)) else none
  | _ => none) else none
theorem stB_s {h h1 : mm_H} {n a : Nat} {i : Int32} {x : Int32} (e : stB h n a i x = some h1) : (48 ≤ a ∧ a < n) ∧ h1 = mm_si h a i.toNatClampNeg (vp_nar .byte x) ∧ ∃ N f, h a = .inl (.byte, N, .inl f) ∧ vp_in i N := by
  unfold stB at e
  split at e
  · rename_i hc
    split at e
    · rename_i N f hx
      split at e
      · rename_i hi
        cases e
        exact ⟨hc, rfl, N, f, hx, inb_vp hi⟩
      · cases e
    · cases e
  · cases e
def stJ (h : mm_H) (n a : Nat) (i : Int32) (x : Int64) : Option mm_H := if 48 ≤ a ∧ a < n then (match h a with
  | .inl (.long, N, .inr (.inl _)) => if inb i N = true then some (mm_sj h a i.toNatClampNeg x) else none
  | _ => none) else none
theorem stJ_s {h h1 : mm_H} {n a : Nat} {i : Int32} {x : Int64} (e : stJ h n a i x = some h1) : (48 ≤ a ∧ a < n) ∧ h1 = mm_sj h a i.toNatClampNeg x ∧ ∃ N f, h a = .inl (.long, N, .inr (.inl f)) ∧ vp_in i N := by
  unfold stJ at e
  split at e
  · rename_i hc
    split at e
    · rename_i N f hx
      split at e
      · rename_i hi
        cases e
        exact ⟨hc, rfl, N, f, hx, inb_vp hi⟩
      · cases e
    · cases e
  · cases e
def ckr (h : mm_H) (n b : Nat) (ci : Nat) : Bool := decide (48 ≤ b) && decide (b < n) && (match h b with
  | .inr (c, _) => decide (c = ci)
  | _ => false)
theorem ckr_s {h : mm_H} {n b ci : Nat} (e : ckr h n b ci = true) : (48 ≤ b ∧ b < n) ∧ ∃ fs, h b = .inr (ci, fs) := by
  unfold ckr at e
  simp only [Bool.and_eq_true, decide_eq_true_eq] at e
  obtain ⟨⟨e1, e2⟩, e3⟩ := e
  split at e3
  · rename_i c fs hb
    rw [decide_eq_true_eq] at e3
    subst e3
    exact ⟨⟨e1, e2⟩, fs, hb⟩
  · cases e3
/-- a reference into an array of objects of class ci (its type the t0-th) -/
def stR (h : mm_H) (n a t0 ci : Nat) (i : Int32) (b : Nat) : Option mm_H := if 48 ≤ a ∧ a < n then (match h a with
  | .inl (ty, N, .inr (.inr (.inr (.inr _)))) => if mm_tys[t0]? = some ty ∧ inb i N = true ∧ ckr h n b ci = true then some (mm_sr h a i.toNatClampNeg (some b)) else none
  | _ => none) else none
theorem stR_s {h h1 : mm_H} {n a t0 ci b : Nat} {i : Int32} (e : stR h n a t0 ci i b = some h1) : (48 ≤ a ∧ a < n) ∧ h1 = mm_sr h a i.toNatClampNeg (some b) ∧ ∃ ty N f, h a = .inl (ty, N, .inr (.inr (.inr (.inr f)))) ∧ mm_tys[t0]? = some ty ∧ vp_in i N ∧ ckr h n b ci = true := by
  unfold stR at e
  split at e
  · rename_i hc
    split at e
    · rename_i ty N f hx
      split at e
      · rename_i hi
        cases e
        exact ⟨hc, rfl, ty, N, f, hx, hi.1, inb_vp hi.2.1, hi.2.2⟩
      · cases e
    · cases e
  · cases e
/-- null into an array of objects -/
def stRN (h : mm_H) (n a t0 : Nat) (i : Int32) : Option mm_H := if 48 ≤ a ∧ a < n then (match h a with
  | .inl (.object c, N, .inr (.inr (.inr (.inr _)))) => if mm_tys[t0]? = some (.object c) ∧ inb i N = true then some (mm_sr h a i.toNatClampNeg none) else none
  | _ => none) else none
def mm_keep (m : List Bool) (L : List (Option Value)) : List (Option Value) := match m, L with
  | [], L => L
  | _, [] => []
  | true :: m, v :: L => v :: mm_keep m L
  | false :: m, _ :: L => none :: mm_keep m L
theorem mm_keep_len : ∀ (m : List Bool) (L : List (Option Value)), (mm_keep m L).length = L.length
  | [], L => by cases L <;> rfl
  | _ :: _, [] => rfl
  | true :: m, v :: L => by show (mm_keep m L).length + 1 = L.length + 1; rw [mm_keep_len m L]
  | false :: m, v :: L => by show (mm_keep m L).length + 1 = L.length + 1; rw [mm_keep_len m L]
theorem mm_keep_at : ∀ (m : List Bool) (L : List (Option Value)) (i : Nat) (v : Value), (mm_keep m L)[i]? = some (some v) → L[i]? = some (some v)
  | [], L, i, v, h => by cases L <;> exact h
  | _ :: _, [], i, v, h => by cases h
  | true :: m, x :: L, 0, v, h => h
  | true :: m, x :: L, i + 1, v, h => mm_keep_at m L i v h
  | false :: m, x :: L, 0, v, h => by cases h
  | false :: m, x :: L, i + 1, v, h => mm_keep_at m L i v h
section MMP
variable {w : mm_X} {G : mm_G} {cc : ByteArray} {own nm : String} {nL mc ms d pc n kc ks : Nat} {ret : Option FieldType} {Q : State → Prop} {L : List (Option Value)} {st : List Value} {h : mm_H}
theorem rr_keep (m : List Bool) (kk : WW w G nL mc ms Q pc (mm_keep m L) st h n kc ks) : WW w G nL mc ms Q pc L st h n kc ks := rr_sub (mm_keep_len m L) (mm_keep_at m L) kk
theorem rr_rdI (C : mm_C w G cc own nL mc ms ret d nm) {index ci k a : Nat} {v : Int32} (hd : decode cc pc = .ok (.getfield index, 3)) (hf : FL own index ci k) (e : rdI h n a ci k = some v) (kk : WW w G nL mc ms Q (pc + 3) L (.int v :: st) h n kc ks) : WW w G nL mc ms Q pc L (.ref a :: st) h n kc ks := by
  obtain ⟨ha, fs, he, hv⟩ := rdI_s e
  exact rr_get C hd hf ha he hv kk
theorem rr_rdJ (C : mm_C w G cc own nL mc ms ret d nm) {index ci k a : Nat} {v : Int64} (hd : decode cc pc = .ok (.getfield index, 3)) (hf : FL own index ci k) (e : rdJ h n a ci k = some v) (kk : WW w G nL mc ms Q (pc + 3) L (.long v :: st) h n kc ks) : WW w G nL mc ms Q pc L (.ref a :: st) h n kc ks := by
  obtain ⟨ha, fs, he, hv⟩ := rdJ_s e
  exact rr_get C hd hf ha he hv kk
theorem rr_rdR (C : mm_C w G cc own nL mc ms ret d nm) {index ci k a : Nat} {v : Option Nat} (hd : decode cc pc = .ok (.getfield index, 3)) (hf : FL own index ci k) (e : rdR h n a ci k = some v) (kk : WW w G nL mc ms Q (pc + 3) L (va_rf v :: st) h n kc ks) : WW w G nL mc ms Q pc L (.ref a :: st) h n kc ks := by
  obtain ⟨ha, fs, he, hv⟩ := rdR_s e
  exact rr_get C hd hf ha he hv kk
theorem rr_ldI (C : mm_C w G cc own nL mc ms ret d nm) {a : Nat} {i : Int32} {v : Int32} (hd : decode cc pc = .ok (.iaload, 1)) (e : ldI h n a i = some v) (kk : WW w G nL mc ms Q (pc + 1) L (.int v :: st) h n kc ks) : WW w G nL mc ms Q pc L (.int i :: .ref a :: st) h n kc ks := by
  obtain ⟨ha, N, f, he, hi, hv⟩ := ldI_s e
  subst hv
  exact rr_iald C hd ha he hi kk
theorem rr_ldB (C : mm_C w G cc own nL mc ms ret d nm) {a : Nat} {i : Int32} {v : Int32} (hd : decode cc pc = .ok (.baload, 1)) (e : ldB h n a i = some v) (kk : WW w G nL mc ms Q (pc + 1) L (.int v :: st) h n kc ks) : WW w G nL mc ms Q pc L (.int i :: .ref a :: st) h n kc ks := by
  obtain ⟨ha, N, f, he, hi, hv⟩ := ldB_s e
  subst hv
  exact rr_bald C hd ha he hi kk
theorem rr_ldJ (C : mm_C w G cc own nL mc ms ret d nm) {a : Nat} {i : Int32} {v : Int64} (hd : decode cc pc = .ok (.laload, 1)) (e : ldJ h n a i = some v) (kk : WW w G nL mc ms Q (pc + 1) L (.long v :: st) h n kc ks) : WW w G nL mc ms Q pc L (.int i :: .ref a :: st) h n kc ks := by
  obtain ⟨ha, N, f, he, hi, hv⟩ := ldJ_s e
  subst hv
  exact rr_lald C hd ha he hi kk
theorem rr_ldR (C : mm_C w G cc own nL mc ms ret d nm) {a t0 : Nat} {i : Int32} {v : Option Nat} (hd : decode cc pc = .ok (.aaload, 1)) (e : ldR h n a t0 i = some v) (kk : WW w G nL mc ms Q (pc + 1) L (va_rf v :: st) h n kc ks) : WW w G nL mc ms Q pc L (.int i :: .ref a :: st) h n kc ks := by
  obtain ⟨ha, ty, N, f, he, ht, hr, hi, hv⟩ := ldR_s e
  subst hv
  exact rr_aald C hd ha he ht hr hi kk
theorem rr_lenA (C : mm_C w G cc own nL mc ms ret d nm) {a t0 : Nat} {v : Int32} (hd : decode cc pc = .ok (.arraylength, 1)) (e : lenA h n a t0 = some v) (kk : WW w G nL mc ms Q (pc + 1) L (.int v :: st) h n kc ks) : WW w G nL mc ms Q pc L (.ref a :: st) h n kc ks := by
  rcases lenA_s e with ⟨ha, ty, x, he, ht, hv⟩ | ⟨ha, N, ty, f, ht, he, hv⟩
  · exact rr_alen C hd ha he ht hv kk
  · exact rr_alenO C hd ha ht he hv kk
theorem rr_wrF (C : mm_C w G cc own nL mc ms ret d nm) {index ci k a : Nat} {v : Value} {ty : FieldType} {h1 : mm_H} (hd : decode cc pc = .ok (.putfield index, 3)) (hf : FP own index ci k ty false) (hn : narrow ty v = v) (hfit : fits ty v = true) (e : wrF h n a ci k v = some h1) (kk : WW w G nL mc ms Q (pc + 3) L st h1 n kc ks) : WW w G nL mc ms Q pc L (v :: .ref a :: st) h n kc ks := by
  obtain ⟨ha, h2, fs, he, hl⟩ := wrF_s e
  subst h2
  exact rr_putS C hd hf ha he hl hn hfit kk
theorem rr_stI (C : mm_C w G cc own nL mc ms ret d nm) {a : Nat} {i : Int32} {x : Int32} {h1 : mm_H} (hd : decode cc pc = .ok (.iastore, 1)) (e : stI h n a i x = some h1) (kk : WW w G nL mc ms Q (pc + 1) L st h1 n kc ks) : WW w G nL mc ms Q pc L (.int x :: .int i :: .ref a :: st) h n kc ks := by
  obtain ⟨ha, h2, N, f, he, hi⟩ := stI_s e
  subst h2
  exact rr_iastS C hd ha he hi rfl kk
theorem rr_stB (C : mm_C w G cc own nL mc ms ret d nm) {a : Nat} {i : Int32} {x : Int32} {h1 : mm_H} (hd : decode cc pc = .ok (.bastore, 1)) (e : stB h n a i x = some h1) (kk : WW w G nL mc ms Q (pc + 1) L st h1 n kc ks) : WW w G nL mc ms Q pc L (.int x :: .int i :: .ref a :: st) h n kc ks := by
  obtain ⟨ha, h2, N, f, he, hi⟩ := stB_s e
  subst h2
  exact rr_bastS C hd ha he hi rfl kk
theorem rr_stJ (C : mm_C w G cc own nL mc ms ret d nm) {a : Nat} {i : Int32} {x : Int64} {h1 : mm_H} (hd : decode cc pc = .ok (.lastore, 1)) (e : stJ h n a i x = some h1) (kk : WW w G nL mc ms Q (pc + 1) L st h1 n kc ks) : WW w G nL mc ms Q pc L (.long x :: .int i :: .ref a :: st) h n kc ks := by
  obtain ⟨ha, h2, N, f, he, hi⟩ := stJ_s e
  subst h2
  exact rr_lastS C hd ha he hi rfl kk
theorem rr_stR (C : mm_C w G cc own nL mc ms ret d nm) {a b t0 ci : Nat} {Cn : String} {T : u_T} {M : Nat} {i : Int32} {h1 : mm_H} (hd : decode cc pc = .ok (.aastore, 1)) (ht : mm_tys[t0]? = some (.object Cn)) (hcl : vwCl[ci]? = some (Cn, T, M)) (e : stR h n a t0 ci i b = some h1) (kk : WW w G nL mc ms Q (pc + 1) L st h1 n kc ks) : WW w G nL mc ms Q pc L (.ref b :: .int i :: .ref a :: st) h n kc ks := by
  obtain ⟨ha, h2, ty, N, f, he, ht2, hi, hb⟩ := stR_s e
  subst h2
  obtain ⟨hb1, fs, hb2⟩ := ckr_s hb
  have hty : ty = .object Cn := Option.some.inj (ht2.symm.trans ht)
  subst hty
  exact rr_aast C hd ha he ht hb1 hb2 hcl hi (by rw [mm_sr_eq he]; exact kk)
/-- a reference that may be null, off the locals and onto them -/
theorem rr_aload_nO (C : mm_C w G cc own nL mc ms ret d nm) {j : Fin 4} {i : Nat} {r : Option Nat} (hd : decode cc pc = .ok (.aload_n j, 1)) (hi : (j : Nat) = i) (hl : L[i]? = some (some (va_rf r))) (kk : WW w G nL mc ms Q (pc + 1) L (va_rf r :: st) h n kc ks) : WW w G nL mc ms Q pc L st h n kc ks := by
  cases r
  · exact rr_aload_nN C hd hi hl kk
  · exact rr_aload_n C hd hi hl kk
theorem rr_aloadO (C : mm_C w G cc own nL mc ms ret d nm) {i : Nat} {r : Option Nat} (hd : decode cc pc = .ok (.aload i, 2)) (hl : L[i]? = some (some (va_rf r))) (kk : WW w G nL mc ms Q (pc + 2) L (va_rf r :: st) h n kc ks) : WW w G nL mc ms Q pc L st h n kc ks := by
  cases r
  · exact rr_aloadN C hd hl kk
  · exact rr_aload C hd hl kk
theorem rr_astore_nO (C : mm_C w G cc own nL mc ms ret d nm) {j : Fin 4} {i : Nat} {r : Option Nat} (hd : decode cc pc = .ok (.astore_n j, 1)) (hi : (j : Nat) = i) (hn : i < nL) (kk : WW w G nL mc ms Q (pc + 1) (mm_set1 L i (va_rf r)) st h n kc ks) : WW w G nL mc ms Q pc L (va_rf r :: st) h n kc ks := by
  cases r
  · exact rr_astore_nN C hd hi hn kk
  · exact rr_astore_n C hd hi hn kk
theorem rr_astoreO (C : mm_C w G cc own nL mc ms ret d nm) {i : Nat} {r : Option Nat} (hd : decode cc pc = .ok (.astore i, 2)) (hn : i < nL) (kk : WW w G nL mc ms Q (pc + 2) (mm_set1 L i (va_rf r)) st h n kc ks) : WW w G nL mc ms Q pc L (va_rf r :: st) h n kc ks := by
  cases r
  · exact rr_astoreN C hd hn kk
  · exact rr_astore C hd hn kk
end MMP
def ckq (h : mm_H) (n a ci : Nat) : Option Unit := if ckr h n a ci = true then some () else none
theorem ckq_s {h : mm_H} {n a ci : Nat} {u : Unit} (e : ckq h n a ci = some u) : (48 ≤ a ∧ a < n) ∧ ∃ fs, h a = .inr (ci, fs) := by
  unfold ckq at e
  split at e
  · rename_i hc
    exact ckr_s hc
  · cases e
def ckn (ty : FieldType) (x : Int32) : Option Unit := if narrow ty (.int x) = .int x then some () else none
theorem ckn_s {ty : FieldType} {x : Int32} {u : Unit} (e : ckn ty x = some u) : narrow ty (.int x) = .int x := by
  unfold ckn at e
  split at e
  · rename_i hc
    exact hc
  · cases e
def ckz (x : Int32) : Option Unit := if x = 0 ∨ x = 1 then some () else none
theorem ckz_s {x : Int32} {u : Unit} (e : ckz x = some u) : narrow .boolean (.int x) = .int x := by
  unfold ckz at e
  split at e
  · rename_i hc
    rcases hc with rfl | rfl <;> rfl
  · cases e
theorem ckz_f {x : Int32} {u : Unit} (e : ckz x = some u) : fits .boolean (.int x) = true := by
  unfold ckz at e
  split at e
  · rename_i hc
    rcases hc with rfl | rfl <;> rfl
  · cases e
theorem na_rf (ty : FieldType) (r : Option Nat) : narrow ty (va_rf r) = va_rf r := by cases r <;> cases ty <;> rfl
theorem fi_rf {ty : FieldType} (h : ty.isReference = true) (r : Option Nat) : fits ty (va_rf r) = true := by
  cases ty <;> first | (cases r <;> rfl) | cases h
section MMQ
variable {w : mm_X} {G : mm_G} {cc : ByteArray} {own nm : String} {nL mc ms d pc n kc ks : Nat} {ret : Option FieldType} {Q : State → Prop} {L : List (Option Value)} {st : List Value} {h : mm_H}
theorem rr_callVq (C : mm_C w G cc own nL mc ms ret d nm) {y : MethodName} {cc' : ByteArray} {nL' d' mc' ms' index a ci : Nat} {ret' : Option FieldType} {as : List Value} {po : Option Value → mm_H → Nat → Prop} {T : u_T} {N : Nat} {u : Unit} (hd : decode cc pc = .ok (.invokevirtual index, 3)) (hw : IV own index y cc' nL' ret' as.length) (hdd : d' + 1 ≤ d) (ek : ckq h n a ci = some u) (hcl : vwCl[ci]? = some (y.cls, T, N)) (hst : (st.map fun v => v.category).sum ≤ 8)
    (hM : Sp G w.2.1 y cc' nL' ret' d' mc' ms' (.ref a :: as) h n po) (kk : ∀ (v : Option Value) (h' : mm_H) (n' : Nat), po v h' n' → WW w G nL mc ms Q (pc + 3) L (v.toList ++ st) h' n' kc ks) : WW w G nL mc ms Q pc L (as.reverse ++ .ref a :: st) h n (kc + mc') (ks + ms') := by
  obtain ⟨ha, fs, he⟩ := ckq_s ek
  exact rr_callV C hd hw hdd ha he hcl hst hM kk
theorem rr_callVS (C : mm_C w G cc own nL mc ms ret d nm) {y : MethodName} {cc' : ByteArray} {nL' d' mc' ms' index a : Nat} {ret' : Option FieldType} {as : List Value} {po : Option Value → mm_H → Nat → Prop} {u : Unit} (hd : decode cc pc = .ok (.invokevirtual index, 3)) (hw : IV own index y cc' nL' ret' as.length) (hy : y.cls = "java/lang/String") (hdd : d' + 1 ≤ d) (ek : ckS h n a = some u) (hst : (st.map fun v => v.category).sum ≤ 8)
    (hM : Sp G w.2.1 y cc' nL' ret' d' mc' ms' (.ref a :: as) h n po) (kk : ∀ (v : Option Value) (h' : mm_H) (n' : Nat), po v h' n' → WW w G nL mc ms Q (pc + 3) L (v.toList ++ st) h' n' kc ks) : WW w G nL mc ms Q pc L (as.reverse ++ .ref a :: st) h n (kc + mc') (ks + ms') := by
  obtain ⟨p, l, e, R, s, m, args, below, meth, c⟩ := w
  intro ls H locs cells slots hL hR hS hc hs
  obtain ⟨w1, w2, w3, w4, w5, w6, w7⟩ := hw
  have hmc := C.2.2.2.2.2.2.2.2.2.1
  have hms := C.2.2.2.2.2.2.2.2.2.2.1
  have hfr := C.2.2.2.2.2.2.2.2.2.2.2.1
  have hlo := C.2.2.2.2.2.2.2.2.2.2.2.2.1
  have hrec : ∃ cell : Cell, H[mm_a G a]? = some cell ∧ cell.vm.isStatics = false ∧ s.vm.findClass y.cls = some cell.cls := by
    rw [hy]
    rcases ckS_s ek with ⟨i, hi, rfl⟩ | ⟨i, hi, rfl⟩ | ⟨ha, fs, he⟩
    · obtain ⟨-, -, -, -, -, -, hV, -⟩ := C.2.2.2.2.2.2.1
      rw [mm_out (Or.inl (by omega : 3 + i < 48))]
      exact mm_VS.recv (i := i) hV (by omega) hS
    · have hV := C.2.2.2.2.2.2.1.1.1
      rw [mm_out (Or.inr (by omega : 1000000 ≤ 1000000 + i))]
      exact mm_VS.recv (i := i) hV (by omega) hS
    · have h1 := hR.2.2.1 a ha.1 ha.2
      rw [he] at h1
      exact va_recv (q := (RJ0, TJ0, 4)) C.2.2.2.2.2.1 (mm_one h1) rfl (q0 := 0) rfl
  have cw : CallW R s args own y.cls index y cc' nL' ret' (.code y cc' nL' ret' :: mm_tbl) { frames := d', cells := mc', slots := ms', locals := 64 * d' } mc' ms' as.length :=
    ⟨callB_of as.length C.2.2.2.2.1 (mm_good w5) rfl rfl rfl (C.2.2.2.2.1 _ w4) (C.2.2.2.2.1 _ w1) w6 ⟨by show d' + 1 ≤ R.frames; omega, by show 8 + (nL' + 11) + 64 * d' ≤ R.locals; omega⟩, C.2.2.2.2.1 _ w2, C.2.2.2.2.1 _ w3⟩
  refine mm_back (rest := st) (va_runV (As := as.map (mm_v G)) (rest := st.map (mm_v G)) (b := mm_a G (a)) ⟨C.1, C.2.1, C.2.2.1, C.2.2.2.1, C.2.2.2.2.1⟩ hM cw ⟨mm_B.blind, hrec, fun U hU hW => ⟨rfl, by rw [hU]; exact hR, va_K.moved hW.alike C.2.2.2.2.2.1, mm_warm C.2.2.2.2.2.2.1 hS hU hW⟩⟩ rfl (by rw [List.length_map]) hL.1 ?_ (lv_room (by rw [mm_cats]; exact hst)) hd ⟨by omega, by omega⟩) hL hS hc hs kk
  show (as.reverse ++ .ref (a) :: st).map (mm_v G) = _
  rw [List.map_append, List.map_reverse]
  rfl
end MMQ
theorem sl_J0_38 : Cond.fieldLink RJ0 38 "java/lang/String" "COMPACT_STRINGS" "Z" ∈ mm_tbl := (mm_of_tbl (mm_t2 (List.mem_of_getElem? (l := tables_1_2) (i := 211) (by decide +kernel))) rfl)
theorem sl_J0_1053 : Cond.fieldLink RJ0 1053 "jdk/internal/util/Preconditions" "SIOOBE_FORMATTER" "Ljava/util/function/BiFunction;" ∈ mm_tbl := (mm_of_tbl (mm_t2 (List.mem_of_getElem? (l := tables_1_2) (i := 227) (by decide +kernel))) rfl)
theorem sl_J5_18 : Cond.fieldLink RJ5 18 "java/lang/String" "COMPACT_STRINGS" "Z" ∈ mm_tbl := (mm_of_tbl (mm_t5 (List.mem_of_getElem? (l := tables_1_5) (i := 35) (by decide +kernel))) rfl)
theorem sl_J6_83 : Cond.fieldLink RJ6 83 "java/lang/Integer" "DigitOnes" "[B" ∈ mm_tbl := (mm_of_tbl (mm_t5 (List.mem_of_getElem? (l := tables_1_5) (i := 160) (by decide +kernel))) rfl)
theorem sl_J6_87 : Cond.fieldLink RJ6 87 "java/lang/Integer" "DigitTens" "[B" ∈ mm_tbl := (mm_of_tbl (mm_t5 (List.mem_of_getElem? (l := tables_1_5) (i := 162) (by decide +kernel))) rfl)
theorem sl_J2_403 : Cond.fieldLink RJ2 403 "java/lang/Integer" "DigitOnes" "[B" ∈ mm_tbl := (mm_of_tbl (mm_t5 (List.mem_of_getElem? (l := tables_1_5) (i := 170) (by decide +kernel))) rfl)
theorem sl_J2_407 : Cond.fieldLink RJ2 407 "java/lang/Integer" "DigitTens" "[B" ∈ mm_tbl := (mm_of_tbl (mm_t5 (List.mem_of_getElem? (l := tables_1_5) (i := 171) (by decide +kernel))) rfl)
theorem sl_J0_9 : Cond.fieldLink RJ0 9 "java/lang/String" "value" "[B" ∈ mm_tbl := (mm_of_tbl (mm_t5 (List.mem_of_getElem? (l := tables_1_5) (i := 218) (by decide +kernel))) rfl)
theorem sl_J0_15 : Cond.fieldLink RJ0 15 "java/lang/String" "coder" "B" ∈ mm_tbl := (mm_of_tbl (mm_t5 (List.mem_of_getElem? (l := tables_1_5) (i := 219) (by decide +kernel))) rfl)
theorem rf_cat (r : Option Nat) : (va_rf r).category = 1 := by cases r <;> rfl
theorem mm_set1_rf {L : List (Option Value)} {i : Nat} {r : Option Nat} {v : Value} (h : L[i]? = some (some (va_rf r))) : mm_set1 L (i + 1) v = L.set (i + 1) (some v) := by
  have hk : mm_kill L (i + 1) = L := by
    show mm_kil L i = L
    unfold mm_kil
    rw [h]
    cases r <;> rfl
  unfold mm_set1
  rw [hk]
theorem mm_set2_rf {L : List (Option Value)} {i : Nat} {r : Option Nat} {v : Value} (h : L[i]? = some (some (va_rf r))) : mm_set2 L (i + 1) v = (L.set (i + 1) (some v)).set (i + 1 + 1) none := by
  have hk : mm_kill L (i + 1) = L := by
    show mm_kil L i = L
    unfold mm_kil
    rw [h]
    cases r <;> rfl
  unfold mm_set2
  rw [hk]
def i_max (x y : Int32) : Int32 := if x < y then y else x
def i_min (x y : Int32) : Int32 := if y < x then y else x
def i_abs (x : Int32) : Int32 := if 0 ≤ x then x else 0 - x
def j_max (x y : Int64) : Int64 := if y < x then x else y
def j_min (x y : Int64) : Int64 := if y < x then y else x
def j_abs (x : Int64) : Int64 := if 0 < x then x else -x
def MW (own : String) (index : Nat) (y : MethodName) (cc : ByteArray) (nL : Nat) (ret : Option FieldType) : Prop := Cond.methodLink own index y ∈ mm_tbl ∧ Cond.static y ∈ mm_tbl ∧ Cond.initialized "java/lang/Math" ∈ mm_tbl ∧ Cond.code y cc nL ret ∈ mm_tbl
section MMM
variable {w : mm_X} {G : mm_G} {cc : ByteArray} {own nm : String} {nL mc ms d pc n kc ks : Nat} {ret : Option FieldType} {Q : State → Prop} {L : List (Option Value)} {st : List Value} {h : mm_H}
theorem rr_mmax (C : mm_C w G cc own nL mc ms ret d nm) {index : Nat} {x y : Int32} (hd : decode cc pc = .ok (.invokestatic index, 3)) (hw : MW own index Lib.Math.max.name Lib.Math.max.code 2 (some .int)) (hdd : 1 ≤ d) (hst : (st.map fun v => v.category).sum ≤ 8) (kk : WW w G nL mc ms Q (pc + 3) L (.int (i_max x y) :: st) h n kc ks) : WW w G nL mc ms Q pc L (.int y :: .int x :: st) h n kc ks := by
  obtain ⟨p, l, e, R, s, m, args, below, meth, c⟩ := w
  intro ls H locs cells slots hL hR hS hc hs
  have hmc := C.2.2.2.2.2.2.2.2.2.1
  have hms := C.2.2.2.2.2.2.2.2.2.2.1
  have hfr := C.2.2.2.2.2.2.2.2.2.2.2.1
  have hlo := C.2.2.2.2.2.2.2.2.2.2.2.2.1
  have hst' : ((st.map (mm_v G)).map fun v => v.category).sum ≤ 8 := by rw [mm_cats]; exact hst
  exact va_mmax C.1 C.2.1 (by rw [C.2.2.1]; exact hL.1.symm) C.2.2.2.1 (C.2.2.2.2.1 _ hw.1) (C.2.2.2.2.1 _ hw.2.1) (C.2.2.2.2.1 _ hw.2.2.1) (C.2.2.2.2.1 _ hw.2.2.2) (by omega) (by omega) (by omega) (by omega) hd (kk ls H locs cells slots hL hR hS hc hs)
theorem rr_mmin (C : mm_C w G cc own nL mc ms ret d nm) {index : Nat} {x y : Int32} (hd : decode cc pc = .ok (.invokestatic index, 3)) (hw : MW own index Lib.Math.min.name Lib.Math.min.code 2 (some .int)) (hdd : 1 ≤ d) (hst : (st.map fun v => v.category).sum ≤ 8) (kk : WW w G nL mc ms Q (pc + 3) L (.int (i_min x y) :: st) h n kc ks) : WW w G nL mc ms Q pc L (.int y :: .int x :: st) h n kc ks := by
  obtain ⟨p, l, e, R, s, m, args, below, meth, c⟩ := w
  intro ls H locs cells slots hL hR hS hc hs
  have hmc := C.2.2.2.2.2.2.2.2.2.1
  have hms := C.2.2.2.2.2.2.2.2.2.2.1
  have hfr := C.2.2.2.2.2.2.2.2.2.2.2.1
  have hlo := C.2.2.2.2.2.2.2.2.2.2.2.2.1
  have hst' : ((st.map (mm_v G)).map fun v => v.category).sum ≤ 8 := by rw [mm_cats]; exact hst
  exact va_mmin C.1 C.2.1 (by rw [C.2.2.1]; exact hL.1.symm) C.2.2.2.1 (C.2.2.2.2.1 _ hw.1) (C.2.2.2.2.1 _ hw.2.1) (C.2.2.2.2.1 _ hw.2.2.1) (C.2.2.2.2.1 _ hw.2.2.2) (by omega) (by omega) (by omega) (by omega) hd (kk ls H locs cells slots hL hR hS hc hs)
theorem rr_mabs (C : mm_C w G cc own nL mc ms ret d nm) {index : Nat} {x : Int32} (hd : decode cc pc = .ok (.invokestatic index, 3)) (hw : MW own index Lib.Math.abs.name Lib.Math.abs.code 1 (some .int)) (hdd : 1 ≤ d) (hst : (st.map fun v => v.category).sum ≤ 8) (kk : WW w G nL mc ms Q (pc + 3) L (.int (i_abs x) :: st) h n kc ks) : WW w G nL mc ms Q pc L (.int x :: st) h n kc ks := by
  obtain ⟨p, l, e, R, s, m, args, below, meth, c⟩ := w
  intro ls H locs cells slots hL hR hS hc hs
  have hmc := C.2.2.2.2.2.2.2.2.2.1
  have hms := C.2.2.2.2.2.2.2.2.2.2.1
  have hfr := C.2.2.2.2.2.2.2.2.2.2.2.1
  have hlo := C.2.2.2.2.2.2.2.2.2.2.2.2.1
  have hst' : ((st.map (mm_v G)).map fun v => v.category).sum ≤ 8 := by rw [mm_cats]; exact hst
  exact va_mabs C.1 C.2.1 (by rw [C.2.2.1]; exact hL.1.symm) C.2.2.2.1 (C.2.2.2.2.1 _ hw.1) (C.2.2.2.2.1 _ hw.2.1) (C.2.2.2.2.1 _ hw.2.2.1) (C.2.2.2.2.1 _ hw.2.2.2) (by omega) (by omega) (by omega) (by omega) hd (kk ls H locs cells slots hL hR hS hc hs)
theorem rr_mmax_long (C : mm_C w G cc own nL mc ms ret d nm) {index : Nat} {x y : Int64} (hd : decode cc pc = .ok (.invokestatic index, 3)) (hw : MW own index Lib.MathLoose.max_long.x Lib.MathLoose.max_long.code 4 (some .long)) (hdd : 1 ≤ d) (hst : (st.map fun v => v.category).sum ≤ 8) (kk : WW w G nL mc ms Q (pc + 3) L (.long (j_max x y) :: st) h n kc ks) : WW w G nL mc ms Q pc L (.long y :: .long x :: st) h n kc ks := by
  obtain ⟨p, l, e, R, s, m, args, below, meth, c⟩ := w
  intro ls H locs cells slots hL hR hS hc hs
  have hmc := C.2.2.2.2.2.2.2.2.2.1
  have hms := C.2.2.2.2.2.2.2.2.2.2.1
  have hfr := C.2.2.2.2.2.2.2.2.2.2.2.1
  have hlo := C.2.2.2.2.2.2.2.2.2.2.2.2.1
  have hst' : ((st.map (mm_v G)).map fun v => v.category).sum ≤ 8 := by rw [mm_cats]; exact hst
  exact va_mmax_long C.1 C.2.1 (by rw [C.2.2.1]; exact hL.1.symm) C.2.2.2.1 (C.2.2.2.2.1 _ hw.1) (C.2.2.2.2.1 _ hw.2.1) (C.2.2.2.2.1 _ hw.2.2.1) (C.2.2.2.2.1 _ hw.2.2.2) (by omega) (by omega) (by omega) (by omega) hd (kk ls H locs cells slots hL hR hS hc hs)
theorem rr_mmin_long (C : mm_C w G cc own nL mc ms ret d nm) {index : Nat} {x y : Int64} (hd : decode cc pc = .ok (.invokestatic index, 3)) (hw : MW own index Lib.MathLoose.min_long.x Lib.MathLoose.min_long.code 4 (some .long)) (hdd : 1 ≤ d) (hst : (st.map fun v => v.category).sum ≤ 8) (kk : WW w G nL mc ms Q (pc + 3) L (.long (j_min x y) :: st) h n kc ks) : WW w G nL mc ms Q pc L (.long y :: .long x :: st) h n kc ks := by
  obtain ⟨p, l, e, R, s, m, args, below, meth, c⟩ := w
  intro ls H locs cells slots hL hR hS hc hs
  have hmc := C.2.2.2.2.2.2.2.2.2.1
  have hms := C.2.2.2.2.2.2.2.2.2.2.1
  have hfr := C.2.2.2.2.2.2.2.2.2.2.2.1
  have hlo := C.2.2.2.2.2.2.2.2.2.2.2.2.1
  have hst' : ((st.map (mm_v G)).map fun v => v.category).sum ≤ 8 := by rw [mm_cats]; exact hst
  exact va_mmin_long C.1 C.2.1 (by rw [C.2.2.1]; exact hL.1.symm) C.2.2.2.1 (C.2.2.2.2.1 _ hw.1) (C.2.2.2.2.1 _ hw.2.1) (C.2.2.2.2.1 _ hw.2.2.1) (C.2.2.2.2.1 _ hw.2.2.2) (by omega) (by omega) (by omega) (by omega) hd (kk ls H locs cells slots hL hR hS hc hs)
theorem rr_mabs_long (C : mm_C w G cc own nL mc ms ret d nm) {index : Nat} {x : Int64} (hd : decode cc pc = .ok (.invokestatic index, 3)) (hw : MW own index Lib.MathLoose.abs_long.x Lib.MathLoose.abs_long.code 2 (some .long)) (hdd : 1 ≤ d) (hst : (st.map fun v => v.category).sum ≤ 8) (kk : WW w G nL mc ms Q (pc + 3) L (.long (j_abs x) :: st) h n kc ks) : WW w G nL mc ms Q pc L (.long x :: st) h n kc ks := by
  obtain ⟨p, l, e, R, s, m, args, below, meth, c⟩ := w
  intro ls H locs cells slots hL hR hS hc hs
  have hmc := C.2.2.2.2.2.2.2.2.2.1
  have hms := C.2.2.2.2.2.2.2.2.2.2.1
  have hfr := C.2.2.2.2.2.2.2.2.2.2.2.1
  have hlo := C.2.2.2.2.2.2.2.2.2.2.2.2.1
  have hst' : ((st.map (mm_v G)).map fun v => v.category).sum ≤ 8 := by rw [mm_cats]; exact hst
  exact va_mabs_long C.1 C.2.1 (by rw [C.2.2.1]; exact hL.1.symm) C.2.2.2.1 (C.2.2.2.2.1 _ hw.1) (C.2.2.2.2.1 _ hw.2.1) (C.2.2.2.2.1 _ hw.2.2.1) (C.2.2.2.2.1 _ hw.2.2.2) (by omega) (by omega) (by omega) (by omega) hd (kk ls H locs cells slots hL hR hS hc hs)
end MMM
theorem ma_X3_34 : MW RX3 34 Lib.Math.min.name Lib.Math.min.code 2 (some .int) := ⟨(mm_of_tbl (mm_t2 (List.mem_of_getElem? (l := tables_1_2) (i := 176) (by decide +kernel))) rfl), (mm_of_tbl (mm_t2 (List.mem_of_getElem? (l := tables_1_2) (i := 177) (by decide +kernel))) rfl), (mm_of_tbl (mm_t1 (List.mem_of_getElem? (l := tables_1_1) (i := 15) (by decide +kernel))) rfl), (mm_of_tbl (mm_t2 (List.mem_of_getElem? (l := tables_1_2) (i := 178) (by decide +kernel))) rfl)⟩
theorem ma_X3_40 : MW RX3 40 Lib.Math.max.name Lib.Math.max.code 2 (some .int) := ⟨(mm_of_tbl (mm_t2 (List.mem_of_getElem? (l := tables_1_2) (i := 179) (by decide +kernel))) rfl), (mm_of_tbl (mm_t2 (List.mem_of_getElem? (l := tables_1_2) (i := 180) (by decide +kernel))) rfl), (mm_of_tbl (mm_t1 (List.mem_of_getElem? (l := tables_1_1) (i := 15) (by decide +kernel))) rfl), (mm_of_tbl (mm_t2 (List.mem_of_getElem? (l := tables_1_2) (i := 181) (by decide +kernel))) rfl)⟩
theorem ma_J7_304 : MW RJ7 304 Lib.Math.min.name Lib.Math.min.code 2 (some .int) := ⟨(mm_of_tbl (mm_t3 (List.mem_of_getElem? (l := tables_1_3) (i := 154) (by decide +kernel))) rfl), (mm_of_tbl (mm_t2 (List.mem_of_getElem? (l := tables_1_2) (i := 177) (by decide +kernel))) rfl), (mm_of_tbl (mm_t1 (List.mem_of_getElem? (l := tables_1_1) (i := 15) (by decide +kernel))) rfl), (mm_of_tbl (mm_t2 (List.mem_of_getElem? (l := tables_1_2) (i := 178) (by decide +kernel))) rfl)⟩
theorem ma_X6_9 : MW RX6 9 Lib.Math.max.name Lib.Math.max.code 2 (some .int) := ⟨(mm_of_tbl (mm_t3 (List.mem_of_getElem? (l := tables_1_3) (i := 168) (by decide +kernel))) rfl), (mm_of_tbl (mm_t2 (List.mem_of_getElem? (l := tables_1_2) (i := 180) (by decide +kernel))) rfl), (mm_of_tbl (mm_t1 (List.mem_of_getElem? (l := tables_1_1) (i := 15) (by decide +kernel))) rfl), (mm_of_tbl (mm_t2 (List.mem_of_getElem? (l := tables_1_2) (i := 181) (by decide +kernel))) rfl)⟩
theorem ma_X7_201 : MW RX7 201 Lib.Math.max.name Lib.Math.max.code 2 (some .int) := ⟨(mm_of_tbl (mm_t4 (List.mem_of_getElem? (l := tables_1_4) (i := 58) (by decide +kernel))) rfl), (mm_of_tbl (mm_t2 (List.mem_of_getElem? (l := tables_1_2) (i := 180) (by decide +kernel))) rfl), (mm_of_tbl (mm_t1 (List.mem_of_getElem? (l := tables_1_1) (i := 15) (by decide +kernel))) rfl), (mm_of_tbl (mm_t2 (List.mem_of_getElem? (l := tables_1_2) (i := 181) (by decide +kernel))) rfl)⟩
theorem ma_X7_256 : MW RX7 256 Lib.MathLoose.min_long.x Lib.MathLoose.min_long.code 4 (some .long) := ⟨(mm_of_tbl (mm_t4 (List.mem_of_getElem? (l := tables_1_4) (i := 151) (by decide +kernel))) rfl), (mm_of_tbl (mm_t4 (List.mem_of_getElem? (l := tables_1_4) (i := 152) (by decide +kernel))) rfl), (mm_of_tbl (mm_t1 (List.mem_of_getElem? (l := tables_1_1) (i := 15) (by decide +kernel))) rfl), (mm_of_tbl (mm_t4 (List.mem_of_getElem? (l := tables_1_4) (i := 153) (by decide +kernel))) rfl)⟩
theorem ma_X5_54 : MW RX5 54 Lib.MathLoose.max_long.x Lib.MathLoose.max_long.code 4 (some .long) := ⟨(mm_of_tbl (mm_t4 (List.mem_of_getElem? (l := tables_1_4) (i := 165) (by decide +kernel))) rfl), (mm_of_tbl (mm_t4 (List.mem_of_getElem? (l := tables_1_4) (i := 166) (by decide +kernel))) rfl), (mm_of_tbl (mm_t1 (List.mem_of_getElem? (l := tables_1_1) (i := 15) (by decide +kernel))) rfl), (mm_of_tbl (mm_t4 (List.mem_of_getElem? (l := tables_1_4) (i := 167) (by decide +kernel))) rfl)⟩
theorem ma_X5_72 : MW RX5 72 Lib.MathLoose.min_long.x Lib.MathLoose.min_long.code 4 (some .long) := ⟨(mm_of_tbl (mm_t4 (List.mem_of_getElem? (l := tables_1_4) (i := 169) (by decide +kernel))) rfl), (mm_of_tbl (mm_t4 (List.mem_of_getElem? (l := tables_1_4) (i := 152) (by decide +kernel))) rfl), (mm_of_tbl (mm_t1 (List.mem_of_getElem? (l := tables_1_1) (i := 15) (by decide +kernel))) rfl), (mm_of_tbl (mm_t4 (List.mem_of_getElem? (l := tables_1_4) (i := 153) (by decide +kernel))) rfl)⟩
theorem ma_X7_289 : MW RX7 289 Lib.MathLoose.max_long.x Lib.MathLoose.max_long.code 4 (some .long) := ⟨(mm_of_tbl (mm_t4 (List.mem_of_getElem? (l := tables_1_4) (i := 217) (by decide +kernel))) rfl), (mm_of_tbl (mm_t4 (List.mem_of_getElem? (l := tables_1_4) (i := 166) (by decide +kernel))) rfl), (mm_of_tbl (mm_t1 (List.mem_of_getElem? (l := tables_1_1) (i := 15) (by decide +kernel))) rfl), (mm_of_tbl (mm_t4 (List.mem_of_getElem? (l := tables_1_4) (i := 167) (by decide +kernel))) rfl)⟩
theorem ma_X4_47 : MW RX4 47 Lib.Math.max.name Lib.Math.max.code 2 (some .int) := ⟨(mm_of_tbl (mm_t4 (List.mem_of_getElem? (l := tables_1_4) (i := 239) (by decide +kernel))) rfl), (mm_of_tbl (mm_t2 (List.mem_of_getElem? (l := tables_1_2) (i := 180) (by decide +kernel))) rfl), (mm_of_tbl (mm_t1 (List.mem_of_getElem? (l := tables_1_1) (i := 15) (by decide +kernel))) rfl), (mm_of_tbl (mm_t2 (List.mem_of_getElem? (l := tables_1_2) (i := 181) (by decide +kernel))) rfl)⟩
theorem ma_J8_194 : MW RJ8 194 Lib.Math.max.name Lib.Math.max.code 2 (some .int) := ⟨(mm_of_tbl (mm_t5 (List.mem_of_getElem? (l := tables_1_5) (i := 78) (by decide +kernel))) rfl), (mm_of_tbl (mm_t2 (List.mem_of_getElem? (l := tables_1_2) (i := 180) (by decide +kernel))) rfl), (mm_of_tbl (mm_t1 (List.mem_of_getElem? (l := tables_1_1) (i := 15) (by decide +kernel))) rfl), (mm_of_tbl (mm_t2 (List.mem_of_getElem? (l := tables_1_2) (i := 181) (by decide +kernel))) rfl)⟩
theorem ns_X3_9 : Cond.fieldLinkNest RX3 9 "WaterReview" "NO_TEST" "[I" "WaterReview" ∈ lw_tbl := mm_t2 (List.mem_of_getElem? (l := tables_1_2) (i := 10) (by decide +kernel))
theorem ns_X5_9 : Cond.fieldLinkNest RX5 9 "WaterReview" "NO_TEST" "[I" "WaterReview" ∈ lw_tbl := mm_t3 (List.mem_of_getElem? (l := tables_1_3) (i := 46) (by decide +kernel))
theorem ns_X4_66 : Cond.fieldLinkNest RX4 66 "WaterReview" "PARTS" "[I" "WaterReview" ∈ lw_tbl := mm_t4 (List.mem_of_getElem? (l := tables_1_4) (i := 232) (by decide +kernel))

/-! ===== one field, one place of an array: a heap's changes, short ===== -/
def mm_sf (h : mm_H) (a k : Nat) (v : Value) : mm_H := mm_up h a (match h a with
  | .inr o => .inr (o.1, o.2.set k v)
  | .inl y => .inl y)
def mm_si (h : mm_H) (a i : Nat) (x : Int32) : mm_H := mm_up h a (match h a with
  | .inl y => match y.2.2 with
    | .inl f => .inl (y.1, y.2.1, .inl (upd f i x))
    | _ => .inl y
  | .inr o => .inr o)
def mm_sj (h : mm_H) (a i : Nat) (x : Int64) : mm_H := mm_up h a (match h a with
  | .inl y => match y.2.2 with
    | .inr (.inl f) => .inl (y.1, y.2.1, .inr (.inl (vp_updL f i x)))
    | _ => .inl y
  | .inr o => .inr o)
def mm_sr (h : mm_H) (a i : Nat) (x : Option Nat) : mm_H := mm_up h a (match h a with
  | .inl y => match y.2.2 with
    | .inr (.inr (.inr (.inr f))) => .inl (y.1, y.2.1, .inr (.inr (.inr (.inr (va_up f i x)))))
    | _ => .inl y
  | .inr o => .inr o)
theorem mm_sf_at {h : mm_H} {a k ci : Nat} {fs : List Value} {v : Value} (e : h a = .inr (ci, fs)) : mm_sf h a k v a = .inr (ci, fs.set k v) := by
  unfold mm_sf
  rw [mm_up_s, e]
theorem mm_si_at {h : mm_H} {a i N : Nat} {ty : FieldType} {f : Nat → Int32} {x : Int32} (e : h a = .inl (ty, N, .inl f)) : mm_si h a i x a = .inl (ty, N, .inl (upd f i x)) := by
  unfold mm_si
  rw [mm_up_s, e]
theorem mm_sj_at {h : mm_H} {a i N : Nat} {ty : FieldType} {f : Nat → Int64} {x : Int64} (e : h a = .inl (ty, N, .inr (.inl f))) : mm_sj h a i x a = .inl (ty, N, .inr (.inl (vp_updL f i x))) := by
  unfold mm_sj
  rw [mm_up_s, e]
theorem mm_sr_at {h : mm_H} {a i N : Nat} {ty : FieldType} {f : Nat → Option Nat} {x : Option Nat} (e : h a = .inl (ty, N, .inr (.inr (.inr (.inr f))))) : mm_sr h a i x a = .inl (ty, N, .inr (.inr (.inr (.inr (va_up f i x))))) := by
  unfold mm_sr
  rw [mm_up_s, e]
theorem mm_sf_ne {h : mm_H} {a b k : Nat} {v : Value} (q : b ≠ a) : mm_sf h a k v b = h b := mm_up_n q
theorem mm_si_ne {h : mm_H} {a b i : Nat} {x : Int32} (q : b ≠ a) : mm_si h a i x b = h b := mm_up_n q
theorem mm_sj_ne {h : mm_H} {a b i : Nat} {x : Int64} (q : b ≠ a) : mm_sj h a i x b = h b := mm_up_n q
theorem mm_sr_ne {h : mm_H} {a b i : Nat} {x : Option Nat} (q : b ≠ a) : mm_sr h a i x b = h b := mm_up_n q
theorem mm_sf_eq {h : mm_H} {a k ci : Nat} {fs : List Value} {v : Value} (e : h a = .inr (ci, fs)) : mm_up h a (.inr (ci, fs.set k v)) = mm_sf h a k v := by
  unfold mm_sf
  rw [e]
theorem mm_si_eq {h : mm_H} {a i N : Nat} {ty : FieldType} {f : Nat → Int32} {x : Int32} (e : h a = .inl (ty, N, .inl f)) : mm_up h a (.inl (ty, N, .inl (upd f i x))) = mm_si h a i x := by
  unfold mm_si
  rw [e]
theorem mm_sj_eq {h : mm_H} {a i N : Nat} {ty : FieldType} {f : Nat → Int64} {x : Int64} (e : h a = .inl (ty, N, .inr (.inl f))) : mm_up h a (.inl (ty, N, .inr (.inl (vp_updL f i x)))) = mm_sj h a i x := by
  unfold mm_sj
  rw [e]
theorem mm_sr_eq {h : mm_H} {a i N : Nat} {ty : FieldType} {f : Nat → Option Nat} {x : Option Nat} (e : h a = .inl (ty, N, .inr (.inr (.inr (.inr f))))) : mm_up h a (.inl (ty, N, .inr (.inr (.inr (.inr (va_up f i x)))))) = mm_sr h a i x := by
  unfold mm_sr
  rw [e]
section MMO
variable {w : mm_X} {G : mm_G} {cc : ByteArray} {own nm : String} {nL mc ms d pc n kc ks : Nat} {ret : Option FieldType} {Q : State → Prop} {L : List (Option Value)} {st : List Value} {h : mm_H}
theorem rr_putS (C : mm_C w G cc own nL mc ms ret d nm) {index ci k a : Nat} {fs : List Value} {v : Value} {ty : FieldType} (hd : decode cc pc = .ok (.putfield index, 3)) (hf : FP own index ci k ty false) (ha : 48 ≤ a ∧ a < n) (he : h a = .inr (ci, fs)) (hl : k < fs.length) (hn : narrow ty v = v) (hfit : fits ty v = true)
    (kk : WW w G nL mc ms Q (pc + 3) L st (mm_sf h a k v) n kc ks) : WW w G nL mc ms Q pc L (v :: .ref a :: st) h n kc ks :=
  rr_put C hd hf ha he hl hn hfit (by rw [mm_sf_eq he]; exact kk)
theorem rr_putFS (C : mm_C w G cc own nL mc ms ret d "<init>") {index ci k a : Nat} {fs : List Value} {v : Value} {ty : FieldType} (hd : decode cc pc = .ok (.putfield index, 3)) (hf : FP own index ci k ty true) (ha : 48 ≤ a ∧ a < n) (he : h a = .inr (ci, fs)) (hl : k < fs.length) (hn : narrow ty v = v) (hfit : fits ty v = true)
    (kk : WW w G nL mc ms Q (pc + 3) L st (mm_sf h a k v) n kc ks) : WW w G nL mc ms Q pc L (v :: .ref a :: st) h n kc ks :=
  rr_putF C hd hf ha he hl hn hfit (by rw [mm_sf_eq he]; exact kk)
theorem rr_iastS (C : mm_C w G cc own nL mc ms ret d nm) {a N j : Nat} {f : Nat → Int32} {i x : Int32} (hd : decode cc pc = .ok (.iastore, 1)) (ha : 48 ≤ a ∧ a < n) (he : h a = .inl (.int, N, .inl f)) (hin : vp_in i N) (hj : i.toNatClampNeg = j)
    (kk : WW w G nL mc ms Q (pc + 1) L st (mm_si h a j x) n kc ks) : WW w G nL mc ms Q pc L (.int x :: .int i :: .ref a :: st) h n kc ks :=
  rr_iast C hd ha he hin (by rw [hj, mm_si_eq he]; exact kk)
theorem rr_bastS (C : mm_C w G cc own nL mc ms ret d nm) {a N j : Nat} {f : Nat → Int32} {i x : Int32} (hd : decode cc pc = .ok (.bastore, 1)) (ha : 48 ≤ a ∧ a < n) (he : h a = .inl (.byte, N, .inl f)) (hin : vp_in i N) (hj : i.toNatClampNeg = j)
    (kk : WW w G nL mc ms Q (pc + 1) L st (mm_si h a j (vp_nar .byte x)) n kc ks) : WW w G nL mc ms Q pc L (.int x :: .int i :: .ref a :: st) h n kc ks :=
  rr_bast C hd ha he hin (by rw [hj, mm_si_eq he]; exact kk)
theorem rr_lastS (C : mm_C w G cc own nL mc ms ret d nm) {a N j : Nat} {f : Nat → Int64} {i : Int32} {x : Int64} (hd : decode cc pc = .ok (.lastore, 1)) (ha : 48 ≤ a ∧ a < n) (he : h a = .inl (.long, N, .inr (.inl f))) (hin : vp_in i N) (hj : i.toNatClampNeg = j)
    (kk : WW w G nL mc ms Q (pc + 1) L st (mm_sj h a j x) n kc ks) : WW w G nL mc ms Q pc L (.long x :: .int i :: .ref a :: st) h n kc ks :=
  rr_last C hd ha he hin (by rw [hj, mm_sj_eq he]; exact kk)
theorem rr_ialdS (C : mm_C w G cc own nL mc ms ret d nm) {a N j : Nat} {f : Nat → Int32} {i v : Int32} (hd : decode cc pc = .ok (.iaload, 1)) (ha : a < n) (he : h a = .inl (.int, N, .inl f)) (hin : vp_in i N) (hj : i.toNatClampNeg = j) (hv : f j = v)
    (kk : WW w G nL mc ms Q (pc + 1) L (.int v :: st) h n kc ks) : WW w G nL mc ms Q pc L (.int i :: .ref a :: st) h n kc ks :=
  rr_iald C hd ha he hin (by rw [hj, hv]; exact kk)
theorem rr_baldS (C : mm_C w G cc own nL mc ms ret d nm) {a N j : Nat} {f : Nat → Int32} {i v : Int32} (hd : decode cc pc = .ok (.baload, 1)) (ha : a < n) (he : h a = .inl (.byte, N, .inl f)) (hin : vp_in i N) (hj : i.toNatClampNeg = j) (hv : f j = v)
    (kk : WW w G nL mc ms Q (pc + 1) L (.int v :: st) h n kc ks) : WW w G nL mc ms Q pc L (.int i :: .ref a :: st) h n kc ks :=
  rr_bald C hd ha he hin (by rw [hj, hv]; exact kk)
theorem rr_laldS (C : mm_C w G cc own nL mc ms ret d nm) {a N j : Nat} {f : Nat → Int64} {i : Int32} {v : Int64} (hd : decode cc pc = .ok (.laload, 1)) (ha : 48 ≤ a ∧ a < n) (he : h a = .inl (.long, N, .inr (.inl f))) (hin : vp_in i N) (hj : i.toNatClampNeg = j) (hv : f j = v)
    (kk : WW w G nL mc ms Q (pc + 1) L (.long v :: st) h n kc ks) : WW w G nL mc ms Q pc L (.int i :: .ref a :: st) h n kc ks :=
  rr_lald C hd ha he hin (by rw [hj, hv]; exact kk)
/-- a number on the stack, under another form -/
theorem rr_topi {x y : Int32} (e : x = y) (kk : WW w G nL mc ms Q pc L (.int y :: st) h n kc ks) : WW w G nL mc ms Q pc L (.int x :: st) h n kc ks := e ▸ kk
theorem rr_topl {x y : Int64} (e : x = y) (kk : WW w G nL mc ms Q pc L (.long y :: st) h n kc ks) : WW w G nL mc ms Q pc L (.long x :: st) h n kc ks := e ▸ kk
theorem rr_at {L' : List (Option Value)} {st' : List Value} {h' : mm_H} {n' : Nat} (e1 : L = L') (e2 : st = st') (e3 : h = h') (e4 : n = n') (kk : WW w G nL mc ms Q pc L' st' h' n' kc ks) : WW w G nL mc ms Q pc L st h n kc ks := by
  subst e1; subst e2; subst e3; subst e4; exact kk
end MMO

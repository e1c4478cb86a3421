/-! ===== the clean machine: truth values, references that may be null, switches, statics, texts ===== -/
def b2i (p : Prop) [Decidable p] : Int32 := if p then 1 else 0
theorem b2i_t {p : Prop} [Decidable p] (h : p) : b2i p = 1 := if_pos h
theorem b2i_f {p : Prop} [Decidable p] (h : ¬ p) : b2i p = 0 := if_neg h
theorem b2i_c {p q : Prop} [Decidable p] [Decidable q] (h : p ↔ q) : b2i p = b2i q := by
  unfold b2i
  by_cases hp : p
  · rw [if_pos hp, if_pos (h.mp hp)]
  · rw [if_neg hp, if_neg (fun q => hp (h.mpr q))]
section MME
variable {w : mm_X} {G : mm_G} {cc : ByteArray} {own nm : String} {nL mc ms d pc n kc ks : Nat} {ret : Option FieldType} {Q : State → Prop} {L : List (Option Value)} {st : List Value} {h : mm_H}
theorem rr_ifeq_b (C : mm_C w G cc own nL mc ms ret d nm) {p : Prop} [Decidable p] {off : Int} {tgt : Nat} (hd : decode cc pc = .ok (.ifCond .eq off, 3)) (ht : (pc : Int) + off = (tgt : Int)) (kt : ¬ p → WW w G nL mc ms Q tgt L st h n kc ks) (kf : p → WW w G nL mc ms Q (pc + 3) L st h n kc ks) : WW w G nL mc ms Q pc L (.int (b2i p) :: st) h n kc ks := by
  by_cases hp : p
  · rw [b2i_t hp]
    exact rr_if_eq C hd ht (fun q => absurd q (by decide)) (fun _ => kf hp)
  · rw [b2i_f hp]
    exact rr_if_eq C hd ht (fun _ => kt hp) (fun q => absurd rfl q)
theorem rr_ifne_b (C : mm_C w G cc own nL mc ms ret d nm) {p : Prop} [Decidable p] {off : Int} {tgt : Nat} (hd : decode cc pc = .ok (.ifCond .ne off, 3)) (ht : (pc : Int) + off = (tgt : Int)) (kt : p → WW w G nL mc ms Q tgt L st h n kc ks) (kf : ¬ p → WW w G nL mc ms Q (pc + 3) L st h n kc ks) : WW w G nL mc ms Q pc L (.int (b2i p) :: st) h n kc ks := by
  by_cases hp : p
  · rw [b2i_t hp]
    exact rr_if_ne C hd ht (fun _ => kt hp) (fun q => absurd q (by decide))
  · rw [b2i_f hp]
    exact rr_if_ne C hd ht (fun q => absurd rfl q) (fun _ => kf hp)
theorem rr_lookup (C : mm_C w G cc own nL mc ms ret d nm) {dflt : Int} {ps : Array (Int × Int)} {len : Nat} {x : Int32} {off : Int} {tgt : Nat} (hd : decode cc pc = .ok (.lookupswitch dflt ps, len)) (hp : (ps.toList.zip (ps.toList.drop 1)).all (fun (a, next) => a.1 < next.1) = true) (ho : Op.lookupswitch.offset ps.toList dflt x.toInt = off) (ht : (pc : Int) + off = (tgt : Int)) (k : WW w G nL mc ms Q tgt L st h n kc ks) : WW w G nL mc ms Q pc L (.int x :: st) h n kc ks := by
  obtain ⟨p, l, e, R, s, m, args, below, meth, c⟩ := w
  intro ls H locs cells slots hL hR hS hc hs
  exact lv_lookup C.1 C.2.1 hd hp ho ht (k ls H locs cells slots hL hR hS hc hs)
theorem rr_getsP (C : mm_C w G cc own nL mc ms ret d nm) {index : Nat} (hd : decode cc pc = .ok (.getstatic index, 3)) (hw : Cond.fieldLinkNest own index "WaterReview" "PARTS" "[I" "WaterReview" ∈ lw_tbl) (k : WW w G nL mc ms Q (pc + 3) L (.ref 1 :: st) h n kc ks) : WW w G nL mc ms Q pc L st h n kc ks := by
  obtain ⟨p, l, e, R, s, m, args, below, meth, c⟩ := w
  intro ls H locs cells slots hL hR hS hc hs
  obtain ⟨-, -, hZ, -, -, -, -, -, -, -, -, -, hN⟩ := C.2.2.2.2.2.2.1
  exact va_getsN (C := "WaterReview") (n := "PARTS") (d := "[I") C.1 C.2.1 hZ hS C.2.2.2.1 (va_Nw.use rfl (hN _ _ _ _ _ _ hw)) (fun _ q => q) hd (k ls H locs cells slots hL hR hS hc hs)
theorem rr_getsN (C : mm_C w G cc own nL mc ms ret d nm) {index : Nat} (hd : decode cc pc = .ok (.getstatic index, 3)) (hw : Cond.fieldLinkNest own index "WaterReview" "NO_TEST" "[I" "WaterReview" ∈ lw_tbl) (k : WW w G nL mc ms Q (pc + 3) L (.ref 2 :: st) h n kc ks) : WW w G nL mc ms Q pc L st h n kc ks := by
  obtain ⟨p, l, e, R, s, m, args, below, meth, c⟩ := w
  intro ls H locs cells slots hL hR hS hc hs
  obtain ⟨-, -, -, hZ, -, -, -, -, -, -, -, -, hN⟩ := C.2.2.2.2.2.2.1
  exact va_getsN (C := "WaterReview") (n := "NO_TEST") (d := "[I") C.1 C.2.1 hZ hS C.2.2.2.1 (va_Nw.use rfl (hN _ _ _ _ _ _ hw)) (fun _ q => q) hd (k ls H locs cells slots hL hR hS hc hs)
/-- a text: the i-th of mm_tx is at 3 + i -/
theorem rr_ldcS (C : mm_C w G cc "WaterReview$Reader" nL mc ms ret d nm) {i index : Nat} (hd : decode cc pc = .ok (.ldc index, 2)) (hi : i < 15) (he : (mm_tx.getD i (0, "")).1 = index) (k : WW w G nL mc ms Q (pc + 2) L (.ref (3 + i) :: st) h n kc ks) : WW w G nL mc ms Q pc L st h n kc ks := by
  obtain ⟨p, l, e, R, s, m, args, below, meth, c⟩ := w
  intro ls H locs cells slots hL hR hS hc hs
  subst he
  obtain ⟨-, -, -, -, -, -, -, hK, -⟩ := C.2.2.2.2.2.2.1
  have k1 := k ls H locs cells slots hL hR hS hc hs
  have e1 : mm_v G (.ref (3 + i)) = .ref (G.2.2.1 (3 + i)) := congrArg Value.ref (mm_out (by omega))
  rw [List.map_cons, e1] at k1
  exact va_ldcS C.1 C.2.1 C.2.2.2.1 (hK i hi) hd k1
theorem rr_i2c (C : mm_C w G cc own nL mc ms ret d nm) {x : Int32} (hd : decode cc pc = .ok (.i2c, 1)) (k : WW w G nL mc ms Q (pc + 1) L (.int ((x.toUInt32 % 65536).toInt32) :: st) h n kc ks) : WW w G nL mc ms Q pc L (.int x :: st) h n kc ks := by
  obtain ⟨p, l, e, R, s, m, args, below, meth, c⟩ := w
  intro ls H locs cells slots hL hR hS hc hs
  exact lv_i2c C.1 C.2.1 hd rfl (k ls H locs cells slots hL hR hS hc hs)
theorem rr_getsC (C : mm_C w G cc own nL mc ms ret d nm) {index : Nat} (hd : decode cc pc = .ok (.getstatic index, 3)) (hw : Cond.fieldLink own index "java/lang/String" "COMPACT_STRINGS" "Z" ∈ mm_tbl) (k : WW w G nL mc ms Q (pc + 3) L (.int 1 :: st) h n kc ks) : WW w G nL mc ms Q pc L st h n kc ks := by
  obtain ⟨p, l, e, R, s, m, args, below, meth, c⟩ := w
  intro ls H locs cells slots hL hR hS hc hs
  obtain ⟨-, -, -, -, hZ, -⟩ := C.2.2.2.2.2.2.1
  exact va_gets (C := "java/lang/String") (n := "COMPACT_STRINGS") (d := "Z") C.1 C.2.1 hZ hS C.2.2.2.1 (C.2.2.2.2.1 _ hw) (fun _ q => q) hd (k ls H locs cells slots hL hR hS hc hs)
theorem rr_getsF (C : mm_C w G cc own nL mc ms ret d nm) {index : Nat} (hd : decode cc pc = .ok (.getstatic index, 3)) (hw : Cond.fieldLink own index "jdk/internal/util/Preconditions" "SIOOBE_FORMATTER" "Ljava/util/function/BiFunction;" ∈ mm_tbl) (k : ∀ r : Option Nat, WW w G nL mc ms Q (pc + 3) L (va_rf r :: st) h n kc ks) : WW w G nL mc ms Q pc L st h n kc ks := by
  obtain ⟨p, l, e, R, s, m, args, below, meth, c⟩ := w
  intro ls H locs cells slots hL hR hS hc hs
  obtain ⟨-, -, -, -, -, hZ, -⟩ := C.2.2.2.2.2.2.1
  rcases hZ with hZ | hZ
  · exact va_gets (C := "jdk/internal/util/Preconditions") (n := "SIOOBE_FORMATTER") (d := "Ljava/util/function/BiFunction;") C.1 C.2.1 hZ hS C.2.2.2.1 (C.2.2.2.2.1 _ hw) (fun _ q => q) hd (k none ls H locs cells slots hL hR hS hc hs)
  · have k1 := k (some 33) ls H locs cells slots hL hR hS hc hs
    have e1 : mm_v G (va_rf (some 33)) = .ref (G.2.2.1 33) := congrArg Value.ref (mm_out (by omega))
    rw [List.map_cons, e1] at k1
    exact va_gets (C := "jdk/internal/util/Preconditions") (n := "SIOOBE_FORMATTER") (d := "Ljava/util/function/BiFunction;") C.1 C.2.1 hZ hS C.2.2.2.1 (C.2.2.2.2.1 _ hw) (fun _ q => q) hd k1
/-- a text's bytes and its coder: a constant's of Reader, a constant's of the law, an own one's -/
def strV (h : mm_H) (n a : Nat) : Option Nat := if 3 ≤ a ∧ a < 18 then some (a + 15) else if 1000000 ≤ a ∧ a < 1000019 then some (a + 100) else if 48 ≤ a ∧ a < n then (match h a with
  | .inr (c, fs) => if c = 10 then (match fs[(0 : Nat)]? with
    | some (.ref x) => some x
    | _ => none) else none
  | _ => none) else none
def strC (h : mm_H) (n a : Nat) : Option Int32 := if 3 ≤ a ∧ a < 18 then some 0 else if 1000000 ≤ a ∧ a < 1000019 then some 0 else if 48 ≤ a ∧ a < n then (match h a with
  | .inr (c, fs) => if c = 10 then (match fs[(1 : Nat)]? with
    | some (.int x) => some x
    | _ => none) else none
  | _ => none) else none
def ckS (h : mm_H) (n a : Nat) : Option Unit := if 3 ≤ a ∧ a < 18 then some () else if 1000000 ≤ a ∧ a < 1000019 then some () else if 48 ≤ a ∧ a < n then (match h a with
  | .inr (c, _) => if c = 10 then some () else none
  | _ => none) else none
theorem strV_s {h : mm_H} {n a v : Nat} (e : strV h n a = some v) : (∃ i, i < 15 ∧ a = 3 + i ∧ v = 18 + i) ∨ (∃ i, i < 19 ∧ a = 1000000 + i ∧ v = 1000100 + i) ∨ ((48 ≤ a ∧ a < n) ∧ ∃ fs, h a = .inr (10, fs) ∧ fs[0]? = some (.ref v)) := by
  unfold strV at e
  split at e
  · cases e
    exact Or.inl ⟨a - 3, by omega, by omega, by omega⟩
  · split at e
    · cases e
      exact Or.inr (Or.inl ⟨a - 1000000, by omega, by omega, by omega⟩)
    · split at e
      · rename_i ha
        split at e
        · rename_i c fs he
          split at e
          · rename_i hc
            split at e
            · rename_i x hx
              cases e
              exact Or.inr (Or.inr ⟨ha, fs, by rw [he, hc], hx⟩)
            · cases e
          · cases e
        · cases e
      · cases e
theorem strC_s {h : mm_H} {n a : Nat} {v : Int32} (e : strC h n a = some v) : (∃ i, i < 15 ∧ a = 3 + i ∧ v = 0) ∨ (∃ i, i < 19 ∧ a = 1000000 + i ∧ v = 0) ∨ ((48 ≤ a ∧ a < n) ∧ ∃ fs, h a = .inr (10, fs) ∧ fs[1]? = some (.int v)) := by
  unfold strC at e
  split at e
  · cases e
    exact Or.inl ⟨a - 3, by omega, by omega, rfl⟩
  · split at e
    · cases e
      exact Or.inr (Or.inl ⟨a - 1000000, by omega, by omega, rfl⟩)
    · split at e
      · rename_i ha
        split at e
        · rename_i c fs he
          split at e
          · rename_i hc
            split at e
            · rename_i x hx
              cases e
              exact Or.inr (Or.inr ⟨ha, fs, by rw [he, hc], hx⟩)
            · cases e
          · cases e
        · cases e
      · cases e
theorem ckS_s {h : mm_H} {n a : Nat} {u : Unit} (e : ckS h n a = some u) : (∃ i, i < 15 ∧ a = 3 + i) ∨ (∃ i, i < 19 ∧ a = 1000000 + i) ∨ ((48 ≤ a ∧ a < n) ∧ ∃ fs, h a = .inr (10, fs)) := by
  unfold ckS at e
  split at e
  · exact Or.inl ⟨a - 3, by omega, by omega⟩
  · split at e
    · exact Or.inr (Or.inl ⟨a - 1000000, by omega, by omega⟩)
    · split at e
      · rename_i ha
        split at e
        · rename_i c fs he
          split at e
          · rename_i hc
            exact Or.inr (Or.inr ⟨ha, fs, by rw [he, hc]⟩)
          · cases e
        · cases e
      · cases e
theorem rr_strV (C : mm_C w G cc own nL mc ms ret d nm) {index a v : Nat} (hd : decode cc pc = .ok (.getfield index, 3)) (hw : Cond.fieldLink own index "java/lang/String" "value" "[B" ∈ mm_tbl) (e : strV h n a = some v) (k : WW w G nL mc ms Q (pc + 3) L (.ref v :: st) h n kc ks) : WW w G nL mc ms Q pc L (.ref a :: st) h n kc ks := by
  rcases strV_s e with ⟨i, hi, rfl, rfl⟩ | ⟨i, hi, rfl, rfl⟩ | ⟨ha, fs, he, hv⟩
  · obtain ⟨p, l, e9, R, s, m, args, below, meth, c⟩ := w
    intro ls H locs cells slots hL hR hS hc hs
    obtain ⟨-, -, -, -, -, -, hV, -⟩ := C.2.2.2.2.2.2.1
    have k1 := k ls H locs cells slots hL hR hS hc hs
    have e1 : mm_v G (.ref (18 + i)) = .ref (G.2.2.1 (18 + i)) := congrArg Value.ref (mm_out (by omega))
    have e2 : mm_v G (.ref (3 + i)) = .ref (G.2.2.1 (3 + i)) := congrArg Value.ref (mm_out (by omega))
    rw [List.map_cons, e1] at k1
    rw [List.map_cons, e2]
    exact vk_getf (o := "java/lang/String") (n := "value") (d := "[B") C.1 C.2.1 (hV i (by omega)).2.2.1 hS C.2.2.2.1 (C.2.2.2.2.1 _ hw) (fun _ q => q) hd k1
  · obtain ⟨p, l, e9, R, s, m, args, below, meth, c⟩ := w
    intro ls H locs cells slots hL hR hS hc hs
    have hV := C.2.2.2.2.2.2.1.1.1
    have k1 := k ls H locs cells slots hL hR hS hc hs
    have e1 : mm_v G (.ref (1000100 + i)) = .ref (G.2.2.1 (1000100 + i)) := congrArg Value.ref (mm_out (by omega))
    have e2 : mm_v G (.ref (1000000 + i)) = .ref (G.2.2.1 (1000000 + i)) := congrArg Value.ref (mm_out (by omega))
    rw [List.map_cons, e1] at k1
    rw [List.map_cons, e2]
    exact vk_getf (o := "java/lang/String") (n := "value") (d := "[B") C.1 C.2.1 (hV i (by omega)).2.2.1 hS C.2.2.2.1 (C.2.2.2.2.1 _ hw) (fun _ q => q) hd k1
  · exact rr_get (ci := 10) (k := 0) C hd ⟨RJ0, TJ0, 4, rfl, by decide, hw, us_J0⟩ ha he hv k
theorem rr_strC (C : mm_C w G cc own nL mc ms ret d nm) {index a : Nat} {v : Int32} (hd : decode cc pc = .ok (.getfield index, 3)) (hw : Cond.fieldLink own index "java/lang/String" "coder" "B" ∈ mm_tbl) (e : strC h n a = some v) (k : WW w G nL mc ms Q (pc + 3) L (.int v :: st) h n kc ks) : WW w G nL mc ms Q pc L (.ref a :: st) h n kc ks := by
  rcases strC_s e with ⟨i, hi, rfl, rfl⟩ | ⟨i, hi, rfl, rfl⟩ | ⟨ha, fs, he, hv⟩
  · obtain ⟨p, l, e9, R, s, m, args, below, meth, c⟩ := w
    intro ls H locs cells slots hL hR hS hc hs
    obtain ⟨-, -, -, -, -, -, hV, -⟩ := C.2.2.2.2.2.2.1
    have e2 : mm_v G (.ref (3 + i)) = .ref (G.2.2.1 (3 + i)) := congrArg Value.ref (mm_out (by omega))
    rw [List.map_cons, e2]
    exact vk_getf (o := "java/lang/String") (n := "coder") (d := "B") C.1 C.2.1 (hV i (by omega)).2.1 hS C.2.2.2.1 (C.2.2.2.2.1 _ hw) (fun _ q => q) hd (k ls H locs cells slots hL hR hS hc hs)
  · obtain ⟨p, l, e9, R, s, m, args, below, meth, c⟩ := w
    intro ls H locs cells slots hL hR hS hc hs
    have hV := C.2.2.2.2.2.2.1.1.1
    have e2 : mm_v G (.ref (1000000 + i)) = .ref (G.2.2.1 (1000000 + i)) := congrArg Value.ref (mm_out (by omega))
    rw [List.map_cons, e2]
    exact vk_getf (o := "java/lang/String") (n := "coder") (d := "B") C.1 C.2.1 (hV i (by omega)).2.1 hS C.2.2.2.1 (C.2.2.2.2.1 _ hw) (fun _ q => q) hd (k ls H locs cells slots hL hR hS hc hs)
  · exact rr_get (ci := 10) (k := 1) C hd ⟨RJ0, TJ0, 4, rfl, by decide, hw, us_J0⟩ ha he hv k
/-- the law's texts -/
theorem rr_ldcL (C : mm_C w G cc "WaterReviewLaw" nL mc ms ret d nm) {i index : Nat} (hd : decode cc pc = .ok (.ldc index, 2)) (hi : i < 19) (he : (mm_tl.getD i (0, "")).1 = index) (k : WW w G nL mc ms Q (pc + 2) L (.ref (1000000 + i) :: st) h n kc ks) : WW w G nL mc ms Q pc L st h n kc ks := by
  obtain ⟨p, l, e, R, s, m, args, below, meth, c⟩ := w
  intro ls H locs cells slots hL hR hS hc hs
  subst he
  have hK := C.2.2.2.2.2.2.1.1.2.1
  have k1 := k ls H locs cells slots hL hR hS hc hs
  have e1 : mm_v G (.ref (1000000 + i)) = .ref (G.2.2.1 (1000000 + i)) := congrArg Value.ref (mm_out (by omega))
  rw [List.map_cons, e1] at k1
  exact va_ldcS C.1 C.2.1 C.2.2.2.1 (hK i hi) hd k1
theorem rr_getsD1 (C : mm_C w G cc own nL mc ms ret d nm) {index : Nat} (hd : decode cc pc = .ok (.getstatic index, 3)) (hw : Cond.fieldLink own index "java/lang/Integer" "DigitOnes" "[B" ∈ mm_tbl) (k : WW w G nL mc ms Q (pc + 3) L (.ref 1000200 :: st) h n kc ks) : WW w G nL mc ms Q pc L st h n kc ks := by
  obtain ⟨p, l, e, R, s, m, args, below, meth, c⟩ := w
  intro ls H locs cells slots hL hR hS hc hs
  have k1 := k ls H locs cells slots hL hR hS hc hs
  have e1 : mm_v G (.ref 1000200) = .ref (G.2.2.1 1000200) := congrArg Value.ref (mm_out (by omega))
  rw [List.map_cons, e1] at k1
  exact va_gets (C := "java/lang/Integer") (n := "DigitOnes") (d := "[B") C.1 C.2.1 C.2.2.2.2.2.2.1.1.2.2.1 hS C.2.2.2.1 (C.2.2.2.2.1 _ hw) (fun _ q => q) hd k1
theorem rr_getsD2 (C : mm_C w G cc own nL mc ms ret d nm) {index : Nat} (hd : decode cc pc = .ok (.getstatic index, 3)) (hw : Cond.fieldLink own index "java/lang/Integer" "DigitTens" "[B" ∈ mm_tbl) (k : WW w G nL mc ms Q (pc + 3) L (.ref 1000201 :: st) h n kc ks) : WW w G nL mc ms Q pc L st h n kc ks := by
  obtain ⟨p, l, e, R, s, m, args, below, meth, c⟩ := w
  intro ls H locs cells slots hL hR hS hc hs
  have k1 := k ls H locs cells slots hL hR hS hc hs
  have e1 : mm_v G (.ref 1000201) = .ref (G.2.2.1 1000201) := congrArg Value.ref (mm_out (by omega))
  rw [List.map_cons, e1] at k1
  exact va_gets (C := "java/lang/Integer") (n := "DigitTens") (d := "[B") C.1 C.2.1 C.2.2.2.2.2.2.1.1.2.2.2.1 hS C.2.2.2.1 (C.2.2.2.2.1 _ hw) (fun _ q => q) hd k1
end MME
theorem b2i_nar (p : Prop) [Decidable p] : narrow .boolean (.int (b2i p)) = .int (b2i p) := by
  unfold b2i
  split <;> rfl
theorem vp_in_c {i : Int32} {N : Nat} (h0 : 0 ≤ i.toInt) (h1 : i.toInt < N) : vp_in i N := vp_in_iff.mpr ⟨h0, h1⟩
/-! ===== the permanent cells: their shapes ===== -/
abbrev mm_S : Type := (FieldType × Nat) ⊕ (Nat × List (Value ⊕ Nat))
def fI (h : mm_H) (a k : Nat) : Int32 := match h a with
  | .inr o => match o.2[k]? with
    | some (.int x) => x
    | _ => 0
  | _ => 0
def fJ (h : mm_H) (a k : Nat) : Int64 := match h a with
  | .inr o => match o.2[k]? with
    | some (.long x) => x
    | _ => 0
  | _ => 0
def fR (h : mm_H) (a k : Nat) : Option Nat := match h a with
  | .inr o => match o.2[k]? with
    | some (.ref x) => some x
    | _ => none
  | _ => none
def iA (h : mm_H) (a : Nat) : Nat → Int32 := match h a with
  | .inl x => match x.2.2 with
    | .inl f => f
    | _ => fun _ => 0
  | _ => fun _ => 0
def jA (h : mm_H) (a : Nat) : Nat → Int64 := match h a with
  | .inl x => match x.2.2 with
    | .inr (.inl f) => f
    | _ => fun _ => 0
  | _ => fun _ => 0
def rA (h : mm_H) (a : Nat) : Nat → Option Nat := match h a with
  | .inl x => match x.2.2 with
    | .inr (.inr (.inr (.inr f))) => f
    | _ => fun _ => none
  | _ => fun _ => none
def mm_cfs (h : mm_H) (a : Nat) : Nat → List (Value ⊕ Nat) → List Value
  | _, [] => []
  | k, .inl v :: t => v :: mm_cfs h a (k + 1) t
  | k, .inr 0 :: t => .int (fI h a k) :: mm_cfs h a (k + 1) t
  | k, .inr 1 :: t => .long (fJ h a k) :: mm_cfs h a (k + 1) t
  | k, .inr _ :: t => va_rf (fR h a k) :: mm_cfs h a (k + 1) t
def mm_cano (h : mm_H) (a : Nat) : mm_S → mm_E
  | .inl (.long, N) => .inl (.long, N, .inr (.inl (jA h a)))
  | .inl (.object c, N) => .inl (.object c, N, .inr (.inr (.inr (.inr (rA h a)))))
  | .inl (.array t, N) => .inl (.array t, N, .inr (.inr (.inr (.inr (fun i => if i < N then some (a + 1 + i) else none)))))
  | .inl (t, N) => .inl (t, N, .inl (iA h a))
  | .inr (ci, fs) => .inr (ci, mm_cfs h a 0 fs)
def mm_shL : List mm_S := [.inr (9, [.inl (.ref 49), .inl (.ref 73), .inl (.ref 147), .inl (.ref 151), .inl (.ref 155), .inr 0, .inl (.ref 156), .inr 0, .inr 2, .inl (.ref 157), .inr 0, .inl (.ref 158)]),
  .inr (4, [.inl (.ref 50), .inl (.ref 51), .inl (.ref 56), .inl (.ref 61), .inl (.ref 67), .inr 0, .inr 0]),
  .inl (.int, 11),
  .inr (0, [.inl (.ref 52), .inl (.ref 53), .inl (.ref 54), .inl (.ref 55), .inr 0]),
  .inl (.int, 500),
  .inl (.int, 500),
  .inl (.int, 500),
  .inl (.int, 2805),
  .inr (8, [.inl (.ref 57), .inl (.ref 58), .inl (.ref 59), .inl (.ref 60), .inr 0, .inr 0]),
  .inl (.int, 40),
  .inl (.int, 40),
  .inl (.int, 40),
  .inl (.int, 40),
  .inr (1, [.inl (.ref 62), .inl (.ref 63), .inl (.ref 64), .inl (.ref 65), .inl (.ref 66), .inr 0]),
  .inl (.int, 20),
  .inl (.int, 20),
  .inl (.int, 20),
  .inl (.int, 20),
  .inl (.int, 20),
  .inr (1, [.inl (.ref 68), .inl (.ref 69), .inl (.ref 70), .inl (.ref 71), .inl (.ref 72), .inr 0]),
  .inl (.int, 20),
  .inl (.int, 20),
  .inl (.int, 20),
  .inl (.int, 20),
  .inl (.int, 20),
  .inr (7, [.inl (.ref 49), .inl (.ref 143), .inl (.ref 74), .inl (.ref 75), .inl (.ref 91), .inl (.ref 107), .inl (.ref 108), .inl (.ref 124), .inl (.ref 140), .inl (.ref 141), .inl (.ref 142), .inr 0, .inr 0]),
  .inl ((.object "WaterReview$RuleBook"), 3),
  .inl ((.array .int), 15),
  .inl (.int, 17),
  .inl (.int, 17),
  .inl (.int, 17),
  .inl (.int, 17),
  .inl (.int, 17),
  .inl (.int, 17),
  .inl (.int, 17),
  .inl (.int, 17),
  .inl (.int, 17),
  .inl (.int, 17),
  .inl (.int, 17),
  .inl (.int, 17),
  .inl (.int, 17),
  .inl (.int, 17),
  .inl (.int, 17),
  .inl ((.array .int), 15),
  .inl (.int, 9),
  .inl (.int, 9),
  .inl (.int, 9),
  .inl (.int, 9),
  .inl (.int, 9),
  .inl (.int, 9),
  .inl (.int, 9),
  .inl (.int, 9),
  .inl (.int, 9),
  .inl (.int, 9),
  .inl (.int, 9),
  .inl (.int, 9),
  .inl (.int, 9),
  .inl (.int, 9),
  .inl (.int, 9),
  .inl (.long, 16),
  .inl ((.array .long), 15),
  .inl (.long, 4),
  .inl (.long, 4),
  .inl (.long, 4),
  .inl (.long, 4),
  .inl (.long, 4),
  .inl (.long, 4),
  .inl (.long, 4),
  .inl (.long, 4),
  .inl (.long, 4),
  .inl (.long, 4),
  .inl (.long, 4),
  .inl (.long, 4),
  .inl (.long, 4),
  .inl (.long, 4),
  .inl (.long, 4),
  .inl ((.array .long), 15),
  .inl (.long, 15),
  .inl (.long, 15),
  .inl (.long, 15),
  .inl (.long, 15),
  .inl (.long, 15),
  .inl (.long, 15),
  .inl (.long, 15),
  .inl (.long, 15),
  .inl (.long, 15),
  .inl (.long, 15),
  .inl (.long, 15),
  .inl (.long, 15),
  .inl (.long, 15),
  .inl (.long, 15),
  .inl (.long, 15),
  .inl (.long, 15),
  .inl (.long, 15),
  .inl (.long, 5),
  .inr (2, [.inl (.ref 49), .inl (.ref 144), .inl (.ref 145), .inl (.ref 146), .inr 0, .inr 1, .inr 1, .inr 1, .inr 1, .inr 1]),
  .inl (.int, 50),
  .inl (.int, 50),
  .inl (.int, 50),
  .inr (2, [.inl (.ref 49), .inl (.ref 148), .inl (.ref 149), .inl (.ref 150), .inr 0, .inr 1, .inr 1, .inr 1, .inr 1, .inr 1]),
  .inl (.int, 50),
  .inl (.int, 50),
  .inl (.int, 50),
  .inr (3, [.inr 2, .inr 0, .inr 0, .inr 0, .inr 0, .inr 0, .inl (.ref 152), .inr 0, .inl (.ref 153), .inr 0, .inl (.ref 154), .inr 0]),
  .inl (.int, 270),
  .inl ((.object "WaterReview$Rule"), 30),
  .inl (.int, 900),
  .inl (.int, 900),
  .inl ((.object "WaterReview$RuleBook"), 8),
  .inl ((.object "WaterReview$RuleBook"), 4),
  .inl (.int, 15)]
def mm_sh (a : Nat) : Option mm_S := if a < 48 then none else mm_shL[a - 48]?
/-- the permanent cells have their shapes -/
def PS (h : mm_H) : Prop := ∀ (a : Nat) (s : mm_S), mm_sh a = some s → h a = mm_cano h a s
theorem fI_c {h g : mm_H} {a : Nat} (e : h a = g a) (k : Nat) : fI h a k = fI g a k := by unfold fI; rw [e]
theorem fJ_c {h g : mm_H} {a : Nat} (e : h a = g a) (k : Nat) : fJ h a k = fJ g a k := by unfold fJ; rw [e]
theorem fR_c {h g : mm_H} {a : Nat} (e : h a = g a) (k : Nat) : fR h a k = fR g a k := by unfold fR; rw [e]
theorem iA_c {h g : mm_H} {a : Nat} (e : h a = g a) : iA h a = iA g a := by unfold iA; rw [e]
theorem jA_c {h g : mm_H} {a : Nat} (e : h a = g a) : jA h a = jA g a := by unfold jA; rw [e]
theorem rA_c {h g : mm_H} {a : Nat} (e : h a = g a) : rA h a = rA g a := by unfold rA; rw [e]
theorem mm_cfs_c {h g : mm_H} {a : Nat} (e : h a = g a) : ∀ (fs : List (Value ⊕ Nat)) (k : Nat), mm_cfs h a k fs = mm_cfs g a k fs
  | [], _ => rfl
  | .inl v :: t, k => by simp only [mm_cfs]; rw [mm_cfs_c e t]
  | .inr 0 :: t, k => by simp only [mm_cfs]; rw [mm_cfs_c e t, fI_c e]
  | .inr 1 :: t, k => by simp only [mm_cfs]; rw [mm_cfs_c e t, fJ_c e]
  | .inr (_ + 2) :: t, k => by simp only [mm_cfs]; rw [mm_cfs_c e t, fR_c e]
theorem mm_cano_c {h g : mm_H} {a : Nat} (e : h a = g a) (s : mm_S) : mm_cano h a s = mm_cano g a s := by
  rcases s with ⟨t, N⟩ | ⟨ci, fs⟩
  · cases t <;> simp only [mm_cano, iA_c e, jA_c e, rA_c e]
  · simp only [mm_cano]; rw [mm_cfs_c e]
theorem PS.up {h : mm_H} (c : PS h) {a : Nat} {e : mm_E} (ha : ∀ s, mm_sh a = some s → e = mm_cano (mm_up h a e) a s) : PS (mm_up h a e) := by
  intro b s hs
  by_cases hb : b = a
  · subst hb
    rw [mm_up_s]
    exact ha s hs
  · rw [mm_up_n hb, c b s hs]
    exact mm_cano_c (mm_up_n hb).symm s
theorem PS.of {h g : mm_H} (c : PS h) (e : ∀ a s, mm_sh a = some s → g a = h a) : PS g := fun a s hs => (e a s hs).trans ((c a s hs).trans (mm_cano_c (e a s hs).symm s))
theorem mm_sh_top {a : Nat} (h : 159 ≤ a) : mm_sh a = none := by
  unfold mm_sh
  rw [if_neg (by omega)]
  exact List.getElem?_eq_none (by show mm_shL.length ≤ _; have : mm_shL.length = 111 := by decide +kernel
                                  omega)
theorem cs_48 {h : mm_H} (c : PS h) : h 48 = .inr (9, [.ref 49, .ref 73, .ref 147, .ref 151, .ref 155, .int (fI h 48 5), .ref 156, .int (fI h 48 7), va_rf (fR h 48 8), .ref 157, .int (fI h 48 10), .ref 158]) := c 48 _ rfl
theorem cs_49 {h : mm_H} (c : PS h) : h 49 = .inr (4, [.ref 50, .ref 51, .ref 56, .ref 61, .ref 67, .int (fI h 49 5), .int (fI h 49 6)]) := c 49 _ rfl
theorem cs_50 {h : mm_H} (c : PS h) : h 50 = .inl (.int, 11, .inl (iA h 50)) := c 50 _ rfl
theorem cs_51 {h : mm_H} (c : PS h) : h 51 = .inr (0, [.ref 52, .ref 53, .ref 54, .ref 55, .int (fI h 51 4)]) := c 51 _ rfl
theorem cs_52 {h : mm_H} (c : PS h) : h 52 = .inl (.int, 500, .inl (iA h 52)) := c 52 _ rfl
theorem cs_53 {h : mm_H} (c : PS h) : h 53 = .inl (.int, 500, .inl (iA h 53)) := c 53 _ rfl
theorem cs_54 {h : mm_H} (c : PS h) : h 54 = .inl (.int, 500, .inl (iA h 54)) := c 54 _ rfl
theorem cs_55 {h : mm_H} (c : PS h) : h 55 = .inl (.int, 2805, .inl (iA h 55)) := c 55 _ rfl
theorem cs_56 {h : mm_H} (c : PS h) : h 56 = .inr (8, [.ref 57, .ref 58, .ref 59, .ref 60, .int (fI h 56 4), .int (fI h 56 5)]) := c 56 _ rfl
theorem cs_57 {h : mm_H} (c : PS h) : h 57 = .inl (.int, 40, .inl (iA h 57)) := c 57 _ rfl
theorem cs_58 {h : mm_H} (c : PS h) : h 58 = .inl (.int, 40, .inl (iA h 58)) := c 58 _ rfl
theorem cs_59 {h : mm_H} (c : PS h) : h 59 = .inl (.int, 40, .inl (iA h 59)) := c 59 _ rfl
theorem cs_60 {h : mm_H} (c : PS h) : h 60 = .inl (.int, 40, .inl (iA h 60)) := c 60 _ rfl
theorem cs_61 {h : mm_H} (c : PS h) : h 61 = .inr (1, [.ref 62, .ref 63, .ref 64, .ref 65, .ref 66, .int (fI h 61 5)]) := c 61 _ rfl
theorem cs_62 {h : mm_H} (c : PS h) : h 62 = .inl (.int, 20, .inl (iA h 62)) := c 62 _ rfl
theorem cs_63 {h : mm_H} (c : PS h) : h 63 = .inl (.int, 20, .inl (iA h 63)) := c 63 _ rfl
theorem cs_64 {h : mm_H} (c : PS h) : h 64 = .inl (.int, 20, .inl (iA h 64)) := c 64 _ rfl
theorem cs_65 {h : mm_H} (c : PS h) : h 65 = .inl (.int, 20, .inl (iA h 65)) := c 65 _ rfl
theorem cs_66 {h : mm_H} (c : PS h) : h 66 = .inl (.int, 20, .inl (iA h 66)) := c 66 _ rfl
theorem cs_67 {h : mm_H} (c : PS h) : h 67 = .inr (1, [.ref 68, .ref 69, .ref 70, .ref 71, .ref 72, .int (fI h 67 5)]) := c 67 _ rfl
theorem cs_68 {h : mm_H} (c : PS h) : h 68 = .inl (.int, 20, .inl (iA h 68)) := c 68 _ rfl
theorem cs_69 {h : mm_H} (c : PS h) : h 69 = .inl (.int, 20, .inl (iA h 69)) := c 69 _ rfl
theorem cs_70 {h : mm_H} (c : PS h) : h 70 = .inl (.int, 20, .inl (iA h 70)) := c 70 _ rfl
theorem cs_71 {h : mm_H} (c : PS h) : h 71 = .inl (.int, 20, .inl (iA h 71)) := c 71 _ rfl
theorem cs_72 {h : mm_H} (c : PS h) : h 72 = .inl (.int, 20, .inl (iA h 72)) := c 72 _ rfl
theorem cs_73 {h : mm_H} (c : PS h) : h 73 = .inr (7, [.ref 49, .ref 143, .ref 74, .ref 75, .ref 91, .ref 107, .ref 108, .ref 124, .ref 140, .ref 141, .ref 142, .int (fI h 73 11), .int (fI h 73 12)]) := c 73 _ rfl
theorem cs_74 {h : mm_H} (c : PS h) : h 74 = .inl ((.object "WaterReview$RuleBook"), 3, .inr (.inr (.inr (.inr (rA h 74))))) := c 74 _ rfl
theorem cs_75 {h : mm_H} (c : PS h) : h 75 = .inl ((.array .int), 15, .inr (.inr (.inr (.inr (fun i => if i < 15 then some (75 + 1 + i) else none))))) := c 75 _ rfl
theorem cs_76 {h : mm_H} (c : PS h) : h 76 = .inl (.int, 17, .inl (iA h 76)) := c 76 _ rfl
theorem cs_77 {h : mm_H} (c : PS h) : h 77 = .inl (.int, 17, .inl (iA h 77)) := c 77 _ rfl
theorem cs_78 {h : mm_H} (c : PS h) : h 78 = .inl (.int, 17, .inl (iA h 78)) := c 78 _ rfl
theorem cs_79 {h : mm_H} (c : PS h) : h 79 = .inl (.int, 17, .inl (iA h 79)) := c 79 _ rfl
theorem cs_80 {h : mm_H} (c : PS h) : h 80 = .inl (.int, 17, .inl (iA h 80)) := c 80 _ rfl
theorem cs_81 {h : mm_H} (c : PS h) : h 81 = .inl (.int, 17, .inl (iA h 81)) := c 81 _ rfl
theorem cs_82 {h : mm_H} (c : PS h) : h 82 = .inl (.int, 17, .inl (iA h 82)) := c 82 _ rfl
theorem cs_83 {h : mm_H} (c : PS h) : h 83 = .inl (.int, 17, .inl (iA h 83)) := c 83 _ rfl
theorem cs_84 {h : mm_H} (c : PS h) : h 84 = .inl (.int, 17, .inl (iA h 84)) := c 84 _ rfl
theorem cs_85 {h : mm_H} (c : PS h) : h 85 = .inl (.int, 17, .inl (iA h 85)) := c 85 _ rfl
theorem cs_86 {h : mm_H} (c : PS h) : h 86 = .inl (.int, 17, .inl (iA h 86)) := c 86 _ rfl
theorem cs_87 {h : mm_H} (c : PS h) : h 87 = .inl (.int, 17, .inl (iA h 87)) := c 87 _ rfl
theorem cs_88 {h : mm_H} (c : PS h) : h 88 = .inl (.int, 17, .inl (iA h 88)) := c 88 _ rfl
theorem cs_89 {h : mm_H} (c : PS h) : h 89 = .inl (.int, 17, .inl (iA h 89)) := c 89 _ rfl
theorem cs_90 {h : mm_H} (c : PS h) : h 90 = .inl (.int, 17, .inl (iA h 90)) := c 90 _ rfl
theorem cs_91 {h : mm_H} (c : PS h) : h 91 = .inl ((.array .int), 15, .inr (.inr (.inr (.inr (fun i => if i < 15 then some (91 + 1 + i) else none))))) := c 91 _ rfl
theorem cs_92 {h : mm_H} (c : PS h) : h 92 = .inl (.int, 9, .inl (iA h 92)) := c 92 _ rfl
theorem cs_93 {h : mm_H} (c : PS h) : h 93 = .inl (.int, 9, .inl (iA h 93)) := c 93 _ rfl
theorem cs_94 {h : mm_H} (c : PS h) : h 94 = .inl (.int, 9, .inl (iA h 94)) := c 94 _ rfl
theorem cs_95 {h : mm_H} (c : PS h) : h 95 = .inl (.int, 9, .inl (iA h 95)) := c 95 _ rfl
theorem cs_96 {h : mm_H} (c : PS h) : h 96 = .inl (.int, 9, .inl (iA h 96)) := c 96 _ rfl
theorem cs_97 {h : mm_H} (c : PS h) : h 97 = .inl (.int, 9, .inl (iA h 97)) := c 97 _ rfl
theorem cs_98 {h : mm_H} (c : PS h) : h 98 = .inl (.int, 9, .inl (iA h 98)) := c 98 _ rfl
theorem cs_99 {h : mm_H} (c : PS h) : h 99 = .inl (.int, 9, .inl (iA h 99)) := c 99 _ rfl
theorem cs_100 {h : mm_H} (c : PS h) : h 100 = .inl (.int, 9, .inl (iA h 100)) := c 100 _ rfl
theorem cs_101 {h : mm_H} (c : PS h) : h 101 = .inl (.int, 9, .inl (iA h 101)) := c 101 _ rfl
theorem cs_102 {h : mm_H} (c : PS h) : h 102 = .inl (.int, 9, .inl (iA h 102)) := c 102 _ rfl
theorem cs_103 {h : mm_H} (c : PS h) : h 103 = .inl (.int, 9, .inl (iA h 103)) := c 103 _ rfl
theorem cs_104 {h : mm_H} (c : PS h) : h 104 = .inl (.int, 9, .inl (iA h 104)) := c 104 _ rfl
theorem cs_105 {h : mm_H} (c : PS h) : h 105 = .inl (.int, 9, .inl (iA h 105)) := c 105 _ rfl
theorem cs_106 {h : mm_H} (c : PS h) : h 106 = .inl (.int, 9, .inl (iA h 106)) := c 106 _ rfl
theorem cs_107 {h : mm_H} (c : PS h) : h 107 = .inl (.long, 16, .inr (.inl (jA h 107))) := c 107 _ rfl
theorem cs_108 {h : mm_H} (c : PS h) : h 108 = .inl ((.array .long), 15, .inr (.inr (.inr (.inr (fun i => if i < 15 then some (108 + 1 + i) else none))))) := c 108 _ rfl
theorem cs_109 {h : mm_H} (c : PS h) : h 109 = .inl (.long, 4, .inr (.inl (jA h 109))) := c 109 _ rfl
theorem cs_110 {h : mm_H} (c : PS h) : h 110 = .inl (.long, 4, .inr (.inl (jA h 110))) := c 110 _ rfl
theorem cs_111 {h : mm_H} (c : PS h) : h 111 = .inl (.long, 4, .inr (.inl (jA h 111))) := c 111 _ rfl
theorem cs_112 {h : mm_H} (c : PS h) : h 112 = .inl (.long, 4, .inr (.inl (jA h 112))) := c 112 _ rfl
theorem cs_113 {h : mm_H} (c : PS h) : h 113 = .inl (.long, 4, .inr (.inl (jA h 113))) := c 113 _ rfl
theorem cs_114 {h : mm_H} (c : PS h) : h 114 = .inl (.long, 4, .inr (.inl (jA h 114))) := c 114 _ rfl
theorem cs_115 {h : mm_H} (c : PS h) : h 115 = .inl (.long, 4, .inr (.inl (jA h 115))) := c 115 _ rfl
theorem cs_116 {h : mm_H} (c : PS h) : h 116 = .inl (.long, 4, .inr (.inl (jA h 116))) := c 116 _ rfl
theorem cs_117 {h : mm_H} (c : PS h) : h 117 = .inl (.long, 4, .inr (.inl (jA h 117))) := c 117 _ rfl
theorem cs_118 {h : mm_H} (c : PS h) : h 118 = .inl (.long, 4, .inr (.inl (jA h 118))) := c 118 _ rfl
theorem cs_119 {h : mm_H} (c : PS h) : h 119 = .inl (.long, 4, .inr (.inl (jA h 119))) := c 119 _ rfl
theorem cs_120 {h : mm_H} (c : PS h) : h 120 = .inl (.long, 4, .inr (.inl (jA h 120))) := c 120 _ rfl
theorem cs_121 {h : mm_H} (c : PS h) : h 121 = .inl (.long, 4, .inr (.inl (jA h 121))) := c 121 _ rfl
theorem cs_122 {h : mm_H} (c : PS h) : h 122 = .inl (.long, 4, .inr (.inl (jA h 122))) := c 122 _ rfl
theorem cs_123 {h : mm_H} (c : PS h) : h 123 = .inl (.long, 4, .inr (.inl (jA h 123))) := c 123 _ rfl
theorem cs_124 {h : mm_H} (c : PS h) : h 124 = .inl ((.array .long), 15, .inr (.inr (.inr (.inr (fun i => if i < 15 then some (124 + 1 + i) else none))))) := c 124 _ rfl
theorem cs_125 {h : mm_H} (c : PS h) : h 125 = .inl (.long, 15, .inr (.inl (jA h 125))) := c 125 _ rfl
theorem cs_126 {h : mm_H} (c : PS h) : h 126 = .inl (.long, 15, .inr (.inl (jA h 126))) := c 126 _ rfl
theorem cs_127 {h : mm_H} (c : PS h) : h 127 = .inl (.long, 15, .inr (.inl (jA h 127))) := c 127 _ rfl
theorem cs_128 {h : mm_H} (c : PS h) : h 128 = .inl (.long, 15, .inr (.inl (jA h 128))) := c 128 _ rfl
theorem cs_129 {h : mm_H} (c : PS h) : h 129 = .inl (.long, 15, .inr (.inl (jA h 129))) := c 129 _ rfl
theorem cs_130 {h : mm_H} (c : PS h) : h 130 = .inl (.long, 15, .inr (.inl (jA h 130))) := c 130 _ rfl
theorem cs_131 {h : mm_H} (c : PS h) : h 131 = .inl (.long, 15, .inr (.inl (jA h 131))) := c 131 _ rfl
theorem cs_132 {h : mm_H} (c : PS h) : h 132 = .inl (.long, 15, .inr (.inl (jA h 132))) := c 132 _ rfl
theorem cs_133 {h : mm_H} (c : PS h) : h 133 = .inl (.long, 15, .inr (.inl (jA h 133))) := c 133 _ rfl
theorem cs_134 {h : mm_H} (c : PS h) : h 134 = .inl (.long, 15, .inr (.inl (jA h 134))) := c 134 _ rfl
theorem cs_135 {h : mm_H} (c : PS h) : h 135 = .inl (.long, 15, .inr (.inl (jA h 135))) := c 135 _ rfl
theorem cs_136 {h : mm_H} (c : PS h) : h 136 = .inl (.long, 15, .inr (.inl (jA h 136))) := c 136 _ rfl
theorem cs_137 {h : mm_H} (c : PS h) : h 137 = .inl (.long, 15, .inr (.inl (jA h 137))) := c 137 _ rfl
theorem cs_138 {h : mm_H} (c : PS h) : h 138 = .inl (.long, 15, .inr (.inl (jA h 138))) := c 138 _ rfl
theorem cs_139 {h : mm_H} (c : PS h) : h 139 = .inl (.long, 15, .inr (.inl (jA h 139))) := c 139 _ rfl
theorem cs_140 {h : mm_H} (c : PS h) : h 140 = .inl (.long, 15, .inr (.inl (jA h 140))) := c 140 _ rfl
theorem cs_141 {h : mm_H} (c : PS h) : h 141 = .inl (.long, 15, .inr (.inl (jA h 141))) := c 141 _ rfl
theorem cs_142 {h : mm_H} (c : PS h) : h 142 = .inl (.long, 5, .inr (.inl (jA h 142))) := c 142 _ rfl
theorem cs_143 {h : mm_H} (c : PS h) : h 143 = .inr (2, [.ref 49, .ref 144, .ref 145, .ref 146, .int (fI h 143 4), .long (fJ h 143 5), .long (fJ h 143 6), .long (fJ h 143 7), .long (fJ h 143 8), .long (fJ h 143 9)]) := c 143 _ rfl
theorem cs_144 {h : mm_H} (c : PS h) : h 144 = .inl (.int, 50, .inl (iA h 144)) := c 144 _ rfl
theorem cs_145 {h : mm_H} (c : PS h) : h 145 = .inl (.int, 50, .inl (iA h 145)) := c 145 _ rfl
theorem cs_146 {h : mm_H} (c : PS h) : h 146 = .inl (.int, 50, .inl (iA h 146)) := c 146 _ rfl
theorem cs_147 {h : mm_H} (c : PS h) : h 147 = .inr (2, [.ref 49, .ref 148, .ref 149, .ref 150, .int (fI h 147 4), .long (fJ h 147 5), .long (fJ h 147 6), .long (fJ h 147 7), .long (fJ h 147 8), .long (fJ h 147 9)]) := c 147 _ rfl
theorem cs_148 {h : mm_H} (c : PS h) : h 148 = .inl (.int, 50, .inl (iA h 148)) := c 148 _ rfl
theorem cs_149 {h : mm_H} (c : PS h) : h 149 = .inl (.int, 50, .inl (iA h 149)) := c 149 _ rfl
theorem cs_150 {h : mm_H} (c : PS h) : h 150 = .inl (.int, 50, .inl (iA h 150)) := c 150 _ rfl
theorem cs_151 {h : mm_H} (c : PS h) : h 151 = .inr (3, [va_rf (fR h 151 0), .int (fI h 151 1), .int (fI h 151 2), .int (fI h 151 3), .int (fI h 151 4), .int (fI h 151 5), .ref 152, .int (fI h 151 7), .ref 153, .int (fI h 151 9), .ref 154, .int (fI h 151 11)]) := c 151 _ rfl
theorem cs_152 {h : mm_H} (c : PS h) : h 152 = .inl (.int, 270, .inl (iA h 152)) := c 152 _ rfl
theorem cs_153 {h : mm_H} (c : PS h) : h 153 = .inl ((.object "WaterReview$Rule"), 30, .inr (.inr (.inr (.inr (rA h 153))))) := c 153 _ rfl
theorem cs_154 {h : mm_H} (c : PS h) : h 154 = .inl (.int, 900, .inl (iA h 154)) := c 154 _ rfl
theorem cs_155 {h : mm_H} (c : PS h) : h 155 = .inl (.int, 900, .inl (iA h 155)) := c 155 _ rfl
theorem cs_156 {h : mm_H} (c : PS h) : h 156 = .inl ((.object "WaterReview$RuleBook"), 8, .inr (.inr (.inr (.inr (rA h 156))))) := c 156 _ rfl
theorem cs_157 {h : mm_H} (c : PS h) : h 157 = .inl ((.object "WaterReview$RuleBook"), 4, .inr (.inr (.inr (.inr (rA h 157))))) := c 157 _ rfl
theorem cs_158 {h : mm_H} (c : PS h) : h 158 = .inl (.int, 15, .inl (iA h 158)) := c 158 _ rfl

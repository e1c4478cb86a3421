/-! ===== the clean machine: entries, ends, calls ===== -/
/-- the locals at a method's entry -/
def mm_en (nL : Nat) (as : List Value) : List (Option Value) := (as.flatMap fun v => if v.category = 2 then [some v, none] else [some v]) ++ List.replicate (nL - (lg_sl as).length) none
def mm_Z (w : mm_X) (G : mm_G) (po : Option Value → mm_H → Nat → Prop) (mc ms : Nat) : State → Prop := match w with
  | (_, _, _, _, s, _, args, below, _, _) => MQ below (mm_Q G po) args s mc ms (mm_A G)
theorem mm_sl (G : mm_G) (as : List Value) : lg_sl (as.map (mm_v G)) = (as.flatMap fun v => if v.category = 2 then [.val (mm_v G v), .second] else [.val (mm_v G v)]) := by
  unfold lg_sl
  rw [List.flatMap_map]
  congr 1
  funext v
  rw [mm_cat]
theorem mm_sl_at (G : mm_G) : ∀ (as : List Value) (i : Nat) (v : Value), (as.flatMap fun v => if v.category = 2 then [some v, none] else [some v])[i]? = some (some v) → (lg_sl (as.map (mm_v G)))[i]? = some (.val (mm_v G v))
  | [], i, v, h => by simp at h
  | a :: as, i, v, h => by
    rw [mm_sl]
    rw [List.flatMap_cons] at h ⊢
    have ih := mm_sl_at G as
    by_cases hc : a.category = 2
    · rw [if_pos hc] at h ⊢
      match i, h with
      | 0, h => cases h; rfl
      | 1, h => cases h
      | i + 2, h => rw [← mm_sl]; exact ih i v h
    · rw [if_neg hc] at h ⊢
      match i, h with
      | 0, h => cases h; rfl
      | i + 1, h => rw [← mm_sl]; exact ih i v h
theorem mm_sl_len (G : mm_G) (as : List Value) : (lg_sl (as.map (mm_v G))).length = (lg_sl as).length := by
  rw [mm_sl]
  unfold lg_sl
  rw [List.length_flatMap, List.length_flatMap]
  congr 1
  apply List.map_congr_left
  intro v _
  by_cases hc : v.category = 2
  · rw [if_pos hc, if_pos hc]; rfl
  · rw [if_neg hc, if_neg hc]; rfl
theorem mm_fl_len (as : List Value) : (as.flatMap fun v => if v.category = 2 then [some v, none] else [some v]).length = (lg_sl as).length := by
  unfold lg_sl
  rw [List.length_flatMap, List.length_flatMap]
  congr 1
  apply List.map_congr_left
  intro v _
  by_cases hc : v.category = 2
  · rw [if_pos hc, if_pos hc]; rfl
  · rw [if_neg hc, if_neg hc]; rfl
theorem mm_entry (G : mm_G) {nL : Nat} {as : List Value} (h : (lg_sl as).length ≤ nL) : mm_L G nL (mm_en nL as) ((lg_sl (as.map (mm_v G)) ++ List.replicate (nL - (lg_sl (as.map (mm_v G))).length) Slot.unset).toArray) := by
  have h' : (lg_sl (as.map (mm_v G))).length ≤ nL := by rw [mm_sl_len]; exact h
  obtain ⟨e1, e2, -⟩ := lv_entry (as.map (mm_v G)) h'
  refine ⟨e1, ?_, e2, fun i v hi => ?_⟩
  · unfold mm_en
    rw [List.length_append, List.length_replicate, mm_fl_len]
    omega
  · unfold mm_en at hi
    by_cases hl : i < (as.flatMap fun v => if v.category = 2 then [some v, none] else [some v]).length
    · rw [List.getElem?_append_left hl] at hi
      have h2 := mm_sl_at G as i v hi
      simp only [List.getElem?_toArray]
      rw [List.getElem?_append_left (List.getElem?_eq_some_iff.mp h2).1]
      exact h2
    · rw [List.getElem?_append_right (by omega)] at hi
      have := List.mem_of_getElem? hi
      rw [List.mem_replicate] at this
      cases this.2
theorem mm_B.blind {G : mm_G} {as : List Value} {h : mm_H} {n : Nat} : FrameBlind (va_Pc (as.map (mm_v G)) (mm_B G h n)) := by
  intro a U g mk q
  obtain ⟨q0, q1, q2, q3⟩ := q
  exact ⟨q0, q1, va_K.moved (u := U) (U := U.calling g mk a) (Vm.Alike.refl U.vm) q2, q3.kept (U := U.calling g mk a) (fun _ _ _ _ h => vk_R.same rfl h) (fun _ _ _ _ _ _ h => va_Nw.same rfl rfl h) (Vm.Alike.refl U.vm) (fun _ _ _ => rfl)⟩
theorem mm_warm {G : mm_G} {s U : State} {H : Heap} {locs : List Loc} (h : mm_O G s s.heap) (hS : va_S (mm_A G) s.heap H locs) (hU : U.heap = H) (hW : s.WarmedH U.vm) : mm_O G U U.heap := by
  rw [hU]
  exact h.kept (fun _ _ _ _ h => vk_R.warm hW h) (fun _ _ _ _ _ _ h => va_Nw.warmF hW h) hW.alike hS.2.1
theorem Sp_of {G : mm_G} {l : Launch} {y : MethodName} {cc : ByteArray} {nL : Nat} {ret : Option FieldType} {d mc ms : Nat} {as : List Value} {h : mm_H} {n : Nat} {po : Option Value → mm_H → Nat → Prop} (hy : plainName y.cls = true) (hl : (lg_sl as).length ≤ nL) (hn : 48 ≤ n)
    (body : ∀ w : mm_X, w.2.1 = l → mm_C w G cc y.cls nL mc ms ret d y.name → WW w G nL mc ms (mm_Z w G po mc ms) 0 (mm_en nL as) [] h n mc ms) : Sp G l y cc nL ret d mc ms as h n po := by
  refine Met.ofW (cc := cc) (maxL := nL) (ret := ret) hy rfl ?_
  intro p e s m args below meth c s₁ B hml hv
  obtain ⟨rfl, hR, hK, hO⟩ := hv
  have hts := atoms_spec (ws := .code y cc nL ret :: mm_tbl) B.pre
  have hown : s.vm.findClass y.cls = some m.cls := findClass_of_methodNamed B.named
  have hnm : meth.name = y.name := (name_of_methodNamed B.named B.method).1
  have k := body (p, l, e, (headSpec (.code y cc nL ret :: mm_tbl) { frames := d, cells := mc, slots := ms, locals := 64 * d }).room, s, m, (as.map (mm_v G)).toArray, below, meth, c) rfl
    ⟨B.exec, B.bytes, hml, hown, fun q hq => hts q (List.mem_cons_of_mem _ hq), hK, hO, B.notSynchronized, B.returns, Nat.le_refl _, Nat.le_refl _, Nat.le_refl _, Nat.le_refl _, by have h1 := hR.1; omega, hnm⟩
  rw [lg_entry_eq]
  exact k _ s.heap [] 0 0 (mm_entry G hl) hR va_S.rf (by omega) (by omega)
theorem Sp.weaken {G : mm_G} {l : Launch} {y : MethodName} {cc : ByteArray} {nL : Nat} {ret : Option FieldType} {d mc ms : Nat} {as : List Value} {h : mm_H} {n : Nat} {po po' : Option Value → mm_H → Nat → Prop} (hS : Sp G l y cc nL ret d mc ms as h n po) (hpo : ∀ v h' n', po v h' n' → po' v h' n') : Sp G l y cc nL ret d mc ms as h n po' := by
  have key : ∀ (a : Array Value) (s : State) (o : Outcome) (t : State), mm_Q G po a s o t → mm_Q G po' a s o t := by
    intro a s o t ⟨⟨v, h', n', e1, e2, e3⟩, e4⟩
    exact ⟨⟨v, h', n', e1, hpo _ _ _ e2, e3⟩, e4⟩
  intro p e ha hc hk s m args below hf happ hP hx
  obtain ⟨t, o, h1, h2, h3, h4, h5⟩ := hS p e ha hc hk s m args below hf happ hP hx
  exact ⟨t, o, h1, h2, h3, key _ _ _ _ h4, h5⟩
/-- the words of a call of an instance method -/
def IV (own : String) (index : Nat) (y : MethodName) (cc : ByteArray) (nL : Nat) (ret : Option FieldType) (k : Nat) : Prop :=
  Cond.methodLink own index y ∈ mm_tbl ∧ Cond.instanceMethod y ∈ mm_tbl ∧ Cond.selects y.cls y y ∈ mm_tbl ∧ Cond.initialized y.cls ∈ mm_tbl ∧ Cond.code y cc nL ret ∈ mm_tbl ∧
  (y.cls ≠ "java/lang/invoke/MethodHandle" ∧ y.cls ≠ "java/lang/invoke/VarHandle" ∧ (parseMethodDescriptor y.desc).map (fun d => d.parameters.length) = some k) ∧ nL ≤ 45
def IT (own : String) (index : Nat) (y : MethodName) (cc : ByteArray) (nL : Nat) (ret : Option FieldType) (k : Nat) : Prop :=
  Cond.methodLink own index y ∈ mm_tbl ∧ Cond.static y ∈ mm_tbl ∧ Cond.initialized y.cls ∈ mm_tbl ∧ Cond.code y cc nL ret ∈ mm_tbl ∧
  (y.cls ≠ "java/lang/invoke/MethodHandle" ∧ y.cls ≠ "java/lang/invoke/VarHandle" ∧ (parseMethodDescriptor y.desc).map (fun d => d.parameters.length) = some k) ∧ nL ≤ 45
def II (own : String) (index : Nat) (y : MethodName) (cc : ByteArray) (nL : Nat) (k : Nat) : Prop :=
  Cond.methodLink own index y ∈ mm_tbl ∧ Cond.instanceMethod y ∈ mm_tbl ∧ Cond.initialized y.cls ∈ mm_tbl ∧ Cond.code y cc nL none ∈ mm_tbl ∧
  (y.cls ≠ "java/lang/invoke/MethodHandle" ∧ y.cls ≠ "java/lang/invoke/VarHandle" ∧ (parseMethodDescriptor y.desc).map (fun d => d.parameters.length) = some k) ∧ nL ≤ 45 ∧ y.name = "<init>"
/-- a call of a method of the receiver's class C that another class declares; of super; of an overridden one -/
def IVU (own : String) (index : Nat) (Cn : String) (y : MethodName) (cc : ByteArray) (nL : Nat) (ret : Option FieldType) (k : Nat) : Prop :=
  Cond.methodLink own index y ∈ mm_tbl ∧ Cond.instanceMethod y ∈ mm_tbl ∧ Cond.selects Cn y y ∈ mm_tbl ∧ Cond.initialized y.cls ∈ mm_tbl ∧ Cond.code y cc nL ret ∈ mm_tbl ∧
  (y.cls ≠ "java/lang/invoke/MethodHandle" ∧ y.cls ≠ "java/lang/invoke/VarHandle" ∧ (parseMethodDescriptor y.desc).map (fun d => d.parameters.length) = some k) ∧ nL ≤ 45
def ISU (own : String) (index : Nat) (y : MethodName) (cc : ByteArray) (nL : Nat) (ret : Option FieldType) (k : Nat) : Prop :=
  Cond.methodLink own index y ∈ mm_tbl ∧ Cond.sameMethod y.cls y.cls y.name y.desc ∈ mm_tbl ∧ Cond.superclass own y.cls ∈ mm_tbl ∧ Cond.instanceMethod y ∈ mm_tbl ∧ Cond.initialized y.cls ∈ mm_tbl ∧ Cond.code y cc nL ret ∈ mm_tbl ∧
  (y.name ≠ "<init>" ∧ (parseMethodDescriptor y.desc).map (fun d => d.parameters.length) = some k) ∧ nL ≤ 45
def IVO (own : String) (index : Nat) (Cn owner : String) (x y : MethodName) (cc : ByteArray) (nL : Nat) (ret : Option FieldType) (k : Nat) (b0 : ByteArray) (m0 : Nat) (r0 : Option FieldType) : Prop :=
  Cond.methodLink own index x ∈ mm_tbl ∧ Cond.sameMethod x.cls owner x.name x.desc ∈ mm_tbl ∧ Cond.instanceMethod ⟨owner, x.name, x.desc⟩ ∈ mm_tbl ∧ Cond.selects Cn x y ∈ mm_tbl ∧ Cond.instanceMethod y ∈ mm_tbl ∧ Cond.initialized y.cls ∈ mm_tbl ∧ Cond.code y cc nL ret ∈ mm_tbl ∧ Cond.code ⟨owner, x.name, x.desc⟩ b0 m0 r0 ∈ mm_tbl ∧
  (owner ≠ "java/lang/invoke/MethodHandle" ∧ owner ≠ "java/lang/invoke/VarHandle" ∧ (parseMethodDescriptor x.desc).map (fun d => d.parameters.length) = some k) ∧ nL ≤ 45
theorem mm_goods {ws : List Cond} (h : ∀ q ∈ ws, q ∈ mm_tbl) : GoodIn mm_tbl ws := fun q hq => ⟨h q hq, good_of_word (List.mem_filter.mp (h q hq)).2⟩
theorem mm_good {y : MethodName} {cc : ByteArray} {nL : Nat} {ret : Option FieldType} (h : Cond.code y cc nL ret ∈ mm_tbl) : GoodIn mm_tbl (.code y cc nL ret :: mm_tbl) := by
  intro q hq
  have hq' : q ∈ mm_tbl := by
    rcases List.mem_cons.mp hq with rfl | hq
    · exact h
    · exact hq
  exact ⟨hq', good_of_word (List.mem_filter.mp hq').2⟩
section MMC
variable {w : mm_X} {G : mm_G} {cc : ByteArray} {own nm : String} {nL mc ms d pc n kc ks : Nat} {ret : Option FieldType} {Q : State → Prop} {L : List (Option Value)} {st : List Value} {h : mm_H}
theorem rr_iret (C : mm_C w G cc own nL mc ms ret d nm) {po : Option Value → mm_H → Nat → Prop} {v : Int32} {ty : FieldType} (hd : decode cc pc = .ok (.ireturn, 1)) (hret : ret = some ty) (hn : narrow ty (.int v) = .int v) (hp : po (some (.int v)) h n) : WW w G nL mc ms (mm_Z w G po mc ms) pc L [.int v] h n kc ks := by
  obtain ⟨p, l, e, R, s, m, args, below, meth, c⟩ := w
  intro ls H locs cells slots hL hR hS hc hs
  refine W.widen (k := mc) (n := ms) (by omega) (by omega) ?_
  exact W.zret C.1 C.2.1 (hret ▸ C.2.2.2.2.2.2.2.2.1) hn (fun t ht _ => ⟨⟨some (.int v), h, n, rfl, hp, by rw [ht]; exact hR⟩, hS.F ht⟩) hS.2.2 hd C.2.2.2.2.2.2.2.1
theorem rr_lret (C : mm_C w G cc own nL mc ms ret d nm) {po : Option Value → mm_H → Nat → Prop} {v : Int64} (hd : decode cc pc = .ok (.lreturn, 1)) (hret : ret = some .long) (hp : po (some (.long v)) h n) : WW w G nL mc ms (mm_Z w G po mc ms) pc L [.long v] h n kc ks := by
  obtain ⟨p, l, e, R, s, m, args, below, meth, c⟩ := w
  intro ls H locs cells slots hL hR hS hc hs
  refine W.widen (k := mc) (n := ms) (by omega) (by omega) ?_
  exact W.lret C.1 C.2.1 (hret ▸ C.2.2.2.2.2.2.2.2.1) (fun t ht _ => ⟨⟨some (.long v), h, n, rfl, hp, by rw [ht]; exact hR⟩, hS.F ht⟩) hS.2.2 hd C.2.2.2.2.2.2.2.1
theorem rr_vret (C : mm_C w G cc own nL mc ms ret d nm) {po : Option Value → mm_H → Nat → Prop} (hd : decode cc pc = .ok (.return_, 1)) (hret : ret = none) (hp : po none h n) : WW w G nL mc ms (mm_Z w G po mc ms) pc L [] h n kc ks := by
  obtain ⟨p, l, e, R, s, m, args, below, meth, c⟩ := w
  intro ls H locs cells slots hL hR hS hc hs
  refine W.widen (k := mc) (n := ms) (by omega) (by omega) ?_
  exact W.vret C.1 C.2.1 (hret ▸ C.2.2.2.2.2.2.2.2.1) (fun t ht _ => ⟨⟨none, h, n, rfl, hp, by rw [ht]; exact hR⟩, hS.F ht⟩) hS.2.2 hd C.2.2.2.2.2.2.2.1
theorem rr_aret (C : mm_C w G cc own nL mc ms ret d nm) {po : Option Value → mm_H → Nat → Prop} {r : Option Nat} {rt : FieldType} (hd : decode cc pc = .ok (.areturn, 1)) (hret : ret = some rt) (hrt : (∃ q, rt = .object q) ∨ ∃ t, rt = .array t) (hp : po (some (va_rf r)) h n) : WW w G nL mc ms (mm_Z w G po mc ms) pc L [va_rf r] h n kc ks := by
  obtain ⟨p, l, e, R, s, m, args, below, meth, c⟩ := w
  intro ls H locs cells slots hL hR hS hc hs
  refine W.widen (k := mc) (n := ms) (by omega) (by omega) ?_
  exact W.aret (v := mm_v G (va_rf r)) C.1 C.2.1 (hret ▸ C.2.2.2.2.2.2.2.2.1) hrt (by cases r; exact Or.inl rfl; exact Or.inr ⟨_, rfl⟩) (fun t ht _ => ⟨⟨some (va_rf r), h, n, rfl, hp, by rw [ht]; exact hR⟩, hS.F ht⟩) hS.2.2 hd C.2.2.2.2.2.2.2.1
theorem mm_back {p : Program} {l : Launch} {e : Env} {R : Room} {s : State} {m : MethodId} {args : Array Value} {below : List Frame} {meth : Method} {c : Code} {mc' ms' : Nat} {po : Option Value → mm_H → Nat → Prop} {ls : Array Slot} {H : Heap} {locs : List Loc} {cells slots : Nat} {a : Array Value} {st0 rest : List Value}
    (hr : va_Run p l e R s m args below meth c H locs cells slots mc' ms' (F0 m pc ls st0) (rest.map (mm_v G)) (mm_Q G po a) (mm_A G)) (hL : mm_L G nL L ls) (hS : va_S (mm_A G) s.heap H locs) (hc : cells + (kc + mc') ≤ mc) (hs : slots + (ks + ms') ≤ ms)
    (kk : ∀ (v : Option Value) (h' : mm_H) (n' : Nat), po v h' n' → WW (p, l, e, R, s, m, args, below, meth, c) G nL mc ms Q (pc + 3) L (v.toList ++ rest) h' n' kc ks) : W p l e R s m args below meth c H locs cells slots Q (F0 m pc ls st0) := by
  intro T hT X
  obtain ⟨v, st₀, t, T', L', h0, X', hL', e1, e2, ⟨⟨v0, h', n', q1, q2, q3⟩, q4⟩, step⟩ := hr T hT X
  cases q1
  unfold va_F at q4
  rw [← e1] at q3 q4
  have hS' : va_S (mm_A G) s.heap T'.heap (locs ++ L') := ⟨Nat.le_trans hS.1 (by rw [← h0]; exact q4.1), fun q h1 h2 => (q4.2 q (by rw [h0]; exact Nat.lt_of_lt_of_le h1 hS.1) h2).trans (by rw [h0]; exact hS.2.1 q h1 h2), fun q hq => by
    rcases List.mem_append.mp hq with h | h
    · exact hS.2.2 q h
    · exact hL' q h⟩
  have k1 := kk v0 h' n' q2 ls T'.heap _ (cells + mc') (slots + ms') hL q3 hS' (by omega) (by omega) T' rfl X'
  obtain ⟨t2, a1, b1⟩ := k1
  refine ⟨t2, step t2 ?_, b1⟩
  have hst : (v0.toList ++ rest).map (mm_v G) = (v0.map (mm_v G)).toList ++ rest.map (mm_v G) := by cases v0 <;> rfl
  rw [hst] at a1
  exact a1
theorem rr_callV (C : mm_C w G cc own nL mc ms ret d nm) {y : MethodName} {cc' : ByteArray} {nL' d' mc' ms' index a ci : Nat} {ret' : Option FieldType} {as fs : List Value} {po : Option Value → mm_H → Nat → Prop} {T : u_T} {N : Nat} (hd : decode cc pc = .ok (.invokevirtual index, 3)) (hw : IV own index y cc' nL' ret' as.length) (hdd : d' + 1 ≤ d) (ha : 48 ≤ a ∧ a < n) (he : h a = .inr (ci, fs)) (hcl : vwCl[ci]? = some (y.cls, T, N)) (hst : (st.map fun v => v.category).sum ≤ 8)
    (hM : Sp G w.2.1 y cc' nL' ret' d' mc' ms' (.ref a :: as) h n po) (kk : ∀ (v : Option Value) (h' : mm_H) (n' : Nat), po v h' n' → WW w G nL mc ms Q (pc + 3) L (v.toList ++ st) h' n' kc ks) : WW w G nL mc ms Q pc L (as.reverse ++ .ref a :: st) h n (kc + mc') (ks + ms') := by
  obtain ⟨p, l, e, R, s, m, args, below, meth, c⟩ := w
  intro ls H locs cells slots hL hR hS hc hs
  obtain ⟨w1, w2, w3, w4, w5, w6, w7⟩ := hw
  have hmc := C.2.2.2.2.2.2.2.2.2.1
  have hms := C.2.2.2.2.2.2.2.2.2.2.1
  have hfr := C.2.2.2.2.2.2.2.2.2.2.2.1
  have hlo := C.2.2.2.2.2.2.2.2.2.2.2.2.1
  have h1 := hR.2.2.1 a ha.1 ha.2
  rw [he] at h1
  have hrec : ∃ cell : Cell, H[mm_a G a]? = some cell ∧ cell.vm.isStatics = false ∧ s.vm.findClass y.cls = some cell.cls := va_recv (q := (y.cls, T, N)) C.2.2.2.2.2.1 (mm_one h1) hcl (q0 := 0) rfl
  have cw : CallW R s args own y.cls index y cc' nL' ret' (.code y cc' nL' ret' :: mm_tbl) { frames := d', cells := mc', slots := ms', locals := 64 * d' } mc' ms' as.length :=
    ⟨callB_of as.length C.2.2.2.2.1 (mm_good w5) rfl rfl rfl (C.2.2.2.2.1 _ w4) (C.2.2.2.2.1 _ w1) w6 ⟨by show d' + 1 ≤ R.frames; omega, by show 8 + (nL' + 11) + 64 * d' ≤ R.locals; omega⟩, C.2.2.2.2.1 _ w2, C.2.2.2.2.1 _ w3⟩
  refine mm_back (rest := st) (va_runV (As := as.map (mm_v G)) (rest := st.map (mm_v G)) (b := mm_a G a) ⟨C.1, C.2.1, C.2.2.1, C.2.2.2.1, C.2.2.2.2.1⟩ hM cw ⟨mm_B.blind, hrec, fun U hU hW => ⟨rfl, by rw [hU]; exact hR, va_K.moved hW.alike C.2.2.2.2.2.1, mm_warm C.2.2.2.2.2.2.1 hS hU hW⟩⟩ rfl (by rw [List.length_map]) hL.1 ?_ (lv_room (by rw [mm_cats]; exact hst)) hd ⟨by omega, by omega⟩) hL hS hc hs kk
  show (as.reverse ++ .ref a :: st).map (mm_v G) = _
  rw [List.map_append, List.map_reverse]
  rfl
theorem rr_callS (C : mm_C w G cc own nL mc ms ret d nm) {y : MethodName} {cc' : ByteArray} {nL' d' mc' ms' index : Nat} {ret' : Option FieldType} {as : List Value} {po : Option Value → mm_H → Nat → Prop} (hd : decode cc pc = .ok (.invokestatic index, 3)) (hw : IT own index y cc' nL' ret' as.length) (hdd : d' + 1 ≤ d) (hst : (st.map fun v => v.category).sum ≤ 8)
    (hM : Sp G w.2.1 y cc' nL' ret' d' mc' ms' as h n po) (kk : ∀ (v : Option Value) (h' : mm_H) (n' : Nat), po v h' n' → WW w G nL mc ms Q (pc + 3) L (v.toList ++ st) h' n' kc ks) : WW w G nL mc ms Q pc L (as.reverse ++ st) h n (kc + mc') (ks + ms') := by
  obtain ⟨p, l, e, R, s, m, args, below, meth, c⟩ := w
  intro ls H locs cells slots hL hR hS hc hs
  obtain ⟨w1, w2, w4, w5, w6, w7⟩ := hw
  have hmc := C.2.2.2.2.2.2.2.2.2.1
  have hms := C.2.2.2.2.2.2.2.2.2.2.1
  have hfr := C.2.2.2.2.2.2.2.2.2.2.2.1
  have hlo := C.2.2.2.2.2.2.2.2.2.2.2.2.1
  have cw : CallB R s args own index y cc' nL' ret' (.code y cc' nL' ret' :: mm_tbl) { frames := d', cells := mc', slots := ms', locals := 64 * d' } mc' ms' as.length :=
    callB_of as.length C.2.2.2.2.1 (mm_good w5) rfl rfl rfl (C.2.2.2.2.1 _ w4) (C.2.2.2.2.1 _ w1) w6 ⟨by show d' + 1 ≤ R.frames; omega, by show 8 + (nL' + 11) + 64 * d' ≤ R.locals; omega⟩
  refine mm_back (rest := st) (va_runS (As := as.map (mm_v G)) (rest := st.map (mm_v G)) ⟨C.1, C.2.1, C.2.2.1, C.2.2.2.1, C.2.2.2.2.1⟩ hM ⟨cw, C.2.2.2.2.1 _ w2⟩ ⟨mm_B.blind, fun U hU hW => ⟨rfl, by rw [hU]; exact hR, va_K.moved hW.alike C.2.2.2.2.2.1, mm_warm C.2.2.2.2.2.2.1 hS hU hW⟩⟩ rfl (by rw [List.length_map]) hL.1 ?_ (lv_room (by rw [mm_cats]; exact hst)) hd ⟨by omega, by omega⟩) hL hS hc hs kk
  show (as.reverse ++ st).map (mm_v G) = _
  rw [List.map_append, List.map_reverse]
theorem rr_callI (C : mm_C w G cc own nL mc ms ret d nm) {y : MethodName} {cc' : ByteArray} {nL' d' mc' ms' index a : Nat} {as : List Value} {po : Option Value → mm_H → Nat → Prop} (hd : decode cc pc = .ok (.invokespecial index, 3)) (hw : II own index y cc' nL' as.length) (hdd : d' + 1 ≤ d) (hst : (st.map fun v => v.category).sum ≤ 8)
    (hM : Sp G w.2.1 y cc' nL' none d' mc' ms' (.ref a :: as) h n po) (kk : ∀ (v : Option Value) (h' : mm_H) (n' : Nat), po v h' n' → WW w G nL mc ms Q (pc + 3) L (v.toList ++ st) h' n' kc ks) : WW w G nL mc ms Q pc L (as.reverse ++ .ref a :: st) h n (kc + mc') (ks + ms') := by
  obtain ⟨p, l, e, R, s, m, args, below, meth, c⟩ := w
  intro ls H locs cells slots hL hR hS hc hs
  obtain ⟨w1, w2, w4, w5, w6, w7, w8⟩ := hw
  have hmc := C.2.2.2.2.2.2.2.2.2.1
  have hms := C.2.2.2.2.2.2.2.2.2.2.1
  have hfr := C.2.2.2.2.2.2.2.2.2.2.2.1
  have hlo := C.2.2.2.2.2.2.2.2.2.2.2.2.1
  have cw : CallB R s args own index y cc' nL' none (.code y cc' nL' none :: mm_tbl) { frames := d', cells := mc', slots := ms', locals := 64 * d' } mc' ms' as.length :=
    callB_of as.length C.2.2.2.2.1 (mm_good w5) rfl rfl rfl (C.2.2.2.2.1 _ w4) (C.2.2.2.2.1 _ w1) w6 ⟨by show d' + 1 ≤ R.frames; omega, by show 8 + (nL' + 11) + 64 * d' ≤ R.locals; omega⟩
  refine mm_back (rest := st) (va_runI (As := as.map (mm_v G)) (rest := st.map (mm_v G)) (b := mm_a G a) ⟨C.1, C.2.1, C.2.2.1, C.2.2.2.1, C.2.2.2.2.1⟩ hM ⟨cw, w8, C.2.2.2.2.1 _ w2⟩ ⟨mm_B.blind, fun U hU hW => ⟨rfl, by rw [hU]; exact hR, va_K.moved hW.alike C.2.2.2.2.2.1, mm_warm C.2.2.2.2.2.2.1 hS hU hW⟩⟩ rfl (by rw [List.length_map]) hL.1 ?_ (lv_room (by rw [mm_cats]; exact hst)) hd ⟨by omega, by omega⟩) hL hS hc hs kk
  show (as.reverse ++ .ref a :: st).map (mm_v G) = _
  rw [List.map_append, List.map_reverse]
  rfl
/-- Object's constructor -/
theorem rr_obj (C : mm_C w G cc own nL mc ms ret d nm) {index a : Nat} (hd : decode cc pc = .ok (.invokespecial index, 3)) (hw : Cond.methodLink own index objectInit ∈ mm_tbl ∧ Cond.instanceMethod objectInit ∈ mm_tbl ∧ Cond.code objectInit ⟨#[0xb1]⟩ 1 none ∈ mm_tbl) (hdd : 1 ≤ d) (hst : (st.map fun v => v.category).sum ≤ 8)
    (kk : WW w G nL mc ms Q (pc + 3) L st h n kc ks) : WW w G nL mc ms Q pc L (.ref a :: st) h n kc ks := by
  obtain ⟨p, l, e, R, s, m, args, below, meth, c⟩ := w
  intro ls H locs cells slots hL hR hS hc hs
  have hfr := C.2.2.2.2.2.2.2.2.2.2.2.1
  have hlo := C.2.2.2.2.2.2.2.2.2.2.2.2.1
  have hst' : ((st.map (mm_v G)).map fun v => v.category).sum ≤ 8 := by rw [mm_cats]; exact hst
  have hrm := lv_room (pc := pc) (ls := ls) (m := m) (rest := st.map (mm_v G)) hst'
  exact W.objInit C.1 C.2.1 C.2.2.2.1 (C.2.2.2.2.1 _ hw.1) (C.2.2.2.2.1 _ hw.2.1) (C.2.2.2.2.1 _ hw.2.2) rfl (by rw [C.2.2.1]; exact hL.1) rfl hd (by omega) (Nat.le_trans (Nat.add_le_add_right hrm 12) (by omega)) (kk ls H locs cells slots hL hR hS hc hs)
theorem rr_cut (C : mm_C w G cc own nL mc ms ret d nm) {kc' ks' : Nat} (h1 : kc' ≤ kc) (h2 : ks' ≤ ks) (kk : WW w G nL mc ms Q pc L st h n kc' ks') : WW w G nL mc ms Q pc L st h n kc ks := by
  obtain ⟨p, l, e, R, s, m, args, below, meth, c⟩ := w
  intro ls H locs cells slots hL hR hS hc hs
  exact kk ls H locs cells slots hL hR hS (by omega) (by omega)
/-- fewer locals are enough -/
theorem rr_sub {L' : List (Option Value)} (hl : L'.length = L.length) (hs : ∀ (i : Nat) (v : Value), L'[i]? = some (some v) → L[i]? = some (some v)) (kk : WW w G nL mc ms Q pc L' st h n kc ks) : WW w G nL mc ms Q pc L st h n kc ks := by
  obtain ⟨p, l, e, R, s, m, args, below, meth, c⟩ := w
  intro ls H locs cells slots hL hR hS hc hsl
  exact kk ls H locs cells slots ⟨hL.1, hl.trans hL.2.1, hL.2.2.1, fun i v h => hL.2.2.2 i v (hs i v h)⟩ hR hS hc hsl
end MMC

/-! ===== the clean machine: a heap of virtual addresses (below 48: cells that were there before; from 48 on: the own ones in the order in which they were made) ===== -/
abbrev mm_E : Type := (FieldType × vp_A) ⊕ (Nat × List Value)
abbrev mm_H : Type := Nat → mm_E
def mm_up (h : mm_H) (a : Nat) (e : mm_E) : mm_H := fun b => if b = a then e else h b
theorem mm_up_s {h : mm_H} {a : Nat} {e : mm_E} : mm_up h a e a = e := if_pos rfl
theorem mm_up_n {h : mm_H} {a b : Nat} {e : mm_E} (q : b ≠ a) : mm_up h a e b = h b := if_neg q
/-- classes and slots; an array's class by its type; where the outer cells lie; where the own begin; what outer arrays hold -/
abbrev mm_G : Type := va_G × (FieldType → ClassId) × (Nat → Nat) × Nat × mm_H
def mm_a (G : mm_G) (a : Nat) : Nat := if a < 48 then G.2.2.1 a else if a < 1000000 then G.2.2.2.1 + (a - 48) else G.2.2.1 a
def mm_v (G : mm_G) : Value → Value
  | .ref a => .ref (mm_a G a)
  | .int x => .int x
  | .long x => .long x
  | .float x => .float x
  | .double x => .double x
  | .null => .null
  | .retAddr x => .retAddr x
def mm_x (G : mm_G) (x : vp_A) : vp_A := match x.2 with
  | .inr (.inr (.inr (.inr f))) => (x.1, .inr (.inr (.inr (.inr (fun i => (f i).map (mm_a G))))))
  | .inl f => (x.1, .inl f)
  | .inr (.inl f) => (x.1, .inr (.inl f))
  | .inr (.inr (.inl f)) => (x.1, .inr (.inr (.inl f)))
  | .inr (.inr (.inr (.inl f))) => (x.1, .inr (.inr (.inr (.inl f))))
def mm_e (G : mm_G) : mm_E → va_E
  | .inl a => .inl (G.2.1 a.1, mm_x G a.2)
  | .inr o => .inr (o.1, o.2.map (mm_v G))
def mm_A (G : mm_G) : Nat → Prop := fun q => G.2.2.2.1 ≤ q
def mm_tys : List FieldType := [.int, .long, .byte, .byte, .object "WaterReview$Rule", .object "WaterReview$RuleBook", .array .int, .array .long]
def mm_T (G : mm_G) : List (ClassId × FieldType) := mm_tys.map (fun t => (G.2.1 t, t))
def mm_R (G : mm_G) (h : mm_H) (n : Nat) (H : Heap) : Prop :=
  H.size + 48 = G.2.2.2.1 + n ∧ (48 ≤ n ∧ n ≤ 1000000) ∧ (∀ a, 48 ≤ a → a < n → va_at G.1 vwCl (mm_a G a, mm_e G (h a)) H) ∧ ∀ a, (a < 48 ∨ 1000000 ≤ a) → h a = G.2.2.2.2 a
/-- the words of the tables that stay as they are -/
def sb_privs : List MethodName := [yJ5_ensureCapacityInternal_d00df, yJ5_newCapacity_0f7a4, yJ5_putStringAt_47b60, yJ5_inflateIfNeededFor_a7421]
/-- a StringBuilder's private methods are AbstractStringBuilder's: what the tables imply -/
def sb_sels : List Cond := sb_privs.map (fun y => Cond.selects RJ4 y y)
def mm_tbl : List Cond := (sb_sels ++ lw_tbl).filter goodWord
theorem mm_of_tbl {q : Cond} (h : q ∈ lw_tbl) (hg : goodWord q = true) : q ∈ mm_tbl := List.mem_filter.mpr ⟨List.mem_append_right _ h, hg⟩
theorem mm_of_sb {q : Cond} (h : q ∈ sb_sels) (hg : goodWord q = true) : q ∈ mm_tbl := List.mem_filter.mpr ⟨List.mem_append_left _ h, hg⟩
def mm_AOA (t : FieldType) (U : State) : Prop := (Cond.arrayOver (.array t)).before #[] U = true
theorem mm_AOA.moved {t : FieldType} {u U : State} (hvm : u.vm.Alike U.vm) (h : mm_AOA t u) : mm_AOA t U := by
  have h2 : (Cond.arrayOver (.array t)).before #[] (u.setVm U.vm) = true := by
    rw [Cond.arrayOver_setVmC hvm]
    exact h
  unfold mm_AOA
  simp only [Cond.before, Cond.holds, Cond.value] at h2 ⊢
  exact h2
/-- the texts that Reader loads, by their places in its constant pool -/
def mm_tx : List (Nat × String) := [(64, "amend"), (77, "strike"), (112, "allow share target return index wear back tilt log"), (125, "run pipes power other"), (141, "unless"), (152, "line mean best plan"), (160, "more less"), (163, "step"), (166, "coin"), (170, "dead"), (174, "cap"), (181, "or"), (189, "and"), (191, "not"), (200, "year firm homes worth late")]
def mm_len : List Nat := mm_tx.map (fun q => q.2.length)
def mm_byt : List (List Int32) := mm_tx.map (fun q => q.2.toList.map (fun c => Int32.ofNat c.toNat))
/-- constants of type String: what is known of each -/
def mm_VS (N : Nat) (len : List Nat) (byt : List (List Int32)) (adK adV : Nat → Nat) (A : Nat → Prop) (U : State) (H : Heap) : Prop :=
  ∀ i : Nat, i < N → va_O "java/lang/String" (adK i) A U H ∧ va_OF "java/lang/String" "coder" "B" (.int 0) (adK i) A U H ∧ va_OF "java/lang/String" "value" "[B" (.ref (adV i)) (adK i) A U H ∧ va_T .byte (adV i) (len.getD i 0) (fun j => .int ((byt.getD i []).getD j 0)) A U H
theorem mm_VS.moved {N : Nat} {len : List Nat} {byt : List (List Int32)} {adK adV : Nat → Nat} {A : Nat → Prop} {u U : State} {H : Heap} (hvm : u.vm.Alike U.vm) (h : mm_VS N len byt adK adV A u H) : mm_VS N len byt adK adV A U H :=
  fun i hi => ⟨va_O.moved hvm (h i hi).1, va_OF.moved hvm (h i hi).2.1, va_OF.moved hvm (h i hi).2.2.1, va_T.moved hvm (h i hi).2.2.2⟩
theorem mm_VS.kept {N : Nat} {len : List Nat} {byt : List (List Int32)} {adK adV : Nat → Nat} {A : Nat → Prop} {U : State} {H H1 : Heap} (h : mm_VS N len byt adK adV A U H) (hq : ∀ a : Nat, a < H.size → ¬ A a → H1[a]? = H[a]?) : mm_VS N len byt adK adV A U H1 :=
  fun i hi => ⟨(h i hi).1.kept hq, (h i hi).2.1.kept hq, (h i hi).2.2.1.kept hq, (h i hi).2.2.2.kept hq⟩
theorem mm_VS.recv {N : Nat} {len : List Nat} {byt : List (List Int32)} {adK adV : Nat → Nat} {A : Nat → Prop} {s : State} {H : Heap} {locs : List Loc} {i : Nat} (hE : mm_VS N len byt adK adV A s s.heap) (hi : i < N) (hS : va_S A s.heap H locs) : ∃ cell : Cell, H[adK i]? = some cell ∧ cell.vm.isStatics = false ∧ s.vm.findClass "java/lang/String" = some cell.cls := by
  obtain ⟨cell, h1, h2, h3, -⟩ := (hE i hi).1.kept hS.2.1
  exact ⟨cell, h1, h2, h3⟩
/-- the law's texts, by their places in its constant pool -/
def mm_tl : List (Nat × String) := [(33, "return "), (42, ";index "), (44, ";wear "), (46, ";back "), (48, " unless year>3;"), (50, "tilt "), (52, ";"), (58, ""), (60, "log "), (62, ";allow run plan "), (64, ";share run "), (66, " "), (68, ";target 1 "), (70, "less "), (72, "more "), (74, " step "), (76, " coin "), (78, " dead "), (80, " cap ")]
def mm_lenL : List Nat := mm_tl.map (fun q => q.2.length)
def mm_bytL : List (List Int32) := mm_tl.map (fun q => q.2.toList.map (fun c => Int32.ofNat c.toNat))
def mm_OL (G : mm_G) (U : State) (H : Heap) : Prop :=
  mm_VS 19 mm_lenL mm_bytL (fun i => G.2.2.1 (1000000 + i)) (fun i => G.2.2.1 (1000100 + i)) (mm_A G) U H ∧
  (∀ i, i < 19 → vk_R "WaterReviewLaw" (mm_tl.getD i (0, "")).1 (mm_tl.getD i (0, "")).2 (G.2.2.1 (1000000 + i)) U) ∧
  va_Z "java/lang/Integer" "DigitOnes" "[B" (.ref (G.2.2.1 1000200)) (mm_A G) U H ∧ va_Z "java/lang/Integer" "DigitTens" "[B" (.ref (G.2.2.1 1000201)) (mm_A G) U H ∧
  va_Nw (.castable "[B" "java/lang/Cloneable") U
theorem mm_OL.kept {G : mm_G} {u U : State} {H H1 : Heap} (hr : ∀ (o tx : String) (k a : Nat), vk_R o k tx a u → vk_R o k tx a U) (hvm : u.vm.Alike U.vm) (h : mm_OL G u H) (hq : ∀ a : Nat, a < H.size → ¬ mm_A G a → H1[a]? = H[a]?) : mm_OL G U H1 := by
  obtain ⟨h1, h2, h3, h4, h5⟩ := h
  exact ⟨(h1.moved hvm).kept hq, fun i hi => hr _ _ _ _ (h2 i hi), (h3.moved hvm).kept hq, (h4.moved hvm).kept hq, va_tabs rfl (rfl : (u.setVm U.vm).vm = U.vm) (by rw [Cond.castable_setVm hvm]; exact h5)⟩
/-- what is given of the cells that were there before -/
def mm_O (G : mm_G) (U : State) (H : Heap) : Prop :=
  mm_OL G U H ∧
  (∀ (a n : Nat) (ty : FieldType) (f : Nat → Int32), (a < 48 ∨ 1000000 ≤ a) → (ty = .int ∨ ty = .byte) → G.2.2.2.2 a = .inl (ty, n, .inl f) → va_T ty (G.2.2.1 a) n (fun j => .int (f j)) (mm_A G) U H) ∧
  va_Z "WaterReview" "PARTS" "[I" (.ref (G.2.2.1 1)) (mm_A G) U H ∧ va_Z "WaterReview" "NO_TEST" "[I" (.ref (G.2.2.1 2)) (mm_A G) U H ∧
  va_Z "java/lang/String" "COMPACT_STRINGS" "Z" (.int 1) (mm_A G) U H ∧
  (va_Z "jdk/internal/util/Preconditions" "SIOOBE_FORMATTER" "Ljava/util/function/BiFunction;" .null (mm_A G) U H ∨ va_Z "jdk/internal/util/Preconditions" "SIOOBE_FORMATTER" "Ljava/util/function/BiFunction;" (.ref (G.2.2.1 33)) (mm_A G) U H) ∧
  mm_VS 15 mm_len mm_byt (fun i => G.2.2.1 (3 + i)) (fun i => G.2.2.1 (18 + i)) (mm_A G) U H ∧
  (∀ i, i < 15 → vk_R "WaterReview$Reader" (mm_tx.getD i (0, "")).1 (mm_tx.getD i (0, "")).2 (G.2.2.1 (3 + i)) U) ∧
  va_AO "WaterReview$Rule" U ∧ va_AO "WaterReview$RuleBook" U ∧ mm_AOA .int U ∧ (mm_AOA .long U ∧ va_Nw (.castable "[I" "java/lang/Cloneable") U) ∧
  ∀ (a : String) (i : Nat) (b n d h : String), (Cond.fieldLinkNest a i b n d h) ∈ lw_tbl → va_Nw (.fieldLinkNest a i b n d h) U
theorem mm_O.kept {G : mm_G} {u U : State} {H H1 : Heap} (hr : ∀ (o tx : String) (k a : Nat), vk_R o k tx a u → vk_R o k tx a U) (hw : ∀ (a : String) (i : Nat) (b n d h : String), va_Nw (.fieldLinkNest a i b n d h) u → va_Nw (.fieldLinkNest a i b n d h) U) (hvm : u.vm.Alike U.vm) (h : mm_O G u H) (hq : ∀ a : Nat, a < H.size → ¬ mm_A G a → H1[a]? = H[a]?) : mm_O G U H1 := by
  obtain ⟨h1, h2, h3, h4, h5, h6, h7, h8, h9, h10, h11, h12, h13⟩ := h
  exact ⟨h1.kept hr hvm hq, fun a n ty f ha ht he => ((h2 a n ty f ha ht he).moved hvm).kept hq, (h3.moved hvm).kept hq, (h4.moved hvm).kept hq, (h5.moved hvm).kept hq, h6.elim (fun q => Or.inl ((q.moved hvm).kept hq)) (fun q => Or.inr ((q.moved hvm).kept hq)), (h7.moved hvm).kept hq, fun i hi => hr _ _ _ _ (h8 i hi), h9.moved hvm, h10.moved hvm, h11.moved hvm, ⟨h12.1.moved hvm, va_tabs rfl (rfl : (u.setVm U.vm).vm = U.vm) (by rw [Cond.castable_setVm hvm]; exact h12.2)⟩, fun a i b n d h hm => hw _ _ _ _ _ _ (h13 a i b n d h hm)⟩
/-- what a method finds -/
def mm_B (G : mm_G) (h : mm_H) (n : Nat) (U : State) : Prop := mm_R G h n U.heap ∧ va_K G.1 vwCl (mm_T G) U ∧ mm_O G U U.heap
/-- how a method ends -/
def mm_Q (G : mm_G) (po : Option Value → mm_H → Nat → Prop) : Array Value → State → Outcome → State → Prop := fun _ st o t => (∃ (v : Option Value) (h : mm_H) (n : Nat), o = .returned (v.map (mm_v G)) ∧ po v h n ∧ mm_R G h n t.heap) ∧ va_F (mm_A G) st t
/-- a method's contract: called with 'as' over the heap h (n the next address) it ends, its answer and heap as 'po' says; it makes at most mc cells of ms slots; its calls go less than d deep -/
def Sp (G : mm_G) (l : Launch) (y : MethodName) (cc : ByteArray) (nL : Nat) (ret : Option FieldType) (d mc ms : Nat) (as : List Value) (h : mm_H) (n : Nat) (po : Option Value → mm_H → Nat → Prop) : Prop :=
  Met l y (.code y cc nL ret :: mm_tbl) { frames := d, cells := mc, slots := ms, locals := 64 * d } (va_Pc (as.map (mm_v G)) (mm_B G h n)) (mm_Q G po) mc ms (mm_A G)
abbrev mm_X : Type := Program × Launch × Env × Room × State × MethodId × Array Value × List Frame × Method × Code
/-- a method's body: what holds throughout -/
def mm_C (w : mm_X) (G : mm_G) (cc : ByteArray) (own : String) (nL mc ms : Nat) (ret : Option FieldType) (d : Nat) (nm : String) : Prop := match w with
  | (p, _, _, R, s, m, args, _, meth, c) => p.tables.exec = Jvm.exec ∧ c.code = cc ∧ c.maxLocals = nL ∧ s.vm.findClass own = some m.cls ∧ (∀ q ∈ mm_tbl, q.before args s = true) ∧ va_K G.1 vwCl (mm_T G) s ∧ mm_O G s s.heap ∧ meth.locks = false ∧ meth.sig.returnType = ret ∧ mc ≤ R.cells ∧ ms ≤ R.slots ∧ d ≤ R.frames ∧ 64 * d ≤ R.locals ∧ G.2.2.2.1 ≤ s.heap.size ∧ meth.name = nm
def mm_L (G : mm_G) (nL : Nat) (L : List (Option Value)) (ls : Array Slot) : Prop := ls.size = nL ∧ L.length = nL ∧ lv_wf ls ∧ ∀ (i : Nat) (v : Value), L[i]? = some (some v) → ls[i]? = some (.val (mm_v G v))
/-- from this place on the machine comes to Q -/
def WW (w : mm_X) (G : mm_G) (nL mc ms : Nat) (Q : State → Prop) (pc : Nat) (L : List (Option Value)) (st : List Value) (h : mm_H) (n kc ks : Nat) : Prop := match w with
  | (p, l, e, R, s, m, args, below, meth, c) => ∀ (ls : Array Slot) (H : Heap) (locs : List Loc) (cells slots : Nat), mm_L G nL L ls → mm_R G h n H → va_S (mm_A G) s.heap H locs → cells + kc ≤ mc → slots + ks ≤ ms →
    W p l e R s m args below meth c H locs cells slots Q (F0 m pc ls (st.map (mm_v G)))
theorem mm_cat (G : mm_G) (v : Value) : (mm_v G v).category = v.category := by cases v <;> rfl
theorem mm_cats (G : mm_G) (st : List Value) : ((st.map (mm_v G)).map fun v => v.category).sum = (st.map fun v => v.category).sum := by
  rw [List.map_map]
  congr 1
  exact List.map_congr_left fun v _ => mm_cat G v
/-- the locals, as the kit lists them -/
def mm_lv (G : mm_G) (nL : Nat) (L : List (Option Value)) : List (Nat × Value) := (List.range nL).filterMap fun i => match L[i]? with
  | some (some v) => some (i, mm_v G v)
  | _ => none
theorem mm_lv_in {G : mm_G} {nL : Nat} {L : List (Option Value)} {q : Nat × Value} : q ∈ mm_lv G nL L ↔ q.1 < nL ∧ ∃ v, L[q.1]? = some (some v) ∧ q.2 = mm_v G v := by
  unfold mm_lv
  rw [List.mem_filterMap]
  constructor
  · rintro ⟨i, hi, h⟩
    split at h
    · rename_i v hv
      cases h
      exact ⟨List.mem_range.mp hi, v, hv, rfl⟩
    · cases h
  · rintro ⟨hi, v, hv, he⟩
    refine ⟨q.1, List.mem_range.mpr hi, ?_⟩
    rw [hv]
    show some (q.1, mm_v G v) = some q
    rw [← he]
theorem mm_has {G : mm_G} {nL : Nat} {L : List (Option Value)} {ls : Array Slot} (h : mm_L G nL L ls) : lv_has ls nL (mm_lv G nL L) := by
  refine ⟨h.1, h.2.2.1, fun q hq => ?_⟩
  obtain ⟨hi, v, hv, he⟩ := mm_lv_in.mp hq
  rw [he]
  exact h.2.2.2 _ _ hv
/-- a long behind whose back its second place is overwritten is gone -/
def mm_kil (L : List (Option Value)) (i : Nat) : List (Option Value) := match L[i]? with
  | some (some (.long _)) => L.set i none
  | some (some (.double _)) => L.set i none
  | _ => L
def mm_kill (L : List (Option Value)) : Nat → List (Option Value)
  | 0 => L
  | i + 1 => mm_kil L i
def mm_set1 (L : List (Option Value)) (i : Nat) (v : Value) : List (Option Value) := (mm_kill L i).set i (some v)
def mm_set2 (L : List (Option Value)) (i : Nat) (v : Value) : List (Option Value) := ((mm_kill L i).set i (some v)).set (i + 1) none
theorem mm_kill_len (L : List (Option Value)) (i : Nat) : (mm_kill L i).length = L.length := by
  cases i with
  | zero => rfl
  | succ i =>
    show (mm_kil L i).length = L.length
    unfold mm_kil
    split
    · exact List.length_set
    · exact List.length_set
    · rfl
theorem mm_kill_at {L : List (Option Value)} {i j : Nat} {v : Value} (h : (mm_kill L i)[j]? = some (some v)) : L[j]? = some (some v) ∧ ¬ (j + 1 = i ∧ v.category = 2) := by
  cases i with
  | zero => exact ⟨h, fun q => by omega⟩
  | succ i =>
    have h : (mm_kil L i)[j]? = some (some v) := h
    unfold mm_kil at h
    by_cases hj : j = i
    · subst hj
      split at h
      · rename_i x hx
        rw [List.getElem?_set_self (List.getElem?_eq_some_iff.mp hx).1] at h
        cases h
      · rename_i x hx
        rw [List.getElem?_set_self (List.getElem?_eq_some_iff.mp hx).1] at h
        cases h
      · rename_i h1 h2
        refine ⟨h, fun q => ?_⟩
        cases v with
        | long x => exact h1 x h
        | double x => exact h2 x h
        | int x => exact absurd q.2 (by show ¬ (1 = 2); decide)
        | float x => exact absurd q.2 (by show ¬ (1 = 2); decide)
        | null => exact absurd q.2 (by decide)
        | ref x => exact absurd q.2 (by show ¬ (1 = 2); decide)
        | retAddr x => exact absurd q.2 (by show ¬ (1 = 2); decide)
    · refine ⟨?_, fun q => hj (by omega)⟩
      split at h
      · rwa [List.getElem?_set_ne (Ne.symm hj)] at h
      · rwa [List.getElem?_set_ne (Ne.symm hj)] at h
      · exact h
theorem mm_st1 {G : mm_G} {nL i : Nat} {L : List (Option Value)} {ls ls' : Array Slot} {v : Value} (h : mm_L G nL L ls) (hi : i < nL)
    (h' : lv_has ls' nL ((i, mm_v G v) :: (mm_lv G nL L).filter (fun q => !(q.1 == i) && !(q.1 + 1 == i && q.2.category == 2)))) : mm_L G nL (mm_set1 L i v) ls' := by
  refine ⟨h'.1, by unfold mm_set1; rw [List.length_set, mm_kill_len]; exact h.2.1, h'.2.1, fun j u hj => ?_⟩
  unfold mm_set1 at hj
  by_cases hji : j = i
  · subst hji
    rw [List.getElem?_set_self (by rw [mm_kill_len, h.2.1]; exact hi)] at hj
    cases hj
    exact h'.2.2 _ List.mem_cons_self
  · rw [List.getElem?_set_ne (Ne.symm hji)] at hj
    obtain ⟨h1, h2⟩ := mm_kill_at hj
    have hjl : j < nL := by rw [← h.2.1]; exact (List.getElem?_eq_some_iff.mp h1).1
    refine h'.2.2 (j, mm_v G u) (List.mem_cons_of_mem _ (List.mem_filter.mpr ⟨mm_lv_in.mpr ⟨hjl, u, h1, rfl⟩, ?_⟩))
    show (!(j == i) && !(j + 1 == i && (mm_v G u).category == 2)) = true
    rw [mm_cat]
    by_cases hc : j + 1 = i
    · have : ¬ u.category = 2 := fun q => h2 ⟨hc, q⟩
      simp [hji, this]
    · simp [hji, hc]
theorem mm_st2 {G : mm_G} {nL i : Nat} {L : List (Option Value)} {ls ls' : Array Slot} {v : Value} (h : mm_L G nL L ls) (hi : i + 1 < nL)
    (h' : lv_has ls' nL ((i, mm_v G v) :: (mm_lv G nL L).filter (fun q => !(q.1 == i) && (!(q.1 == i + 1) && !(q.1 + 1 == i && q.2.category == 2))))) : mm_L G nL (mm_set2 L i v) ls' := by
  refine ⟨h'.1, by unfold mm_set2; rw [List.length_set, List.length_set, mm_kill_len]; exact h.2.1, h'.2.1, fun j u hj => ?_⟩
  unfold mm_set2 at hj
  by_cases hj1 : j = i + 1
  · subst hj1
    rw [List.getElem?_set_self (by rw [List.length_set, mm_kill_len, h.2.1]; exact hi)] at hj
    cases hj
  · rw [List.getElem?_set_ne (Ne.symm hj1)] at hj
    by_cases hji : j = i
    · subst hji
      rw [List.getElem?_set_self (by rw [mm_kill_len, h.2.1]; omega)] at hj
      cases hj
      exact h'.2.2 _ List.mem_cons_self
    · rw [List.getElem?_set_ne (Ne.symm hji)] at hj
      obtain ⟨h1, h2⟩ := mm_kill_at hj
      have hjl : j < nL := by rw [← h.2.1]; exact (List.getElem?_eq_some_iff.mp h1).1
      refine h'.2.2 (j, mm_v G u) (List.mem_cons_of_mem _ (List.mem_filter.mpr ⟨mm_lv_in.mpr ⟨hjl, u, h1, rfl⟩, ?_⟩))
      show (!(j == i) && (!(j == i + 1) && !(j + 1 == i && (mm_v G u).category == 2))) = true
      rw [mm_cat]
      by_cases hc : j + 1 = i
      · have : ¬ u.category = 2 := fun q => h2 ⟨hc, q⟩
        simp [hji, hj1, this]
      · simp [hji, hj1, hc]
section MMR
variable {w : mm_X} {G : mm_G} {cc : ByteArray} {own nm : String} {nL mc ms d pc n kc ks : Nat} {ret : Option FieldType} {Q : State → Prop} {L : List (Option Value)} {st : List Value} {h : mm_H}
theorem rr_iconst (C : mm_C w G cc own nL mc ms ret d nm) {i : Int} {v : Int32} (hd : decode cc pc = .ok (.iconst i, 1)) (hv : Int32.ofInt i = v) (k : WW w G nL mc ms Q (pc + 1) L (.int v :: st) h n kc ks) : WW w G nL mc ms Q pc L st h n kc ks := by
  obtain ⟨p, l, e, R, s, m, args, below, meth, c⟩ := w
  intro ls H locs cells slots hL hR hS hc hs
  exact lv_iconst C.1 C.2.1 hd hv (k ls H locs cells slots hL hR hS hc hs)
theorem rr_bipush (C : mm_C w G cc own nL mc ms ret d nm) {i : Int} {v : Int32} (hd : decode cc pc = .ok (.bipush i, 2)) (hv : (Int8.ofInt i).toInt32 = v) (k : WW w G nL mc ms Q (pc + 2) L (.int v :: st) h n kc ks) : WW w G nL mc ms Q pc L st h n kc ks := by
  obtain ⟨p, l, e, R, s, m, args, below, meth, c⟩ := w
  intro ls H locs cells slots hL hR hS hc hs
  exact lv_bipush C.1 C.2.1 hd hv (k ls H locs cells slots hL hR hS hc hs)
theorem rr_sipush (C : mm_C w G cc own nL mc ms ret d nm) {i : Int} {v : Int32} (hd : decode cc pc = .ok (.sipush i, 3)) (hv : (Int16.ofInt i).toInt32 = v) (k : WW w G nL mc ms Q (pc + 3) L (.int v :: st) h n kc ks) : WW w G nL mc ms Q pc L st h n kc ks := by
  obtain ⟨p, l, e, R, s, m, args, below, meth, c⟩ := w
  intro ls H locs cells slots hL hR hS hc hs
  exact lv_sipush C.1 C.2.1 hd hv (k ls H locs cells slots hL hR hS hc hs)
theorem rr_lconst (C : mm_C w G cc own nL mc ms ret d nm) {i : Fin 2} {v : Int64} (hd : decode cc pc = .ok (.lconst i, 1)) (hv : Int64.ofNat (i : Nat) = v) (k : WW w G nL mc ms Q (pc + 1) L (.long v :: st) h n kc ks) : WW w G nL mc ms Q pc L st h n kc ks := by
  obtain ⟨p, l, e, R, s, m, args, below, meth, c⟩ := w
  intro ls H locs cells slots hL hR hS hc hs
  exact lv_lconst C.1 C.2.1 hd hv (k ls H locs cells slots hL hR hS hc hs)
theorem rr_ldc (C : mm_C w G cc own nL mc ms ret d nm) {i : Nat} {v : Int32} (hd : decode cc pc = .ok (.ldc i, 2)) (hw : Jvm.Cond.constant own i v ∈ mm_tbl) (k : WW w G nL mc ms Q (pc + 2) L (.int v :: st) h n kc ks) : WW w G nL mc ms Q pc L st h n kc ks := by
  obtain ⟨p, l, e, R, s, m, args, below, meth, c⟩ := w
  intro ls H locs cells slots hL hR hS hc hs
  exact lv_ldc C.1 C.2.1 C.2.2.2.1 (C.2.2.2.2.1 _ hw) hd (k ls H locs cells slots hL hR hS hc hs)
theorem rr_ldcw (C : mm_C w G cc own nL mc ms ret d nm) {i : Nat} {v : Int32} (hd : decode cc pc = .ok (.ldc_w i, 3)) (hw : Jvm.Cond.constant own i v ∈ mm_tbl) (k : WW w G nL mc ms Q (pc + 3) L (.int v :: st) h n kc ks) : WW w G nL mc ms Q pc L st h n kc ks := by
  obtain ⟨p, l, e, R, s, m, args, below, meth, c⟩ := w
  intro ls H locs cells slots hL hR hS hc hs
  exact lv_ldcw C.1 C.2.1 C.2.2.2.1 (C.2.2.2.2.1 _ hw) hd (k ls H locs cells slots hL hR hS hc hs)
theorem rr_ldc2 (C : mm_C w G cc own nL mc ms ret d nm) {i : Nat} {v : Int64} (hd : decode cc pc = .ok (.ldc2_w i, 3)) (hw : Jvm.Cond.constantLong own i v ∈ mm_tbl) (k : WW w G nL mc ms Q (pc + 3) L (.long v :: st) h n kc ks) : WW w G nL mc ms Q pc L st h n kc ks := by
  obtain ⟨p, l, e, R, s, m, args, below, meth, c⟩ := w
  intro ls H locs cells slots hL hR hS hc hs
  exact lv_ldc2 C.1 C.2.1 C.2.2.2.1 (C.2.2.2.2.1 _ hw) hd (k ls H locs cells slots hL hR hS hc hs)
theorem rr_null (C : mm_C w G cc own nL mc ms ret d nm)  (hd : decode cc pc = .ok (.aconst_null, 1)) (k : WW w G nL mc ms Q (pc + 1) L (.null :: st) h n kc ks) : WW w G nL mc ms Q pc L st h n kc ks := by
  obtain ⟨p, l, e, R, s, m, args, below, meth, c⟩ := w
  intro ls H locs cells slots hL hR hS hc hs
  exact lv_null C.1 C.2.1 hd (k ls H locs cells slots hL hR hS hc hs)
theorem rr_iload_n (C : mm_C w G cc own nL mc ms ret d nm) {j : Fin 4} {i : Nat} {x : Int32} (hd : decode cc pc = .ok (.iload_n j, 1)) (hi : (j : Nat) = i) (hl : L[i]? = some (some (.int x))) (k : WW w G nL mc ms Q (pc + 1) L (.int x :: st) h n kc ks) : WW w G nL mc ms Q pc L st h n kc ks := by
  obtain ⟨p, l, e, R, s, m, args, below, meth, c⟩ := w
  intro ls H locs cells slots hL hR hS hc hs
  exact lv_iload_n C.1 C.2.1 hd hi (hL.2.2.2 _ _ hl) (k ls H locs cells slots hL hR hS hc hs)
theorem rr_iload (C : mm_C w G cc own nL mc ms ret d nm) {i : Nat} {x : Int32} (hd : decode cc pc = .ok (.iload i, 2)) (hl : L[i]? = some (some (.int x))) (k : WW w G nL mc ms Q (pc + 2) L (.int x :: st) h n kc ks) : WW w G nL mc ms Q pc L st h n kc ks := by
  obtain ⟨p, l, e, R, s, m, args, below, meth, c⟩ := w
  intro ls H locs cells slots hL hR hS hc hs
  exact lv_iload C.1 C.2.1 hd (hL.2.2.2 _ _ hl) (k ls H locs cells slots hL hR hS hc hs)
theorem rr_lload_n (C : mm_C w G cc own nL mc ms ret d nm) {j : Fin 4} {i : Nat} {x : Int64} (hd : decode cc pc = .ok (.lload_n j, 1)) (hi : (j : Nat) = i) (hl : L[i]? = some (some (.long x))) (k : WW w G nL mc ms Q (pc + 1) L (.long x :: st) h n kc ks) : WW w G nL mc ms Q pc L st h n kc ks := by
  obtain ⟨p, l, e, R, s, m, args, below, meth, c⟩ := w
  intro ls H locs cells slots hL hR hS hc hs
  exact lv_lload_n C.1 C.2.1 hd hi (hL.2.2.2 _ _ hl) (k ls H locs cells slots hL hR hS hc hs)
theorem rr_lload (C : mm_C w G cc own nL mc ms ret d nm) {i : Nat} {x : Int64} (hd : decode cc pc = .ok (.lload i, 2)) (hl : L[i]? = some (some (.long x))) (k : WW w G nL mc ms Q (pc + 2) L (.long x :: st) h n kc ks) : WW w G nL mc ms Q pc L st h n kc ks := by
  obtain ⟨p, l, e, R, s, m, args, below, meth, c⟩ := w
  intro ls H locs cells slots hL hR hS hc hs
  exact lv_lload C.1 C.2.1 hd (hL.2.2.2 _ _ hl) (k ls H locs cells slots hL hR hS hc hs)
theorem rr_aload_n (C : mm_C w G cc own nL mc ms ret d nm) {j : Fin 4} {i x : Nat} (hd : decode cc pc = .ok (.aload_n j, 1)) (hi : (j : Nat) = i) (hl : L[i]? = some (some (.ref x))) (k : WW w G nL mc ms Q (pc + 1) L (.ref x :: st) h n kc ks) : WW w G nL mc ms Q pc L st h n kc ks := by
  obtain ⟨p, l, e, R, s, m, args, below, meth, c⟩ := w
  intro ls H locs cells slots hL hR hS hc hs
  exact lv_aload_n C.1 C.2.1 hd hi (hL.2.2.2 _ _ hl) (k ls H locs cells slots hL hR hS hc hs)
theorem rr_aload (C : mm_C w G cc own nL mc ms ret d nm) {i x : Nat} (hd : decode cc pc = .ok (.aload i, 2)) (hl : L[i]? = some (some (.ref x))) (k : WW w G nL mc ms Q (pc + 2) L (.ref x :: st) h n kc ks) : WW w G nL mc ms Q pc L st h n kc ks := by
  obtain ⟨p, l, e, R, s, m, args, below, meth, c⟩ := w
  intro ls H locs cells slots hL hR hS hc hs
  exact lv_aload C.1 C.2.1 hd (hL.2.2.2 _ _ hl) (k ls H locs cells slots hL hR hS hc hs)
theorem rr_aload_nN (C : mm_C w G cc own nL mc ms ret d nm) {j : Fin 4} {i : Nat} (hd : decode cc pc = .ok (.aload_n j, 1)) (hi : (j : Nat) = i) (hl : L[i]? = some (some .null)) (k : WW w G nL mc ms Q (pc + 1) L (.null :: st) h n kc ks) : WW w G nL mc ms Q pc L st h n kc ks := by
  obtain ⟨p, l, e, R, s, m, args, below, meth, c⟩ := w
  intro ls H locs cells slots hL hR hS hc hs
  exact lv_aload_nN C.1 C.2.1 hd hi (hL.2.2.2 _ _ hl) (k ls H locs cells slots hL hR hS hc hs)
theorem rr_aloadN (C : mm_C w G cc own nL mc ms ret d nm) {i : Nat} (hd : decode cc pc = .ok (.aload i, 2)) (hl : L[i]? = some (some .null)) (k : WW w G nL mc ms Q (pc + 2) L (.null :: st) h n kc ks) : WW w G nL mc ms Q pc L st h n kc ks := by
  obtain ⟨p, l, e, R, s, m, args, below, meth, c⟩ := w
  intro ls H locs cells slots hL hR hS hc hs
  exact lv_aloadN C.1 C.2.1 hd (hL.2.2.2 _ _ hl) (k ls H locs cells slots hL hR hS hc hs)
theorem rr_istore_n (C : mm_C w G cc own nL mc ms ret d nm) {j : Fin 4} {i : Nat} {x : Int32}  (hd : decode cc pc = .ok (.istore_n j, 1)) (hi : (j : Nat) = i) (hn : i < nL) (k : WW w G nL mc ms Q (pc + 1) (mm_set1 L i (.int x)) st h n kc ks) : WW w G nL mc ms Q pc L (.int x :: st) h n kc ks := by
  obtain ⟨p, l, e, R, s, m, args, below, meth, c⟩ := w
  intro ls H locs cells slots hL hR hS hc hs
  exact lv_istore_n C.1 C.2.1 hd hi (mm_has hL) hn rfl (fun ls' hl => k ls' H locs cells slots (mm_st1 hL hn hl) hR hS hc hs)
theorem rr_istore (C : mm_C w G cc own nL mc ms ret d nm) {i : Nat} {x : Int32}  (hd : decode cc pc = .ok (.istore i, 2)) (hn : i < nL) (k : WW w G nL mc ms Q (pc + 2) (mm_set1 L i (.int x)) st h n kc ks) : WW w G nL mc ms Q pc L (.int x :: st) h n kc ks := by
  obtain ⟨p, l, e, R, s, m, args, below, meth, c⟩ := w
  intro ls H locs cells slots hL hR hS hc hs
  exact lv_istore C.1 C.2.1 hd (mm_has hL) hn rfl (fun ls' hl => k ls' H locs cells slots (mm_st1 hL hn hl) hR hS hc hs)
theorem rr_lstore_n (C : mm_C w G cc own nL mc ms ret d nm) {j : Fin 4} {i : Nat} {x : Int64}  (hd : decode cc pc = .ok (.lstore_n j, 1)) (hi : (j : Nat) = i) (hn : i + 1 < nL) (k : WW w G nL mc ms Q (pc + 1) (mm_set2 L i (.long x)) st h n kc ks) : WW w G nL mc ms Q pc L (.long x :: st) h n kc ks := by
  obtain ⟨p, l, e, R, s, m, args, below, meth, c⟩ := w
  intro ls H locs cells slots hL hR hS hc hs
  exact lv_lstore_n C.1 C.2.1 hd hi (mm_has hL) hn rfl (fun ls' hl => k ls' H locs cells slots (mm_st2 hL hn hl) hR hS hc hs)
theorem rr_lstore (C : mm_C w G cc own nL mc ms ret d nm) {i : Nat} {x : Int64}  (hd : decode cc pc = .ok (.lstore i, 2)) (hn : i + 1 < nL) (k : WW w G nL mc ms Q (pc + 2) (mm_set2 L i (.long x)) st h n kc ks) : WW w G nL mc ms Q pc L (.long x :: st) h n kc ks := by
  obtain ⟨p, l, e, R, s, m, args, below, meth, c⟩ := w
  intro ls H locs cells slots hL hR hS hc hs
  exact lv_lstore C.1 C.2.1 hd (mm_has hL) hn rfl (fun ls' hl => k ls' H locs cells slots (mm_st2 hL hn hl) hR hS hc hs)
theorem rr_astore_n (C : mm_C w G cc own nL mc ms ret d nm) {j : Fin 4} {i : Nat} {x : Nat}  (hd : decode cc pc = .ok (.astore_n j, 1)) (hi : (j : Nat) = i) (hn : i < nL) (k : WW w G nL mc ms Q (pc + 1) (mm_set1 L i (.ref x)) st h n kc ks) : WW w G nL mc ms Q pc L (.ref x :: st) h n kc ks := by
  obtain ⟨p, l, e, R, s, m, args, below, meth, c⟩ := w
  intro ls H locs cells slots hL hR hS hc hs
  exact lv_astore_n C.1 C.2.1 hd hi (mm_has hL) hn rfl (fun ls' hl => k ls' H locs cells slots (mm_st1 hL hn hl) hR hS hc hs)
theorem rr_astore (C : mm_C w G cc own nL mc ms ret d nm) {i : Nat} {x : Nat}  (hd : decode cc pc = .ok (.astore i, 2)) (hn : i < nL) (k : WW w G nL mc ms Q (pc + 2) (mm_set1 L i (.ref x)) st h n kc ks) : WW w G nL mc ms Q pc L (.ref x :: st) h n kc ks := by
  obtain ⟨p, l, e, R, s, m, args, below, meth, c⟩ := w
  intro ls H locs cells slots hL hR hS hc hs
  exact lv_astore C.1 C.2.1 hd (mm_has hL) hn rfl (fun ls' hl => k ls' H locs cells slots (mm_st1 hL hn hl) hR hS hc hs)
theorem rr_astore_nN (C : mm_C w G cc own nL mc ms ret d nm) {j : Fin 4} {i : Nat}  (hd : decode cc pc = .ok (.astore_n j, 1)) (hi : (j : Nat) = i) (hn : i < nL) (k : WW w G nL mc ms Q (pc + 1) (mm_set1 L i (.null)) st h n kc ks) : WW w G nL mc ms Q pc L (.null :: st) h n kc ks := by
  obtain ⟨p, l, e, R, s, m, args, below, meth, c⟩ := w
  intro ls H locs cells slots hL hR hS hc hs
  exact lv_astore_nN C.1 C.2.1 hd hi (mm_has hL) hn rfl (fun ls' hl => k ls' H locs cells slots (mm_st1 hL hn hl) hR hS hc hs)
theorem rr_astoreN (C : mm_C w G cc own nL mc ms ret d nm) {i : Nat}  (hd : decode cc pc = .ok (.astore i, 2)) (hn : i < nL) (k : WW w G nL mc ms Q (pc + 2) (mm_set1 L i (.null)) st h n kc ks) : WW w G nL mc ms Q pc L (.null :: st) h n kc ks := by
  obtain ⟨p, l, e, R, s, m, args, below, meth, c⟩ := w
  intro ls H locs cells slots hL hR hS hc hs
  exact lv_astoreN C.1 C.2.1 hd (mm_has hL) hn rfl (fun ls' hl => k ls' H locs cells slots (mm_st1 hL hn hl) hR hS hc hs)
theorem rr_iinc (C : mm_C w G cc own nL mc ms ret d nm) {i : Nat} {z : Int} {x v : Int32} (hd : decode cc pc = .ok (.iinc i z, 3)) (hl : L[i]? = some (some (.int x))) (hv : x + Int32.ofInt z = v) (k : WW w G nL mc ms Q (pc + 3) (mm_set1 L i (.int v)) st h n kc ks) : WW w G nL mc ms Q pc L st h n kc ks := by
  obtain ⟨p, l, e, R, s, m, args, below, meth, c⟩ := w
  intro ls H locs cells slots hL hR hS hc hs
  have hn : i < nL := by rw [← hL.2.1]; exact (List.getElem?_eq_some_iff.mp hl).1
  obtain ⟨j, hj⟩ := List.getElem?_of_mem (mm_lv_in (G := G) (q := (i, .int x)).mpr ⟨hn, .int x, hl, rfl⟩)
  exact lv_iinc C.1 C.2.1 hd (mm_has hL) hj hv hn rfl (fun ls' hl' => k ls' H locs cells slots (mm_st1 (v := .int v) hL hn hl') hR hS hc hs)
theorem rr_iadd (C : mm_C w G cc own nL mc ms ret d nm) {x y : Int32} (hd : decode cc pc = .ok (.iadd, 1)) (k : WW w G nL mc ms Q (pc + 1) L (.int (x + y) :: st) h n kc ks) : WW w G nL mc ms Q pc L (.int y :: .int x :: st) h n kc ks := by
  obtain ⟨p, l, e, R, s, m, args, below, meth, c⟩ := w
  intro ls H locs cells slots hL hR hS hc hs
  exact lv_iadd C.1 C.2.1 hd (k ls H locs cells slots hL hR hS hc hs)
theorem rr_isub (C : mm_C w G cc own nL mc ms ret d nm) {x y : Int32} (hd : decode cc pc = .ok (.isub, 1)) (k : WW w G nL mc ms Q (pc + 1) L (.int (x - y) :: st) h n kc ks) : WW w G nL mc ms Q pc L (.int y :: .int x :: st) h n kc ks := by
  obtain ⟨p, l, e, R, s, m, args, below, meth, c⟩ := w
  intro ls H locs cells slots hL hR hS hc hs
  exact lv_isub C.1 C.2.1 hd (k ls H locs cells slots hL hR hS hc hs)
theorem rr_imul (C : mm_C w G cc own nL mc ms ret d nm) {x y : Int32} (hd : decode cc pc = .ok (.imul, 1)) (k : WW w G nL mc ms Q (pc + 1) L (.int (x * y) :: st) h n kc ks) : WW w G nL mc ms Q pc L (.int y :: .int x :: st) h n kc ks := by
  obtain ⟨p, l, e, R, s, m, args, below, meth, c⟩ := w
  intro ls H locs cells slots hL hR hS hc hs
  exact lv_imul C.1 C.2.1 hd (k ls H locs cells slots hL hR hS hc hs)
theorem rr_iand (C : mm_C w G cc own nL mc ms ret d nm) {x y : Int32} (hd : decode cc pc = .ok (.iand, 1)) (k : WW w G nL mc ms Q (pc + 1) L (.int (x &&& y) :: st) h n kc ks) : WW w G nL mc ms Q pc L (.int y :: .int x :: st) h n kc ks := by
  obtain ⟨p, l, e, R, s, m, args, below, meth, c⟩ := w
  intro ls H locs cells slots hL hR hS hc hs
  exact lv_iand C.1 C.2.1 hd (k ls H locs cells slots hL hR hS hc hs)
theorem rr_ior (C : mm_C w G cc own nL mc ms ret d nm) {x y : Int32} (hd : decode cc pc = .ok (.ior, 1)) (k : WW w G nL mc ms Q (pc + 1) L (.int (x ||| y) :: st) h n kc ks) : WW w G nL mc ms Q pc L (.int y :: .int x :: st) h n kc ks := by
  obtain ⟨p, l, e, R, s, m, args, below, meth, c⟩ := w
  intro ls H locs cells slots hL hR hS hc hs
  exact lv_ior C.1 C.2.1 hd (k ls H locs cells slots hL hR hS hc hs)
theorem rr_ixor (C : mm_C w G cc own nL mc ms ret d nm) {x y : Int32} (hd : decode cc pc = .ok (.ixor, 1)) (k : WW w G nL mc ms Q (pc + 1) L (.int (x ^^^ y) :: st) h n kc ks) : WW w G nL mc ms Q pc L (.int y :: .int x :: st) h n kc ks := by
  obtain ⟨p, l, e, R, s, m, args, below, meth, c⟩ := w
  intro ls H locs cells slots hL hR hS hc hs
  exact lv_ixor C.1 C.2.1 hd (k ls H locs cells slots hL hR hS hc hs)
theorem rr_idiv (C : mm_C w G cc own nL mc ms ret d nm) {x y : Int32} (hd : decode cc pc = .ok (.idiv, 1)) (hne : ¬ y = 0) (k : WW w G nL mc ms Q (pc + 1) L (.int (x / y) :: st) h n kc ks) : WW w G nL mc ms Q pc L (.int y :: .int x :: st) h n kc ks := by
  obtain ⟨p, l, e, R, s, m, args, below, meth, c⟩ := w
  intro ls H locs cells slots hL hR hS hc hs
  exact lv_idiv C.1 C.2.1 hd hne (k ls H locs cells slots hL hR hS hc hs)
theorem rr_irem (C : mm_C w G cc own nL mc ms ret d nm) {x y : Int32} (hd : decode cc pc = .ok (.irem, 1)) (hne : ¬ y = 0) (k : WW w G nL mc ms Q (pc + 1) L (.int (x - x / y * y) :: st) h n kc ks) : WW w G nL mc ms Q pc L (.int y :: .int x :: st) h n kc ks := by
  obtain ⟨p, l, e, R, s, m, args, below, meth, c⟩ := w
  intro ls H locs cells slots hL hR hS hc hs
  exact lv_irem C.1 C.2.1 hd hne (k ls H locs cells slots hL hR hS hc hs)
theorem rr_ladd (C : mm_C w G cc own nL mc ms ret d nm) {x y : Int64} (hd : decode cc pc = .ok (.ladd, 1)) (k : WW w G nL mc ms Q (pc + 1) L (.long (x + y) :: st) h n kc ks) : WW w G nL mc ms Q pc L (.long y :: .long x :: st) h n kc ks := by
  obtain ⟨p, l, e, R, s, m, args, below, meth, c⟩ := w
  intro ls H locs cells slots hL hR hS hc hs
  exact lv_ladd C.1 C.2.1 hd (k ls H locs cells slots hL hR hS hc hs)
theorem rr_lsub (C : mm_C w G cc own nL mc ms ret d nm) {x y : Int64} (hd : decode cc pc = .ok (.lsub, 1)) (k : WW w G nL mc ms Q (pc + 1) L (.long (x - y) :: st) h n kc ks) : WW w G nL mc ms Q pc L (.long y :: .long x :: st) h n kc ks := by
  obtain ⟨p, l, e, R, s, m, args, below, meth, c⟩ := w
  intro ls H locs cells slots hL hR hS hc hs
  exact lv_lsub C.1 C.2.1 hd (k ls H locs cells slots hL hR hS hc hs)
theorem rr_lmul (C : mm_C w G cc own nL mc ms ret d nm) {x y : Int64} (hd : decode cc pc = .ok (.lmul, 1)) (k : WW w G nL mc ms Q (pc + 1) L (.long (x * y) :: st) h n kc ks) : WW w G nL mc ms Q pc L (.long y :: .long x :: st) h n kc ks := by
  obtain ⟨p, l, e, R, s, m, args, below, meth, c⟩ := w
  intro ls H locs cells slots hL hR hS hc hs
  exact lv_lmul C.1 C.2.1 hd (k ls H locs cells slots hL hR hS hc hs)
theorem rr_land (C : mm_C w G cc own nL mc ms ret d nm) {x y : Int64} (hd : decode cc pc = .ok (.land, 1)) (k : WW w G nL mc ms Q (pc + 1) L (.long (x &&& y) :: st) h n kc ks) : WW w G nL mc ms Q pc L (.long y :: .long x :: st) h n kc ks := by
  obtain ⟨p, l, e, R, s, m, args, below, meth, c⟩ := w
  intro ls H locs cells slots hL hR hS hc hs
  exact lv_land C.1 C.2.1 hd (k ls H locs cells slots hL hR hS hc hs)
theorem rr_lor (C : mm_C w G cc own nL mc ms ret d nm) {x y : Int64} (hd : decode cc pc = .ok (.lor, 1)) (k : WW w G nL mc ms Q (pc + 1) L (.long (x ||| y) :: st) h n kc ks) : WW w G nL mc ms Q pc L (.long y :: .long x :: st) h n kc ks := by
  obtain ⟨p, l, e, R, s, m, args, below, meth, c⟩ := w
  intro ls H locs cells slots hL hR hS hc hs
  exact lv_lor C.1 C.2.1 hd (k ls H locs cells slots hL hR hS hc hs)
theorem rr_lxor (C : mm_C w G cc own nL mc ms ret d nm) {x y : Int64} (hd : decode cc pc = .ok (.lxor, 1)) (k : WW w G nL mc ms Q (pc + 1) L (.long (x ^^^ y) :: st) h n kc ks) : WW w G nL mc ms Q pc L (.long y :: .long x :: st) h n kc ks := by
  obtain ⟨p, l, e, R, s, m, args, below, meth, c⟩ := w
  intro ls H locs cells slots hL hR hS hc hs
  exact lv_lxor C.1 C.2.1 hd (k ls H locs cells slots hL hR hS hc hs)
theorem rr_ldiv (C : mm_C w G cc own nL mc ms ret d nm) {x y : Int64} (hd : decode cc pc = .ok (.ldiv, 1)) (hne : ¬ y = 0) (k : WW w G nL mc ms Q (pc + 1) L (.long (x / y) :: st) h n kc ks) : WW w G nL mc ms Q pc L (.long y :: .long x :: st) h n kc ks := by
  obtain ⟨p, l, e, R, s, m, args, below, meth, c⟩ := w
  intro ls H locs cells slots hL hR hS hc hs
  exact lv_ldiv C.1 C.2.1 hd hne (k ls H locs cells slots hL hR hS hc hs)
theorem rr_ineg (C : mm_C w G cc own nL mc ms ret d nm) {x : Int32} (hd : decode cc pc = .ok (.ineg, 1)) (k : WW w G nL mc ms Q (pc + 1) L (.int (-x) :: st) h n kc ks) : WW w G nL mc ms Q pc L (.int x :: st) h n kc ks := by
  obtain ⟨p, l, e, R, s, m, args, below, meth, c⟩ := w
  intro ls H locs cells slots hL hR hS hc hs
  exact lv_ineg C.1 C.2.1 hd (k ls H locs cells slots hL hR hS hc hs)
theorem rr_lneg (C : mm_C w G cc own nL mc ms ret d nm) {x : Int64} (hd : decode cc pc = .ok (.lneg, 1)) (k : WW w G nL mc ms Q (pc + 1) L (.long (-x) :: st) h n kc ks) : WW w G nL mc ms Q pc L (.long x :: st) h n kc ks := by
  obtain ⟨p, l, e, R, s, m, args, below, meth, c⟩ := w
  intro ls H locs cells slots hL hR hS hc hs
  exact lv_lneg C.1 C.2.1 hd (k ls H locs cells slots hL hR hS hc hs)
theorem rr_i2l (C : mm_C w G cc own nL mc ms ret d nm) {x : Int32} (hd : decode cc pc = .ok (.i2l, 1)) (k : WW w G nL mc ms Q (pc + 1) L (.long x.toInt64 :: st) h n kc ks) : WW w G nL mc ms Q pc L (.int x :: st) h n kc ks := by
  obtain ⟨p, l, e, R, s, m, args, below, meth, c⟩ := w
  intro ls H locs cells slots hL hR hS hc hs
  exact lv_i2l C.1 C.2.1 hd rfl (k ls H locs cells slots hL hR hS hc hs)
theorem rr_l2i (C : mm_C w G cc own nL mc ms ret d nm) {x : Int64} (hd : decode cc pc = .ok (.l2i, 1)) (k : WW w G nL mc ms Q (pc + 1) L (.int x.toInt32 :: st) h n kc ks) : WW w G nL mc ms Q pc L (.long x :: st) h n kc ks := by
  obtain ⟨p, l, e, R, s, m, args, below, meth, c⟩ := w
  intro ls H locs cells slots hL hR hS hc hs
  exact lv_l2i C.1 C.2.1 hd rfl (k ls H locs cells slots hL hR hS hc hs)
theorem rr_i2b (C : mm_C w G cc own nL mc ms ret d nm) {x : Int32} (hd : decode cc pc = .ok (.i2b, 1)) (k : WW w G nL mc ms Q (pc + 1) L (.int x.toInt8.toInt32 :: st) h n kc ks) : WW w G nL mc ms Q pc L (.int x :: st) h n kc ks := by
  obtain ⟨p, l, e, R, s, m, args, below, meth, c⟩ := w
  intro ls H locs cells slots hL hR hS hc hs
  exact lv_i2b C.1 C.2.1 hd rfl (k ls H locs cells slots hL hR hS hc hs)
theorem rr_ishl (C : mm_C w G cc own nL mc ms ret d nm) {x y : Int32} (hd : decode cc pc = .ok (.ishl, 1)) (k : WW w G nL mc ms Q (pc + 1) L (.int (x <<< (y &&& 31)) :: st) h n kc ks) : WW w G nL mc ms Q pc L (.int y :: .int x :: st) h n kc ks := by
  obtain ⟨p, l, e, R, s, m, args, below, meth, c⟩ := w
  intro ls H locs cells slots hL hR hS hc hs
  exact lv_ishl C.1 C.2.1 hd (k ls H locs cells slots hL hR hS hc hs)
theorem rr_ishr (C : mm_C w G cc own nL mc ms ret d nm) {x y : Int32} (hd : decode cc pc = .ok (.ishr, 1)) (k : WW w G nL mc ms Q (pc + 1) L (.int (x >>> (y &&& 31)) :: st) h n kc ks) : WW w G nL mc ms Q pc L (.int y :: .int x :: st) h n kc ks := by
  obtain ⟨p, l, e, R, s, m, args, below, meth, c⟩ := w
  intro ls H locs cells slots hL hR hS hc hs
  exact lv_ishr C.1 C.2.1 hd (k ls H locs cells slots hL hR hS hc hs)
theorem rr_iushr (C : mm_C w G cc own nL mc ms ret d nm) {x y : Int32} (hd : decode cc pc = .ok (.iushr, 1)) (k : WW w G nL mc ms Q (pc + 1) L (.int ((x.toUInt32 >>> (y.toUInt32 &&& Int32.toUInt32 31)).toInt32) :: st) h n kc ks) : WW w G nL mc ms Q pc L (.int y :: .int x :: st) h n kc ks := by
  obtain ⟨p, l, e, R, s, m, args, below, meth, c⟩ := w
  intro ls H locs cells slots hL hR hS hc hs
  exact lv_iushr C.1 C.2.1 hd rfl (k ls H locs cells slots hL hR hS hc hs)
theorem rr_lshl (C : mm_C w G cc own nL mc ms ret d nm) {x : Int64} {y : Int32} (hd : decode cc pc = .ok (.lshl, 1)) (k : WW w G nL mc ms Q (pc + 1) L (.long (x <<< (y.toInt64 &&& 63)) :: st) h n kc ks) : WW w G nL mc ms Q pc L (.int y :: .long x :: st) h n kc ks := by
  obtain ⟨p, l, e, R, s, m, args, below, meth, c⟩ := w
  intro ls H locs cells slots hL hR hS hc hs
  exact lv_lshl C.1 C.2.1 hd rfl (k ls H locs cells slots hL hR hS hc hs)
theorem rr_lshr (C : mm_C w G cc own nL mc ms ret d nm) {x : Int64} {y : Int32} (hd : decode cc pc = .ok (.lshr, 1)) (k : WW w G nL mc ms Q (pc + 1) L (.long (x >>> (y.toInt64 &&& 63)) :: st) h n kc ks) : WW w G nL mc ms Q pc L (.int y :: .long x :: st) h n kc ks := by
  obtain ⟨p, l, e, R, s, m, args, below, meth, c⟩ := w
  intro ls H locs cells slots hL hR hS hc hs
  exact lv_lshr C.1 C.2.1 hd rfl (k ls H locs cells slots hL hR hS hc hs)
theorem rr_lcmp (C : mm_C w G cc own nL mc ms ret d nm) {x y : Int64} (hd : decode cc pc = .ok (.lcmp, 1)) (k : WW w G nL mc ms Q (pc + 1) L (.int (lg_cmp x y) :: st) h n kc ks) : WW w G nL mc ms Q pc L (.long y :: .long x :: st) h n kc ks := by
  obtain ⟨p, l, e, R, s, m, args, below, meth, c⟩ := w
  intro ls H locs cells slots hL hR hS hc hs
  exact W.lcmp C.1 C.2.1 hd (k ls H locs cells slots hL hR hS hc hs)
theorem rr_dup (C : mm_C w G cc own nL mc ms ret d nm) {v : Value} (hd : decode cc pc = .ok (.dup, 1)) (hv : v.category = 1) (k : WW w G nL mc ms Q (pc + 1) L (v :: v :: st) h n kc ks) : WW w G nL mc ms Q pc L (v :: st) h n kc ks := by
  obtain ⟨p, l, e, R, s, m, args, below, meth, c⟩ := w
  intro ls H locs cells slots hL hR hS hc hs
  exact lv_dup C.1 C.2.1 hd (by rw [mm_cat]; exact hv) (k ls H locs cells slots hL hR hS hc hs)
theorem rr_pop (C : mm_C w G cc own nL mc ms ret d nm) {v : Value} (hd : decode cc pc = .ok (.pop, 1)) (hv : v.category = 1) (k : WW w G nL mc ms Q (pc + 1) L st h n kc ks) : WW w G nL mc ms Q pc L (v :: st) h n kc ks := by
  obtain ⟨p, l, e, R, s, m, args, below, meth, c⟩ := w
  intro ls H locs cells slots hL hR hS hc hs
  exact lv_pop C.1 C.2.1 hd (by rw [mm_cat]; exact hv) (k ls H locs cells slots hL hR hS hc hs)
theorem rr_dup2 (C : mm_C w G cc own nL mc ms ret d nm) {v u : Value} (hd : decode cc pc = .ok (.dup2, 1)) (hv : v.category = 1) (hu : u.category = 1) (k : WW w G nL mc ms Q (pc + 1) L (v :: u :: v :: u :: st) h n kc ks) : WW w G nL mc ms Q pc L (v :: u :: st) h n kc ks := by
  obtain ⟨p, l, e, R, s, m, args, below, meth, c⟩ := w
  intro ls H locs cells slots hL hR hS hc hs
  exact lv_dup2_11 C.1 C.2.1 hd (by rw [mm_cat]; exact hv) (by rw [mm_cat]; exact hu) (k ls H locs cells slots hL hR hS hc hs)
theorem rr_if_eq (C : mm_C w G cc own nL mc ms ret d nm) {x : Int32} {off : Int} {tgt : Nat} (hd : decode cc pc = .ok (.ifCond .eq off, 3)) (ht : (pc : Int) + off = (tgt : Int)) (kt : x = 0 → WW w G nL mc ms Q tgt L st h n kc ks) (kf : ¬ x = 0 → WW w G nL mc ms Q (pc + 3) L st h n kc ks) : WW w G nL mc ms Q pc L (.int x :: st) h n kc ks := by
  obtain ⟨p, l, e, R, s, m, args, below, meth, c⟩ := w
  intro ls H locs cells slots hL hR hS hc hs
  exact lv_if_eq C.1 C.2.1 hd ht (fun q => kt q ls H locs cells slots hL hR hS hc hs) (fun q => kf q ls H locs cells slots hL hR hS hc hs)
theorem rr_icmp_eq (C : mm_C w G cc own nL mc ms ret d nm) {x y : Int32} {off : Int} {tgt : Nat} (hd : decode cc pc = .ok (.if_icmp .eq off, 3)) (ht : (pc : Int) + off = (tgt : Int)) (kt : x = y → WW w G nL mc ms Q tgt L st h n kc ks) (kf : ¬ x = y → WW w G nL mc ms Q (pc + 3) L st h n kc ks) : WW w G nL mc ms Q pc L (.int y :: .int x :: st) h n kc ks := by
  obtain ⟨p, l, e, R, s, m, args, below, meth, c⟩ := w
  intro ls H locs cells slots hL hR hS hc hs
  exact lv_icmp_eq C.1 C.2.1 hd ht (fun q => kt q ls H locs cells slots hL hR hS hc hs) (fun q => kf q ls H locs cells slots hL hR hS hc hs)
theorem rr_if_ne (C : mm_C w G cc own nL mc ms ret d nm) {x : Int32} {off : Int} {tgt : Nat} (hd : decode cc pc = .ok (.ifCond .ne off, 3)) (ht : (pc : Int) + off = (tgt : Int)) (kt : ¬ x = 0 → WW w G nL mc ms Q tgt L st h n kc ks) (kf : x = 0 → WW w G nL mc ms Q (pc + 3) L st h n kc ks) : WW w G nL mc ms Q pc L (.int x :: st) h n kc ks := by
  obtain ⟨p, l, e, R, s, m, args, below, meth, c⟩ := w
  intro ls H locs cells slots hL hR hS hc hs
  exact lv_if_ne C.1 C.2.1 hd ht (fun q => kt q ls H locs cells slots hL hR hS hc hs) (fun q => kf q ls H locs cells slots hL hR hS hc hs)
theorem rr_icmp_ne (C : mm_C w G cc own nL mc ms ret d nm) {x y : Int32} {off : Int} {tgt : Nat} (hd : decode cc pc = .ok (.if_icmp .ne off, 3)) (ht : (pc : Int) + off = (tgt : Int)) (kt : ¬ x = y → WW w G nL mc ms Q tgt L st h n kc ks) (kf : x = y → WW w G nL mc ms Q (pc + 3) L st h n kc ks) : WW w G nL mc ms Q pc L (.int y :: .int x :: st) h n kc ks := by
  obtain ⟨p, l, e, R, s, m, args, below, meth, c⟩ := w
  intro ls H locs cells slots hL hR hS hc hs
  exact lv_icmp_ne C.1 C.2.1 hd ht (fun q => kt q ls H locs cells slots hL hR hS hc hs) (fun q => kf q ls H locs cells slots hL hR hS hc hs)
theorem rr_if_lt (C : mm_C w G cc own nL mc ms ret d nm) {x : Int32} {off : Int} {tgt : Nat} (hd : decode cc pc = .ok (.ifCond .lt off, 3)) (ht : (pc : Int) + off = (tgt : Int)) (kt : x < 0 → WW w G nL mc ms Q tgt L st h n kc ks) (kf : ¬ x < 0 → WW w G nL mc ms Q (pc + 3) L st h n kc ks) : WW w G nL mc ms Q pc L (.int x :: st) h n kc ks := by
  obtain ⟨p, l, e, R, s, m, args, below, meth, c⟩ := w
  intro ls H locs cells slots hL hR hS hc hs
  exact lv_if_lt C.1 C.2.1 hd ht (fun q => kt q ls H locs cells slots hL hR hS hc hs) (fun q => kf q ls H locs cells slots hL hR hS hc hs)
theorem rr_icmp_lt (C : mm_C w G cc own nL mc ms ret d nm) {x y : Int32} {off : Int} {tgt : Nat} (hd : decode cc pc = .ok (.if_icmp .lt off, 3)) (ht : (pc : Int) + off = (tgt : Int)) (kt : x < y → WW w G nL mc ms Q tgt L st h n kc ks) (kf : ¬ x < y → WW w G nL mc ms Q (pc + 3) L st h n kc ks) : WW w G nL mc ms Q pc L (.int y :: .int x :: st) h n kc ks := by
  obtain ⟨p, l, e, R, s, m, args, below, meth, c⟩ := w
  intro ls H locs cells slots hL hR hS hc hs
  exact lv_icmp_lt C.1 C.2.1 hd ht (fun q => kt q ls H locs cells slots hL hR hS hc hs) (fun q => kf q ls H locs cells slots hL hR hS hc hs)
theorem rr_if_ge (C : mm_C w G cc own nL mc ms ret d nm) {x : Int32} {off : Int} {tgt : Nat} (hd : decode cc pc = .ok (.ifCond .ge off, 3)) (ht : (pc : Int) + off = (tgt : Int)) (kt : 0 ≤ x → WW w G nL mc ms Q tgt L st h n kc ks) (kf : ¬ 0 ≤ x → WW w G nL mc ms Q (pc + 3) L st h n kc ks) : WW w G nL mc ms Q pc L (.int x :: st) h n kc ks := by
  obtain ⟨p, l, e, R, s, m, args, below, meth, c⟩ := w
  intro ls H locs cells slots hL hR hS hc hs
  exact lv_if_ge C.1 C.2.1 hd ht (fun q => kt q ls H locs cells slots hL hR hS hc hs) (fun q => kf q ls H locs cells slots hL hR hS hc hs)
theorem rr_icmp_ge (C : mm_C w G cc own nL mc ms ret d nm) {x y : Int32} {off : Int} {tgt : Nat} (hd : decode cc pc = .ok (.if_icmp .ge off, 3)) (ht : (pc : Int) + off = (tgt : Int)) (kt : y ≤ x → WW w G nL mc ms Q tgt L st h n kc ks) (kf : ¬ y ≤ x → WW w G nL mc ms Q (pc + 3) L st h n kc ks) : WW w G nL mc ms Q pc L (.int y :: .int x :: st) h n kc ks := by
  obtain ⟨p, l, e, R, s, m, args, below, meth, c⟩ := w
  intro ls H locs cells slots hL hR hS hc hs
  exact lv_icmp_ge C.1 C.2.1 hd ht (fun q => kt q ls H locs cells slots hL hR hS hc hs) (fun q => kf q ls H locs cells slots hL hR hS hc hs)
theorem rr_if_gt (C : mm_C w G cc own nL mc ms ret d nm) {x : Int32} {off : Int} {tgt : Nat} (hd : decode cc pc = .ok (.ifCond .gt off, 3)) (ht : (pc : Int) + off = (tgt : Int)) (kt : 0 < x → WW w G nL mc ms Q tgt L st h n kc ks) (kf : ¬ 0 < x → WW w G nL mc ms Q (pc + 3) L st h n kc ks) : WW w G nL mc ms Q pc L (.int x :: st) h n kc ks := by
  obtain ⟨p, l, e, R, s, m, args, below, meth, c⟩ := w
  intro ls H locs cells slots hL hR hS hc hs
  exact lv_if_gt C.1 C.2.1 hd ht (fun q => kt q ls H locs cells slots hL hR hS hc hs) (fun q => kf q ls H locs cells slots hL hR hS hc hs)
theorem rr_icmp_gt (C : mm_C w G cc own nL mc ms ret d nm) {x y : Int32} {off : Int} {tgt : Nat} (hd : decode cc pc = .ok (.if_icmp .gt off, 3)) (ht : (pc : Int) + off = (tgt : Int)) (kt : y < x → WW w G nL mc ms Q tgt L st h n kc ks) (kf : ¬ y < x → WW w G nL mc ms Q (pc + 3) L st h n kc ks) : WW w G nL mc ms Q pc L (.int y :: .int x :: st) h n kc ks := by
  obtain ⟨p, l, e, R, s, m, args, below, meth, c⟩ := w
  intro ls H locs cells slots hL hR hS hc hs
  exact lv_icmp_gt C.1 C.2.1 hd ht (fun q => kt q ls H locs cells slots hL hR hS hc hs) (fun q => kf q ls H locs cells slots hL hR hS hc hs)
theorem rr_if_le (C : mm_C w G cc own nL mc ms ret d nm) {x : Int32} {off : Int} {tgt : Nat} (hd : decode cc pc = .ok (.ifCond .le off, 3)) (ht : (pc : Int) + off = (tgt : Int)) (kt : x ≤ 0 → WW w G nL mc ms Q tgt L st h n kc ks) (kf : ¬ x ≤ 0 → WW w G nL mc ms Q (pc + 3) L st h n kc ks) : WW w G nL mc ms Q pc L (.int x :: st) h n kc ks := by
  obtain ⟨p, l, e, R, s, m, args, below, meth, c⟩ := w
  intro ls H locs cells slots hL hR hS hc hs
  exact lv_if_le C.1 C.2.1 hd ht (fun q => kt q ls H locs cells slots hL hR hS hc hs) (fun q => kf q ls H locs cells slots hL hR hS hc hs)
theorem rr_icmp_le (C : mm_C w G cc own nL mc ms ret d nm) {x y : Int32} {off : Int} {tgt : Nat} (hd : decode cc pc = .ok (.if_icmp .le off, 3)) (ht : (pc : Int) + off = (tgt : Int)) (kt : x ≤ y → WW w G nL mc ms Q tgt L st h n kc ks) (kf : ¬ x ≤ y → WW w G nL mc ms Q (pc + 3) L st h n kc ks) : WW w G nL mc ms Q pc L (.int y :: .int x :: st) h n kc ks := by
  obtain ⟨p, l, e, R, s, m, args, below, meth, c⟩ := w
  intro ls H locs cells slots hL hR hS hc hs
  exact lv_icmp_le C.1 C.2.1 hd ht (fun q => kt q ls H locs cells slots hL hR hS hc hs) (fun q => kf q ls H locs cells slots hL hR hS hc hs)
theorem rr_goto (C : mm_C w G cc own nL mc ms ret d nm) {off : Int} {tgt : Nat} (hd : decode cc pc = .ok (.goto off, 3)) (ht : (pc : Int) + off = (tgt : Int)) (k : WW w G nL mc ms Q tgt L st h n kc ks) : WW w G nL mc ms Q pc L st h n kc ks := by
  obtain ⟨p, l, e, R, s, m, args, below, meth, c⟩ := w
  intro ls H locs cells slots hL hR hS hc hs
  exact lv_goto C.1 C.2.1 hd ht (k ls H locs cells slots hL hR hS hc hs)
theorem rr_ifnull (C : mm_C w G cc own nL mc ms ret d nm) {x : Nat} {off : Int} (hd : decode cc pc = .ok (.ifnull off, 3)) (k : WW w G nL mc ms Q (pc + 3) L st h n kc ks) : WW w G nL mc ms Q pc L (.ref x :: st) h n kc ks := by
  obtain ⟨p, l, e, R, s, m, args, below, meth, c⟩ := w
  intro ls H locs cells slots hL hR hS hc hs
  exact lv_ifnull C.1 C.2.1 hd (k ls H locs cells slots hL hR hS hc hs)
theorem rr_ifnonnull (C : mm_C w G cc own nL mc ms ret d nm) {x : Nat} {off : Int} {tgt : Nat} (hd : decode cc pc = .ok (.ifnonnull off, 3)) (ht : (pc : Int) + off = (tgt : Int)) (k : WW w G nL mc ms Q tgt L st h n kc ks) : WW w G nL mc ms Q pc L (.ref x :: st) h n kc ks := by
  obtain ⟨p, l, e, R, s, m, args, below, meth, c⟩ := w
  intro ls H locs cells slots hL hR hS hc hs
  exact lv_ifnonnull C.1 C.2.1 hd ht (k ls H locs cells slots hL hR hS hc hs)
theorem rr_ifnullN (C : mm_C w G cc own nL mc ms ret d nm) {off : Int} {tgt : Nat} (hd : decode cc pc = .ok (.ifnull off, 3)) (ht : (pc : Int) + off = (tgt : Int)) (k : WW w G nL mc ms Q tgt L st h n kc ks) : WW w G nL mc ms Q pc L (.null :: st) h n kc ks := by
  obtain ⟨p, l, e, R, s, m, args, below, meth, c⟩ := w
  intro ls H locs cells slots hL hR hS hc hs
  exact lv_ifnullN C.1 C.2.1 hd ht (k ls H locs cells slots hL hR hS hc hs)
theorem rr_ifnonnullN (C : mm_C w G cc own nL mc ms ret d nm) {off : Int} (hd : decode cc pc = .ok (.ifnonnull off, 3)) (k : WW w G nL mc ms Q (pc + 3) L st h n kc ks) : WW w G nL mc ms Q pc L (.null :: st) h n kc ks := by
  obtain ⟨p, l, e, R, s, m, args, below, meth, c⟩ := w
  intro ls H locs cells slots hL hR hS hc hs
  exact lv_ifnonnullN C.1 C.2.1 hd (k ls H locs cells slots hL hR hS hc hs)
theorem rr_tabOut (C : mm_C w G cc own nL mc ms ret d nm) {dflt lo hi : Int} {offs : Array Int} {len : Nat} {x : Int32} {tgt : Nat} (hd : decode cc pc = .ok (.tableswitch dflt lo hi offs, len)) (hx : x.toInt < lo ∨ hi < x.toInt) (ht : (pc : Int) + dflt = (tgt : Int)) (k : WW w G nL mc ms Q tgt L st h n kc ks) : WW w G nL mc ms Q pc L (.int x :: st) h n kc ks := by
  obtain ⟨p, l, e, R, s, m, args, below, meth, c⟩ := w
  intro ls H locs cells slots hL hR hS hc hs
  exact lv_tableOut C.1 C.2.1 hd hx ht (k ls H locs cells slots hL hR hS hc hs)
theorem rr_tabIn (C : mm_C w G cc own nL mc ms ret d nm) {dflt lo hi : Int} {offs : Array Int} {len : Nat} {x : Int32} {off : Int} {tgt : Nat} (hd : decode cc pc = .ok (.tableswitch dflt lo hi offs, len)) (h1 : ¬ x.toInt < lo) (h2 : ¬ hi < x.toInt) (ho : offs[(x.toInt - lo).toNat]? = some off) (ht : (pc : Int) + off = (tgt : Int)) (k : WW w G nL mc ms Q tgt L st h n kc ks) : WW w G nL mc ms Q pc L (.int x :: st) h n kc ks := by
  obtain ⟨p, l, e, R, s, m, args, below, meth, c⟩ := w
  intro ls H locs cells slots hL hR hS hc hs
  exact lv_tableIn C.1 C.2.1 hd h1 h2 ho ht (k ls H locs cells slots hL hR hS hc hs)
end MMR

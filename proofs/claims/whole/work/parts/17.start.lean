/-! THE CLAIM OUT OF ONE WALK OF THE LAW'S BODY. Your part is whole_start (and what it stands on); all else here is the same for every law, but numbers. -/
def R_law : String := "WaterReviewLaw"
def lw_P (b : Addr) (xs : List Int32) (args : Array Value) (s : State) : Prop := args = #[.ref b] ∧ s.IntsAt b xs ∧ xs.length ≤ 3584 ∧ (Jvm.Cond.and given_1 narrow_1).before args s = true
def lw_Q (_ : Array Value) (s : State) (o : Outcome) (t : State) : Prop := o = .returned (some (.int 1)) ∧ Framed s o t [] 600000 7302250
def lw_Z (below : List Frame) (a : Array Value) (s : State) : State → Prop := fun t => ∃ o, t.status = .running ∧ Ended t below o ∧ lw_Q a s o t
/-- the law's own end, with 1 on the stack, nothing written that was there before, its room as the claim has it -/
theorem lw_ret {p : Program} {l : Launch} {e : Env} {s : State} {m : MethodId} {below : List Frame} {meth : Method} {c : Code} {b : Nat} (hx : p.tables.exec = Jvm.exec) (hb : c.code = code) (hr : meth.sig.returnType = ret) (hlocks : meth.locks = false) {pc : Nat} {H : Heap} {ls : Array Slot} (hdg : decode code pc = .ok (.ireturn, 1)) : W p l e room_1 s m #[Value.ref b] below meth c H [] 600000 7302250 (lw_Z below #[Value.ref b] s) (F0 m pc ls [.int 1]) := by
  intro T hT X
  obtain ⟨fs, hret, hrun, hended, hW, hframe⟩ := X.leave (v := some (.int 1)) (hlocks := hlocks) (fun h => by rw [hr] at h; cases h)
  have hmeth' : T.vm.method? m = some meth := X.method'
  refine ⟨T.setFrames fs, ?_, .returned (some (.int 1)), hrun, hended, rfl, ⟨_, rfl⟩, hW, hframe⟩
  jvm_step X.here [X.here.top, hx, hb, hdg, hmeth', hr, ret, narrow_b1]
  (try refine ⟨rfl, ?_⟩); (try refine ⟨rfl, ?_⟩)
  first | (intro acts; rw [hret _ acts rfl rfl rfl]) | rw [hret _ _ rfl rfl rfl]
  exact Steps.refl _
/-- what holds at the law's entry: the machine, the code, the tables' words (any of lw_tbl by 'hts w (by decide +kernel)'), the script of L ints xs at the cell b, what the Statement gives of the start (any of its parts by flat_of_before) -/
def lw_At (p : Program) (s : State) (m : MethodId) (meth : Method) (c : Code) (b L : Nat) (xs : Nat → Int32) : Prop :=
  p.tables.exec = Jvm.exec ∧ c.code = code ∧ meth.sig.returnType = ret ∧ c.maxLocals = 4 ∧ s.vm.findClass R_law = some m.cls ∧ (∀ w ∈ lw_tbl, w.before #[Value.ref b] s = true) ∧ va_X b L xs s s.heap ∧ b < s.heap.size ∧ meth.locks = false ∧ (Jvm.Cond.and given_1 narrow_1).before #[Value.ref b] s = true
def mm_fP (j : Nat) : Int32 := if j = 0 then 2 else if j = 1 then 3 else 5
/-- what lies there before: the script, the two tables, the texts' bytes -/
def mm_out0 (L : Nat) (xs : Nat → Int32) : mm_H := fun a =>
  if a = 0 then .inl (.int, L, .inl xs) else if a = 1 then .inl (.int, 3, .inl mm_fP) else if a = 2 then .inl (.int, 0, .inl (fun _ => 0)) else if 18 ≤ a ∧ a < 33 then .inl (.byte, mm_len.getD (a - 18) 0, .inl (fun j => (mm_byt.getD (a - 18) []).getD j 0)) else .inr (0, [])
def mm_tm (i : Nat) : Term := .string "WaterReview$Reader" (mm_tx.getD i (0, "")).1
theorem mk_ex : ∀ i : Nat, i < 15 → Cond.exactly (mm_tm i) "java/lang/String" ∈ flatC (Jvm.Cond.and given_1 narrow_1) := by decide +kernel
theorem mk_co : ∀ i : Nat, i < 15 → Cond.eq (.field (mm_tm i) "java/lang/String" "coder" "B") (.int 0) ∈ flatC (Jvm.Cond.and given_1 narrow_1) := by decide +kernel
theorem mk_ar : ∀ i : Nat, i < 15 → Cond.arrayOf (.field (mm_tm i) "java/lang/String" "value" "[B") .byte ∈ flatC (Jvm.Cond.and given_1 narrow_1) := by decide +kernel
theorem mk_le : ∀ i : Nat, i < 15 → Cond.eq (.length (.field (mm_tm i) "java/lang/String" "value" "[B")) (.int (Int32.ofNat (mm_len.getD i 0))) ∈ flatC (Jvm.Cond.and given_1 narrow_1) := by decide +kernel
theorem mk_el0 : ∀ i : Nat, i < 15 → ∀ j : Nat, j < mm_len.getD i 0 → (flatC (Jvm.Cond.and given_1 narrow_1))[[44, 53, 64, 120, 254, 148, 175, 193, 207, 222, 238, 354, 334, 274, 292].getD i 0 + j]? = some (Cond.eq (.elem (.field (mm_tm i) "java/lang/String" "value" "[B") (.int (Int32.ofNat j))) (.int ((mm_byt.getD i []).getD j 0))) := by decide +kernel
theorem mk_el : ∀ i : Nat, i < 15 → ∀ j : Nat, j < mm_len.getD i 0 → Cond.eq (.elem (.field (mm_tm i) "java/lang/String" "value" "[B") (.int (Int32.ofNat j))) (.int ((mm_byt.getD i []).getD j 0)) ∈ flatC (Jvm.Cond.and given_1 narrow_1) := fun i hi j hj => List.mem_of_getElem? (mk_el0 i hi j hj)
def mk_nt : List (List Nat) := [[0, 59, 114, 141, 260, 167, 184, 197, 211, 226, 241, 356, 337, 277, 318], [0, 0, 115, 142, 261, 168, 185, 198, 212, 227, 242, 357, 338, 278, 319], [0, 0, 0, 143, 262, 169, 186, 199, 213, 228, 243, 358, 339, 279, 320], [0, 0, 0, 0, 263, 170, 187, 200, 214, 229, 244, 359, 340, 280, 321], [0, 0, 0, 0, 0, 0, 0, 0, 0, 0, 0, 366, 347, 287, 328], [0, 0, 0, 0, 264, 0, 188, 201, 215, 230, 245, 360, 341, 281, 322], [0, 0, 0, 0, 265, 0, 0, 202, 216, 231, 246, 361, 342, 282, 323], [0, 0, 0, 0, 266, 0, 0, 0, 217, 232, 247, 362, 343, 283, 324], [0, 0, 0, 0, 267, 0, 0, 0, 0, 233, 248, 363, 344, 284, 325], [0, 0, 0, 0, 268, 0, 0, 0, 0, 0, 249, 364, 345, 285, 326], [0, 0, 0, 0, 269, 0, 0, 0, 0, 0, 0, 365, 346, 286, 327], [0, 0, 0, 0, 0, 0, 0, 0, 0, 0, 0, 0, 0, 0, 0], [0, 0, 0, 0, 0, 0, 0, 0, 0, 0, 0, 369, 0, 0, 0], [0, 0, 0, 0, 0, 0, 0, 0, 0, 0, 0, 367, 348, 0, 329], [0, 0, 0, 0, 0, 0, 0, 0, 0, 0, 0, 368, 349, 0, 0]]
theorem mk_ne0 : ∀ i : Nat, i < 15 → ∀ j : Nat, j < 15 → i ≠ j → (flatC (Jvm.Cond.and given_1 narrow_1))[(mk_nt.getD i []).getD j 0]? = some (Cond.not (Cond.eq (mm_tm i) (mm_tm j))) ∨ (flatC (Jvm.Cond.and given_1 narrow_1))[(mk_nt.getD j []).getD i 0]? = some (Cond.not (Cond.eq (mm_tm j) (mm_tm i))) := by decide +kernel
theorem mk_ne (i : Nat) (hi : i < 15) (j : Nat) (hj : j < 15) (hij : i ≠ j) : Cond.not (Cond.eq (mm_tm i) (mm_tm j)) ∈ flatC (Jvm.Cond.and given_1 narrow_1) ∨ Cond.not (Cond.eq (mm_tm j) (mm_tm i)) ∈ flatC (Jvm.Cond.and given_1 narrow_1) :=
  (mk_ne0 i hi j hj hij).imp (fun h => List.mem_of_getElem? h) (fun h => List.mem_of_getElem? h)
theorem mk_len : ∀ i : Nat, i < 15 → mm_len.getD i 0 < 2 ^ 31 := by decide +kernel
theorem mk_ref : ∀ i : Nat, i < 15 → Cond.stringRef "WaterReview$Reader" (mm_tx.getD i (0, "")).1 (mm_tx.getD i (0, "")).2 ∈ lw_tbl := by decide +kernel
theorem mm_arrP {s : State} {ty : FieldType} {args : Array Value} (hty : ∀ C, ty ≠ .object C) (h : (Cond.arrayClass ty).before args s = true) : ∃ c : ClassId, ArrOfT s c ty ∧ va_RA s c ty := by
  obtain ⟨c, k, comp, h1, h2, h3⟩ := Cond.arrayClass_spec h
  refine ⟨c, fun n z => ⟨fun k q => (by cases q), k, h2, comp, h3⟩, ?_⟩
  cases ty with
  | object C => exact absurd rfl (hty C)
  | _ => exact h1
theorem mm_arrO {s : State} {C : String} {args : Array Value} (h : (Cond.arrayOver (.object C)).before args s = true) : ∃ c : ClassId, ArrOfT s c (.object C) ∧ va_RA s c (.object C) := by
  obtain ⟨comp, c, k, h1, h2, h3, h4, h5⟩ := Cond.arrayOver_spec h
  exact ⟨c, fun n z => ⟨fun k q => (by cases q), k, h3, comp, h4⟩, ⟨k, comp, h3, h4, h1, h5⟩⟩
theorem mm_arrA {s : State} {t : FieldType} {args : Array Value} (h : (Cond.arrayOver (.array t)).before args s = true) : ∃ c : ClassId, ArrOfT s c (.array t) ∧ va_RA s c (.array t) := by
  obtain ⟨comp, c, k, h1, h2, h3, h4⟩ := Cond.arrayOver_specA h
  exact ⟨c, fun n z => ⟨fun k q => (by cases q), k, h2, comp, h3⟩, h4⟩
set_option maxRecDepth 100000 in
theorem mm_start {p : Program} {e : Env} {s : State} {m : MethodId} {below : List Frame} {meth : Method} {c : Code} (l : Launch) {b L : Nat} {xs : Nat → Int32} (hL : L ≤ 3584) (C0 : lw_At p s m meth c b L xs) : ∃ G : mm_G, mm_C (p, l, e, room_1, s, m, #[.ref b], below, meth, c) G cL_law yL_law.cls 4 600000 7302250 (some .boolean) 300 meth.name ∧ mm_R G (mm_out0 L xs) 48 s.heap ∧ mm_a G 0 = b ∧ mm_A G = (fun q => s.heap.size ≤ q) := by
  obtain ⟨hx, hb, hr, hml, hown, hts, hX, hbl, hlocks, hgv⟩ := id C0
  have hs := flat_of_before _ hgv
  have hA : ∀ a : Nat, a < s.heap.size → ¬ (fun q : Nat => s.heap.size ≤ q) a := fun a h9 => Nat.not_le.mpr h9
  have hmt : ∀ q ∈ mm_tbl, q.before #[Value.ref b] s = true := fun q hq => hts q (List.mem_filter.mp hq).1
  -- classes
  obtain ⟨c0, iS0, hKn0⟩ := u_known (C := RX0) (T := TX0) (N := 5) (n := 5) hmt us_X0 (hmt _ (mm_of_tbl (mm_t1 (List.mem_of_getElem? (l := tables_1_1) (i := 35) (by decide +kernel))) rfl))
  obtain ⟨c1, iS1, hKn1⟩ := u_known (C := RX1) (T := TX1) (N := 6) (n := 6) hmt us_X1 (hmt _ (mm_of_tbl (mm_t1 (List.mem_of_getElem? (l := tables_1_1) (i := 90) (by decide +kernel))) rfl))
  obtain ⟨c2, iS2, hKn2⟩ := u_known (C := RX2) (T := TX2) (N := 10) (n := 10) hmt us_X2 (hmt _ (mm_of_tbl (mm_t1 (List.mem_of_getElem? (l := tables_1_1) (i := 161) (by decide +kernel))) rfl))
  obtain ⟨c3, iS3, hKn3⟩ := u_known (C := RX3) (T := TX3) (N := 12) (n := 12) hmt us_X3 (hmt _ (mm_of_tbl (mm_t2 (List.mem_of_getElem? (l := tables_1_2) (i := 4) (by decide +kernel))) rfl))
  obtain ⟨c4, iS4, hKn4⟩ := u_known (C := RX4) (T := TX4) (N := 7) (n := 7) hmt us_X4 (hmt _ (mm_of_tbl (mm_t1 (List.mem_of_getElem? (l := tables_1_1) (i := 29) (by decide +kernel))) rfl))
  obtain ⟨c5, iS5, hKn5⟩ := u_known (C := RX5) (T := TX5) (N := 11) (n := 11) hmt us_X5 (hmt _ (mm_of_tbl (mm_t3 (List.mem_of_getElem? (l := tables_1_3) (i := 67) (by decide +kernel))) rfl))
  obtain ⟨c6, iS6, hKn6⟩ := u_known (C := RX6) (T := TX6) (N := 4) (n := 4) hmt us_X6 (hmt _ (mm_of_tbl (mm_t3 (List.mem_of_getElem? (l := tables_1_3) (i := 189) (by decide +kernel))) rfl))
  obtain ⟨c7, iS7, hKn7⟩ := u_known (C := RX7) (T := TX7) (N := 13) (n := 13) hmt us_X7 (hmt _ (mm_of_tbl (mm_t1 (List.mem_of_getElem? (l := tables_1_1) (i := 149) (by decide +kernel))) rfl))
  obtain ⟨c8, iS8, hKn8⟩ := u_known (C := RX9) (T := TX9) (N := 6) (n := 6) hmt us_X9 (hmt _ (mm_of_tbl (mm_t1 (List.mem_of_getElem? (l := tables_1_1) (i := 62) (by decide +kernel))) rfl))
  obtain ⟨c9, iS9, hKn9⟩ := u_known (C := RX10) (T := TX10) (N := 12) (n := 12) hmt us_X10 (hmt _ (mm_of_tbl (mm_t1 (List.mem_of_getElem? (l := tables_1_1) (i := 21) (by decide +kernel))) rfl))
  obtain ⟨c10, iS10, hKn10⟩ := u_known (C := RX11) (T := TX11) (N := 68) (n := 68) hmt us_X11 (hmt _ (mm_of_tbl (mm_t5 (List.mem_of_getElem? (l := tables_1_5) (i := 172) (by decide +kernel))) rfl))
  obtain ⟨dC, dI, hKc⟩ : ∃ (dC : Nat → ClassId) (dI : Nat → Nat → Nat), ∀ (k : Nat) (q : vw_C), vwCl[k]? = some q → u_Kn s q.1 q.2.1 q.2.2 (dC k) (dI k) := by
    refine ⟨fun k => match k with | 0 => c0 | 1 => c1 | 2 => c2 | 3 => c3 | 4 => c4 | 5 => c5 | 6 => c6 | 7 => c7 | 8 => c8 | 9 => c9 | 10 => c10 | _ => 0, fun k => match k with | 0 => iS0 | 1 => iS1 | 2 => iS2 | 3 => iS3 | 4 => iS4 | 5 => iS5 | 6 => iS6 | 7 => iS7 | 8 => iS8 | 9 => iS9 | 10 => iS10 | _ => fun _ => 0, ?_⟩
    intro k q hq
    match k, hq with
    | 0, hq => cases hq; exact hKn0
    | 1, hq => cases hq; exact hKn1
    | 2, hq => cases hq; exact hKn2
    | 3, hq => cases hq; exact hKn3
    | 4, hq => cases hq; exact hKn4
    | 5, hq => cases hq; exact hKn5
    | 6, hq => cases hq; exact hKn6
    | 7, hq => cases hq; exact hKn7
    | 8, hq => cases hq; exact hKn8
    | 9, hq => cases hq; exact hKn9
    | 10, hq => cases hq; exact hKn10
    | k + 11, hq => simp [vwCl] at hq
  -- arrays
  have hmv : ∀ {x : Cond}, x ∈ mm_tbl → x.before #[Value.ref b] s = true := fun h => hmt _ h
  have hAO1 : (Cond.arrayOver (.object "WaterReview$Rule")).before #[Value.ref b] s = true := hts _ (by decide +kernel)
  have hAO2 : (Cond.arrayOver (.object "WaterReview$RuleBook")).before #[Value.ref b] s = true := hts _ (by decide +kernel)
  have hAA1 : (Cond.arrayOver (.array .int)).before #[Value.ref b] s = true := hts _ (by decide +kernel)
  have hAA2 : (Cond.arrayOver (.array .long)).before #[Value.ref b] s = true := hts _ (by decide +kernel)
  have hty : ∀ t : FieldType, ∃ c : ClassId, t ∈ mm_tys → ArrOfT s c t ∧ va_RA s c t := by
    intro t
    by_cases ht : t ∈ mm_tys
    · have : ∃ c : ClassId, ArrOfT s c t ∧ va_RA s c t := by
        simp only [mm_tys, List.mem_cons, List.not_mem_nil, or_false] at ht
        rcases ht with rfl | rfl | rfl | rfl | rfl | rfl | rfl | rfl
        · exact mm_arrP (fun _ => by intro h; cases h) (hmv ac_int)
        · exact mm_arrP (fun _ => by intro h; cases h) (hmv ac_long)
        · exact mm_arrP (fun _ => by intro h; cases h) (hmv ac_byte)
        · exact mm_arrP (fun _ => by intro h; cases h) (hmv ac_boolean)
        · exact mm_arrO hAO1
        · exact mm_arrO hAO2
        · exact mm_arrA hAA1
        · exact mm_arrA hAA2
      obtain ⟨c, hc⟩ := this
      exact ⟨c, fun _ => hc⟩
    · exact ⟨0, fun h => absurd h ht⟩
  obtain ⟨cA, hcA⟩ := Classical.axiomOfChoice hty
  -- what lies there before
  obtain ⟨t1, ht1, hT1⟩ := va_Tof (A := fun q : Nat => s.heap.size ≤ q) (tm := .static "WaterReview" "PARTS" "[I") (ty := .int) (N := 3) (f := fun j => .int (mm_fP j)) (by decide) (hs _ (by decide +kernel)) (va_eqt (hs _ (by decide +kernel))) (fun j hj => va_eqt (hs _ (by revert j hj; decide +kernel))) hA
  obtain ⟨t2, ht2, hT2⟩ := va_Tof (A := fun q : Nat => s.heap.size ≤ q) (tm := .static "WaterReview" "NO_TEST" "[I") (ty := .int) (N := 0) (f := fun j => .int 0) (by decide) (hs _ (by decide +kernel)) (va_eqt (hs _ (by decide +kernel))) (fun j hj => absurd hj (Nat.not_lt_zero j)) hA
  have hZ1 := va_Zref (A := fun q : Nat => s.heap.size ≤ q) (hts (.laysStatic "WaterReview" "PARTS" "[I") (by decide +kernel)) (hts (.initialized "WaterReview") (by decide +kernel)) ht1 hA
  have hZ2 := va_Zref (A := fun q : Nat => s.heap.size ≤ q) (hts (.laysStatic "WaterReview" "NO_TEST" "[I") (by decide +kernel)) (hts (.initialized "WaterReview") (by decide +kernel)) ht2 hA
  have hZ3 := va_Zof (A := fun q : Nat => s.heap.size ≤ q) (hts (.laysStatic "java/lang/String" "COMPACT_STRINGS" "Z") (by decide +kernel)) (hts (.initialized "java/lang/String") (by decide +kernel)) (va_eqi (hs (.eq (.static "java/lang/String" "COMPACT_STRINGS" "Z") (.int 1)) (by decide +kernel))) hA
  have hZ4 := va_Zqof (A := fun q : Nat => s.heap.size ≤ q) (hts (.laysStatic "jdk/internal/util/Preconditions" "SIOOBE_FORMATTER" "Ljava/util/function/BiFunction;") (by decide +kernel)) (hts (.initialized "jdk/internal/util/Preconditions") (by decide +kernel)) (hs (.isRef (.static "jdk/internal/util/Preconditions" "SIOOBE_FORMATTER" "Ljava/util/function/BiFunction;")) (by decide +kernel)) hA
  obtain ⟨adK, adV, hZ5, hEvK⟩ := vk_Sof (A := (fun q : Nat => s.heap.size ≤ q)) (tm := mm_tm) (len := mm_len) (byt := mm_byt) (N := 15) mk_len (fun i hi => hs _ (mk_ex i hi)) (fun i hi => hs _ (mk_co i hi)) (fun i hi => hs _ (mk_ar i hi)) (fun i hi => hs _ (mk_le i hi)) (fun i hi j hj => hs _ (mk_el i hi j hj)) (fun i j hi hj hij => (mk_ne i hi j hj hij).imp (fun h => hs _ h) (fun h => hs _ h)) hA
  obtain ⟨t33, hZ33⟩ : ∃ t33 : Nat, va_Z "jdk/internal/util/Preconditions" "SIOOBE_FORMATTER" "Ljava/util/function/BiFunction;" .null (fun q : Nat => s.heap.size ≤ q) s s.heap ∨ va_Z "jdk/internal/util/Preconditions" "SIOOBE_FORMATTER" "Ljava/util/function/BiFunction;" (.ref t33) (fun q : Nat => s.heap.size ≤ q) s s.heap := by
    rcases hZ4 with h | ⟨t, h⟩
    · exact ⟨0, Or.inl h⟩
    · exact ⟨t, Or.inr h⟩
  have hT0 : va_T .int b L (fun j => .int (xs j)) (fun q : Nat => s.heap.size ≤ q) s s.heap := by
    obtain ⟨scr, g1, g2, g3, g4, g5⟩ := hX
    exact ⟨scr, g1, g2, g3, Nat.le_of_eq g4.symm, by rw [g4], g5, hA b hbl⟩
  refine ⟨((dC, dI), cA, fun a => if a = 0 then b else if a = 1 then t1 else if a = 2 then t2 else if a < 18 then adK (a - 3) else if a < 33 then adV (a - 18) else t33, s.heap.size, mm_out0 L xs), ⟨hx, hb, hml, hown, hmt, ⟨hKc, fun k q hk => ?_⟩, ?_, hlocks, hr, Nat.le_of_ble_eq_true rfl, Nat.le_of_ble_eq_true rfl, Nat.le_of_ble_eq_true rfl, Nat.le_of_ble_eq_true rfl, Nat.le_refl _, rfl⟩, ⟨rfl, Nat.le_refl _, fun a h1 h2 => absurd h2 (by omega), fun a _ => rfl⟩, rfl, rfl⟩
  · obtain ⟨t, ht, rfl⟩ := List.mem_map.mp (List.mem_of_getElem? hk)
    exact hcA t ht
  · refine ⟨trivial, ?_, hZ1, hZ2, hZ3, ?_, ?_, fun i hi => ?_, va_AO.of hAO1, va_AO.of hAO2, hAA1, ⟨hAA2, va_Nw.of rfl (hts (.castable "[I" "java/lang/Cloneable") (by decide +kernel))⟩, fun a i b n d h hm => va_Nw.of rfl (hts _ hm)⟩
    · intro a n ty f ha hty he
      dsimp only at he ⊢
      unfold mm_out0 at he
      by_cases h0 : a = 0
      · rw [if_pos h0] at he ⊢
        cases he
        exact hT0
      rw [if_neg h0] at he ⊢
      by_cases h1 : a = 1
      · rw [if_pos h1] at he ⊢
        cases he
        exact hT1
      rw [if_neg h1] at he ⊢
      by_cases h2 : a = 2
      · rw [if_pos h2] at he ⊢
        cases he
        exact hT2
      rw [if_neg h2] at he ⊢
      by_cases h3 : 18 ≤ a ∧ a < 33
      · rw [if_pos h3] at he
        rw [if_neg (by omega), if_pos h3.2]
        cases he
        exact (hZ5.1 (a - 18) (by omega)).2.2.2
      · rw [if_neg h3] at he
        cases he
    · exact hZ33
    · have e1 : ∀ i : Nat, i < 15 → (if 3 + i = 0 then b else if 3 + i = 1 then t1 else if 3 + i = 2 then t2 else if 3 + i < 18 then adK (3 + i - 3) else if 3 + i < 33 then adV (3 + i - 18) else t33) = adK i := fun i hi => by
        rw [if_neg (by omega), if_neg (by omega), if_neg (by omega), if_pos (by omega)]; congr 1; omega
      have e2 : ∀ i : Nat, i < 15 → (if 18 + i = 0 then b else if 18 + i = 1 then t1 else if 18 + i = 2 then t2 else if 18 + i < 18 then adK (18 + i - 3) else if 18 + i < 33 then adV (18 + i - 18) else t33) = adV i := fun i hi => by
        rw [if_neg (by omega), if_neg (by omega), if_neg (by omega), if_neg (by omega), if_pos (by omega)]; congr 1; omega
      refine ⟨fun i hi => ?_, fun i j hi hj q => ?_⟩
      · dsimp only
        rw [e1 i hi, e2 i hi]
        exact hZ5.1 i hi
      · dsimp only at q
        rw [e1 i hi, e1 j hj] at q
        exact hZ5.2 i j hi hj q
    · dsimp only
      rw [if_neg (by omega), if_neg (by omega), if_neg (by omega), if_pos (by omega), show 3 + i - 3 = i by omega]
      exact vk_R.of (hts _ (mk_ref i hi)) (hEvK i hi)
theorem whole_of {K : Nat} {p : Program} {e : Env} {s : State} {m : MethodId} {below : List Frame} {meth : Method} {c : Code} (l : Launch) (hflags : l.flags = flags0) {b L : Nat} {xs : Nat → Int32} (hL : L ≤ 3584) (hq : q_law K (mm_out0 L xs) = some ()) (C0 : lw_At p s m meth c b L xs) : W p l e room_1 s m #[Value.ref b] below meth c s.heap [] 0 0 (lw_Z below #[Value.ref b] s) (entryFrame m ([Value.ref b] : List Value).toArray 4) := by
  obtain ⟨hx, hb, hr, hml, hown, hts, hX, hbl, hlocks, hgv⟩ := id C0
  obtain ⟨G, C, hR, hb0, hA0⟩ := mm_start (e := e) (below := below) l hL C0
  have key := c_law (Q_ := lw_Z below #[Value.ref b] s) C (fun L' h' n' kc ks => by
    refine rr_iconst (v := 1) C dL_law_1556 (by decide) ?_
    intro ls H locs cells slots hL hR hS hc hs
    refine W.widen (k := 600000) (n := 7302250) (by omega) (by omega) ?_
    refine va_forget (fun q hq => by have := hS.2.2 q hq; rw [hA0] at this; exact this) ?_
    exact lw_ret hx hb hr hlocks dL_law_1557) hq
  rw [lg_entry_eq]
  have en := mm_entry (nL := 4) (as := [.ref 0]) G (Nat.le_of_ble_eq_true rfl)
  have e9 : ([.ref 0] : List Value).map (mm_v G) = [.ref b] := by rw [← hb0]; rfl
  rw [e9] at en
  exact key _ s.heap [] 0 0 en hR va_S.rf (by omega) (by omega)

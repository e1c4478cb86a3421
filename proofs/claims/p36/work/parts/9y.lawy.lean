/-! ===== the whole law ===== -/
section LAWY
variable {K : Nat} {P : Nat → Nat} {le ti : Bool}
variable {l2 l3 l4 l5 l6 l7 l8 l9 l10 l11 l12 l13 l14 l15 l16 l17 : Int32}
theorem byt_tx : ∀ i, i < 15 → mm_len.getD i 0 = (txN i).length ∧ mm_byt.getD i [] = (txN i).map ni := by decide +kernel
theorem out_0 {h : mm_H} {L : Nat} {xs : Nat → Int32} (o : ∀ a, a < 48 → h a = mm_out0 L xs a) : S0 h L xs ∧ PRT h ∧ TXT h := by
  refine ⟨o 0 (by omega), ⟨mm_fP, o 1 (by omega), rfl, rfl, rfl⟩, fun i hi => ?_⟩
  obtain ⟨e1, e2⟩ := byt_tx i hi
  rw [o (18 + i) (by omega)]
  unfold mm_out0
  rw [if_neg (by omega), if_neg (by omega), if_neg (by omega), if_pos ⟨by omega, by omega⟩, show 18 + i - 18 = i by omega, e1, e2]
  have e3 : (fun j => ((txN i).map ni).getD j 0) = fun j => ni ((txN i).getD j 0) := by
    funext j
    rw [List.getD_eq_getElem?_getD, List.getD_eq_getElem?_getD, List.getElem?_map]
    cases (txN i)[j]? <;> rfl
  rw [e3]
theorem out_1 {h : mm_H} {L : Nat} {xs : Nat → Int32} (o : ∀ a, 1000000 ≤ a → h a = mm_out0 L xs a) : CN h := by
  refine ⟨⟨(o _ (by decide)).trans rfl, (o _ (by decide)).trans rfl⟩, fun i hi => ?_⟩
  obtain ⟨e1, e2, -⟩ := tl_ok i hi
  have e : mm_out0 L xs (1000100 + i) = .inl (.byte, mm_lenL.getD i 0, .inl (fun j => (mm_bytL.getD i []).getD j 0)) := by
    unfold mm_out0
    rw [if_neg (by omega), if_neg (by omega), if_neg (by omega), if_neg (by omega), if_pos ⟨by omega, by omega⟩, show 1000100 + i - 1000100 = i by omega]
  exact ⟨_, (o _ (by omega)).trans (by rw [e, e1]), e2⟩
theorem z_434 (hK : 3000 ≤ K) {h0 g : mm_H} {N m s vs : Nat} {xs : Nat → Int32} (hN : N ≤ 260) (b0 : B0 h0 N xs) (pb : PB P) (lp : LPP P le ti l2 l3 l4 l5 l6 l7 l8 l9 l10 l11 l12 l13 l14 l15 l16 l17) (t : STr g m s vs (lawR P (wLM le) ti)) (hs : s < m) (hv : vs < m) (hs0 : 159 ≤ s) (hm : 159 ≤ m) (hm9 : m < 100000) (hT : (lawR P (wLM le) ti).length ≤ 220) (fr : ∀ b, (b < 159 ∨ 1000000 ≤ b) → g b = h0 b) : q_law_434 K g m l2 l3 l4 l5 l6 l7 l8 l9 l10 l11 l12 l13 l14 l15 l16 l17 (some s) = some () := by
  have c0 : PS h0 := b0.PS
  have j0 : JR h0 := B0_JR b0
  obtain ⟨o1, o2, o3⟩ := out_0 (h := h0) (L := N) (xs := xs) (fun a ha => b0.1 a (Or.inl ha))
  have e := b0.2
  have c : PS g := c0.of (fun a s q => fr a (by
    refine Or.inl (Nat.lt_of_not_le fun z => ?_)
    rw [mm_sh_top (by omega)] at q
    cases q))
  have p0 := j0.2.2.2.2.2.2
  have f485 : fI g 48 5 = 0 := (fI_c (fr 48 (by omega)) 5).trans (fI_of (x := 0) (e 0 _ rfl) rfl)
  obtain ⟨g2, m2, e2, k1, k2, c2, ⟨T0, t1, t2, t3⟩, ta, tb, fr2, f7, -, -⟩ := lp_7 (K := K) hK (n0 := m) hm hv hs 20 0 40 m g (by omega) (by omega) (by omega) (Nat.le_refl m) (by omega) t c (by rw [f485]; rfl) (fun i hi => by omega) (fun i => by rw [iA_c (fr 155 (by omega))]; exact p0.2.2 i)
  have ee : ∀ a, a < 159 → a ≠ 48 → a ≠ 155 → g2 a = h0 a := fun a h1 h2 h3 => (fr2 a h2 h3 (by omega)).trans (fr a (Or.inl h1))
  have j2 : JR g2 := JR_p (fun a ha => ee a (by omega) (by omega) (by omega)) ⟨⟨T0, t3, t2⟩, rfl, tb⟩ j0
  have T2 : TXT g2 := fun i hi => (ee (18 + i) (by omega) (by omega) (by omega)).trans (o3 i hi)
  have at0 : At (fun k => (lawR P (wLM le) ti).getD k 32) (lawR P (wLM le) ti).length 0 (lawR P (wLM le) ti) := ⟨by omega, fun i hi => by
    show (lawR P (wLM le) ti).getD (0 + i) 32 = _
    rw [Nat.zero_add, List.getD_eq_getElem?_getD, List.getD_eq_getElem?_getD, List.getElem?_eq_getElem hi]
    rfl⟩
  obtain ⟨g3, m3, p, e3, k3, k4, c3, j3, tk, fr3⟩ := z_rulesT (K := K) (n := m2) (M := 40) hK c2 (by omega) (by omega) T2 j2 t3 t2 t1 (f7.trans ((fI_c (fr 48 (by omega)) 7).trans (fI_of (x := 0) (e 0 _ rfl) rfl))) ((fI_c (ee 49 (by omega) (by omega) (by omega)) 6).trans (fI_of (x := 0) (e 1 _ rfl) rfl)) ⟨fun _ => 0, (ee 2 (by omega) (by omega) (by omega)).trans ((b0.1 2 (by omega)).trans rfl)⟩ (fun k hk => ⟨ta k hk, getD_b t.1 k⟩) tb (txt_ok pb at0) (by omega)
  have e4 : ∀ a, a < 151 → a ≠ 48 → g3 a = h0 a := fun a h1 h2 => (fr3 a (by omega) h2 (by omega) (by omega) (by omega) (by omega) (by omega)).trans (ee a (by omega) h2 (by omega))
  unfold q_law_434 q_L_put
  refine bindS (w := (ni (lawR P (wLM le) ti).length, g2, m2)) ?_ ?_
  · rw [Option.bind_some, t.ok.2.2.1, Option.bind_some, (t.len (K := K)).2, Option.bind_some]
    have e2' : lp_L_put_7 K (some 48) s (ni (lawR P (wLM le) ti).length) 40 0 g m = some (g2, m2) := e2
    rw [e2']
    rfl
  · refine bindS (gq_48 c2 (show 159 ≤ m2 by omega)) ?_
    refine bindS e3 ?_
    refine (if_neg (Classical.not_not.mpr rfl)).trans ?_
    refine z_452 hN hK lp (n0 := m3) (p := p) (by omega) (Nat.le_refl m3) (show m3 < 900000 by omega) ⟨c3, j3, tk, ?_, (e4 0 (by omega) (by omega)).trans o1, (fI_c (e4 49 (by omega) (by omega)) 5).trans (fI_of (x := 0) (e 1 _ rfl) rfl), (fI_c (e4 49 (by omega) (by omega)) 6).trans (fI_of (x := 0) (e 1 _ rfl) rfl), (fI_c (e4 51 (by omega) (by omega)) 4).trans (fI_of (x := 0) (e 3 _ rfl) rfl), fun k hk => ?_, (fI_c (e4 56 (by omega) (by omega)) 4).trans (fI_of (x := 0) (k := 4) (e 8 _ rfl) rfl), (fI_c (e4 61 (by omega) (by omega)) 5).trans (fI_of (x := 0) (e 13 _ rfl) rfl), (fI_c (e4 67 (by omega) (by omega)) 5).trans (fI_of (x := 0) (e 19 _ rfl) rfl)⟩
    · obtain ⟨f, q1, q2⟩ := o2
      exact ⟨f, (e4 1 (by omega) (by omega)).trans q1, q2⟩
    · rw [iA_c (e4 55 (by omega) (by omega)), iA_of (e 7 _ rfl)]
      show (if k < 2805 then (-1 : Int32) else 0) = -1
      rw [if_pos hk]
/-- the numbers the script gives -/
def PV (x : Nat → Int32) (j : Nat) : Nat :=
  if j = 2 then bt (x 0) 127 else if j = 3 then 80 + bt (x 0 >>> (7 &&& 31)) 63 else if j = 4 then bt (x 0 >>> (13 &&& 31)) 31 else if j = 5 then bt (x 0 >>> (18 &&& 31)) 63 else if j = 6 then bt (x 0 >>> (24 &&& 31)) 63
  else if j = 7 then bt (x 1) 63 else if j = 8 then bt (x 1 >>> (6 &&& 31)) 127 else if j = 9 then bt (x 1 >>> (13 &&& 31)) 127 % 101 else if j = 10 then bt (x 1 >>> (20 &&& 31)) 127 % 101
  else if j = 11 then bt (x 2) 63 else if j = 12 then 1 + bt (x 2 >>> (6 &&& 31)) 7 else if j = 13 then bt (x 2 >>> (9 &&& 31)) 31 else if j = 14 then bt (x 2 >>> (14 &&& 31)) 7 else if j = 15 then bt (x 2 >>> (17 &&& 31)) 255 else 0
theorem ite_le {c : Prop} [Decidable c] {a b m : Nat} (ha : a ≤ m) (hb : b ≤ m) : (if c then a else b) ≤ m := by
  split
  · exact ha
  · exact hb
theorem pv_le (x : Nat → Int32) (j : Nat) : PV x j ≤ 500 := by
  have b1 : ∀ v, bt v 127 ≤ 500 := fun v => Nat.le_trans (bt_ok v (M := 127) (by omega)).2 (by omega)
  have b2 : ∀ v, bt v 63 ≤ 63 := fun v => (bt_ok v (M := 63) (by omega)).2
  have b2' : ∀ v, bt v 63 ≤ 500 := fun v => Nat.le_trans (b2 v) (by omega)
  have b3 : ∀ v, bt v 31 ≤ 500 := fun v => Nat.le_trans (bt_ok v (M := 31) (by omega)).2 (by omega)
  have b4 : ∀ v, bt v 7 ≤ 7 := fun v => (bt_ok v (M := 7) (by omega)).2
  have b4' : ∀ v, bt v 7 ≤ 500 := fun v => Nat.le_trans (b4 v) (by omega)
  have b5 : ∀ v, bt v 255 ≤ 500 := fun v => Nat.le_trans (bt_ok v (M := 255) (by omega)).2 (by omega)
  have b6 : ∀ v, 80 + bt v 63 ≤ 500 := fun v => by have := b2 v; omega
  have b7 : ∀ v, 1 + bt v 7 ≤ 500 := fun v => by have := b4 v; omega
  have b8 : ∀ k, k % 101 ≤ 500 := fun k => by omega
  unfold PV
  exact ite_le (b1 _) (ite_le (b6 _) (ite_le (b3 _) (ite_le (b2' _) (ite_le (b2' _) (ite_le (b2' _) (ite_le (b1 _) (ite_le (b8 _) (ite_le (b8 _) (ite_le (b2' _) (ite_le (b7 _) (ite_le (b3 _) (ite_le (b4' _) (ite_le (b5 _) (Nat.zero_le _))))))))))))))
theorem pv_pb (x : Nat → Int32) : PB (PV x) := by
  have b1 := fun v => (bt_ok v (M := 127) (by omega)).2
  have b2 := fun v => (bt_ok v (M := 63) (by omega)).2
  have b3 := fun v => (bt_ok v (M := 31) (by omega)).2
  refine ⟨b1 _, ⟨?_, ?_⟩, ?_, ?_, ?_, ?_, b1 _, ?_, ?_, pv_le x 11, ⟨?_, pv_le x 12⟩, pv_le x 13, pv_le x 14, pv_le x 15⟩
  · show 50 ≤ 80 + bt (x 0 >>> (7 &&& 31)) 63
    omega
  · show 80 + bt (x 0 >>> (7 &&& 31)) 63 ≤ 150
    have := b2 (x 0 >>> (7 &&& 31))
    omega
  · exact Nat.le_trans (b3 (x 0 >>> (13 &&& 31))) (by omega)
  · exact Nat.le_trans (b2 (x 0 >>> (18 &&& 31))) (by omega)
  · exact Nat.le_trans (b2 (x 0 >>> (24 &&& 31))) (by omega)
  · exact Nat.le_trans (b2 (x 1)) (by omega)
  · show bt (x 1 >>> (13 &&& 31)) 127 % 101 ≤ 100
    omega
  · show bt (x 1 >>> (20 &&& 31)) 127 % 101 ≤ 100
    omega
  · show 1 ≤ 1 + bt (x 2 >>> (6 &&& 31)) 7
    omega
theorem q_law_all {L : Nat} {xs : Nat → Int32} (hL : L ≤ 260) : q_law 7000 (mm_out0 L xs) = some () := by
  obtain ⟨h1, h, e1, e2, b0⟩ := first_heap (K := 7000) (by omega) L xs
  obtain ⟨o1, o2, o3⟩ := out_0 (h := h) (L := L) (xs := xs) (fun a ha => b0.1 a (Or.inl ha))
  have cn : CN h := out_1 (L := L) (xs := xs) (fun a ha => b0.1 a (Or.inr ha))
  have c0 : q_L_cell 7000 h 159 (some 0) 0 = some (cx L xs 0) := cell_ok (k := 0) (by omega) o1 hL (by omega)
  have c1 : q_L_cell 7000 h 159 (some 0) 1 = some (cx L xs 1) := cell_ok (k := 1) (by omega) o1 hL (by omega)
  have c2 : q_L_cell 7000 h 159 (some 0) 2 = some (cx L xs 2) := cell_ok (k := 2) (by omega) o1 hL (by omega)
  have b127 := fun v => (bt_ok v (M := 127) (by omega)).1
  have b63 := fun v => (bt_ok v (M := 63) (by omega)).1
  have b31 := fun v => (bt_ok v (M := 31) (by omega)).1
  have b7 := fun v => (bt_ok v (M := 7) (by omega)).1
  have b255' := fun v => (bt_ok v (M := 255) (by omega)).1
  have l127 := fun v => (bt_ok v (M := 127) (by omega)).2
  unfold q_law
  refine bindS e1 ?_
  refine bindS e2 ?_
  refine bindS c0 ?_
  refine bindS (w := ni (PV (cx L xs) 2)) (congrArg some (b127 (cx L xs 0))) ?_
  refine bindS c0 ?_
  refine bindS (w := ni (PV (cx L xs) 3)) (congrArg some (by
    show (80 : Int32) + ((cx L xs 0 >>> (7 &&& 31)) &&& ni 63) = _
    rw [b63]
    exact ni_add 80 _)) ?_
  refine bindS c0 ?_
  refine bindS (w := ni (PV (cx L xs) 4)) (congrArg some (b31 (cx L xs 0 >>> (13 &&& 31)))) ?_
  refine bindS c0 ?_
  refine bindS (w := ni (PV (cx L xs) 5)) (congrArg some (b63 (cx L xs 0 >>> (18 &&& 31)))) ?_
  refine bindS c0 ?_
  refine bindS (w := ni (PV (cx L xs) 6)) (congrArg some (b63 (cx L xs 0 >>> (24 &&& 31)))) ?_
  refine bindS c1 ?_
  refine bindS (w := ni (PV (cx L xs) 7)) (congrArg some (b63 (cx L xs 1))) ?_
  refine bindS c1 ?_
  refine bindS (w := ni (PV (cx L xs) 8)) (congrArg some (b127 (cx L xs 1 >>> (6 &&& 31)))) ?_
  refine bindS c1 ?_
  refine bindS (w := ni (PV (cx L xs) 9)) (congrArg some (by
    show ((cx L xs 1 >>> (13 &&& 31)) &&& ni 127) - ((cx L xs 1 >>> (13 &&& 31)) &&& ni 127) / 101 * 101 = _
    have := l127 (cx L xs 1 >>> (13 &&& 31))
    rw [b127]
    exact ni_mod (b := 101) (by omega) (by omega))) ?_
  refine bindS c1 ?_
  refine bindS (w := ni (PV (cx L xs) 10)) (congrArg some (by
    show ((cx L xs 1 >>> (20 &&& 31)) &&& ni 127) - ((cx L xs 1 >>> (20 &&& 31)) &&& ni 127) / 101 * 101 = _
    have := l127 (cx L xs 1 >>> (20 &&& 31))
    rw [b127]
    exact ni_mod (b := 101) (by omega) (by omega))) ?_
  refine bindS c2 ?_
  refine bindS (w := ni (PV (cx L xs) 11)) (congrArg some (b63 (cx L xs 2))) ?_
  refine bindS c2 ?_
  refine bindS (w := ni (PV (cx L xs) 12)) (congrArg some (by
    show (1 : Int32) + ((cx L xs 2 >>> (6 &&& 31)) &&& ni 7) = _
    rw [b7]
    exact ni_add 1 _)) ?_
  refine bindS c2 ?_
  refine bindS (w := ni (PV (cx L xs) 13)) (congrArg some (b31 (cx L xs 2 >>> (9 &&& 31)))) ?_
  refine bindS c2 ?_
  refine bindS (w := ni (PV (cx L xs) 14)) (congrArg some (b7 (cx L xs 2 >>> (14 &&& 31)))) ?_
  refine bindS c2 ?_
  refine bindS (w := ni (PV (cx L xs) 15)) (congrArg some (b255' (cx L xs 2 >>> (17 &&& 31)))) ?_
  refine bindS c2 ?_
  have dec : ∀ q : Prop, ∀ d : Decidable q, ((@ite (Option Int32) q d (some 1) (some 0)) = some (if (@decide q d) = true then 1 else 0)) := fun q d => by
    by_cases z : q
    · rw [if_pos z, if_pos (decide_eq_true z)]
    · rw [if_neg z, if_neg (by rw [decide_eq_false z]; decide)]
  refine bindS (dec _ _) ?_
  refine bindS c2 ?_
  refine bindS (dec _ _) ?_
  generalize hle : decide ((cx L xs 2 >>> (25 &&& 31)) &&& (1 : Int32) = 1) = le
  generalize hti : decide ((cx L xs 2 >>> (26 &&& 31)) &&& (1 : Int32) = 1) = ti
  have lp : LPP (PV (cx L xs)) le ti (ni (PV (cx L xs) 2)) (ni (PV (cx L xs) 3)) (ni (PV (cx L xs) 4)) (ni (PV (cx L xs) 5)) (ni (PV (cx L xs) 6)) (ni (PV (cx L xs) 7)) (ni (PV (cx L xs) 8)) (ni (PV (cx L xs) 9)) (ni (PV (cx L xs) 10)) (ni (PV (cx L xs) 11)) (ni (PV (cx L xs) 12)) (ni (PV (cx L xs) 13)) (ni (PV (cx L xs) 14)) (ni (PV (cx L xs) 15)) (if le = true then 1 else 0) (if ti = true then 1 else 0) :=
    ⟨pv_le _, (pv_pb _).2.2.2.2.2.2.2.2.2.2.1.1, ⟨rfl, rfl, rfl, rfl, rfl, rfl, rfl, rfl, rfl, rfl, rfl, rfl, rfl, rfl⟩, rfl, rfl⟩
  refine z_233 (K := 7000) (by omega) (h0 := h) (n0 := 159) (by omega) (by omega) cn (pv_pb _) lp (fun g m s vs t q1 q2 q3 q4 q5 q6 q7 => ?_)
  rw [big_eq] at t q6
  exact z_434 (by omega) hL b0 (pv_pb _) lp t q3 q4 q1 (by omega) (by omega) q6 q7
end LAWY

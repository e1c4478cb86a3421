/-! ===== the class's specs as the law's own book has them ===== -/
section BOOKB
variable {H : mm_H} {x : Nat → Int32} {M s0 t : Nat} {P : Nat → Nat} {le ti : Bool}
theorem RGp.wk (R : RGp H x M s0 t) : (fI H 56 4).toNatClampNeg = M := by
  obtain ⟨-, -, -, -, -, k, -, -, m3, -⟩ := R
  rw [k.1, ni_tn (by omega)]
theorem dD_or (x : Nat → Int32) (e : Int32) (m w : Nat) : (dD x e m w = e ∧ ∀ e', dD x e' m w = e') ∨ ∃ d, d ≤ 511 ∧ ∀ e', dD x e' m w = ni d := by
  by_cases q : w < m ∧ dnB x w = true
  · exact Or.inr ⟨wyN x w, wy_le x w, fun e' => if_pos q⟩
  · exact Or.inl ⟨if_neg q, fun e' => if_neg q⟩
/-- a work is late: as the law says it -/
theorem lt_eq (R : RGp H x M s0 t) {y w : Nat} (hy : y < 5) (hw : w < M) : ltB H 0 y w = true ↔ ¬ ni y ≤ ni (wdN x w) ∧ ni (100 * y) ≤ dD x 9999 M w := by
  obtain ⟨-, -, -, -, -, k, -⟩ := R
  obtain ⟨k1, k2, k3, k4⟩ := k.2 w hw
  have h4 := wd_le x w
  unfold ltB
  rw [k1, k3, k4]
  have a1 : (ni (wdN x w) < ni y) ↔ ¬ ni y ≤ ni (wdN x w) := Int32.not_le.symm
  rcases dD_or x (-1) M w with ⟨e1, e2⟩ | ⟨d, hd, e⟩
  · have a2 : ni (100 * y) ≤ 9999 := (ni_le (b := 9999) (by omega) (by omega)).mpr (by omega)
    rw [e1, e2 9999, Bool.and_eq_true, Bool.and_eq_true, decide_eq_true_eq, decide_eq_true_eq, Bool.or_eq_true, decide_eq_true_eq]
    exact ⟨fun q => ⟨a1.mp q.2.1, a2⟩, fun q => ⟨rfl, a1.mpr q.1, Or.inl rfl⟩⟩
  · have a2 : ¬ ni d = -1 := ni_n1 (by omega)
    have a3 : ni (100 * y) ≤ ni d ↔ ¬ ni d < ni (100 * y) := Int32.not_lt.symm
    rw [e (-1), e 9999, Bool.and_eq_true, Bool.and_eq_true, decide_eq_true_eq, decide_eq_true_eq, Bool.or_eq_true, decide_eq_true_eq, Bool.not_eq_true', decide_eq_false_iff_not]
    exact ⟨fun q => ⟨a1.mp q.2.1, a3.mpr (q.2.2.resolve_left a2)⟩, fun q => ⟨rfl, a1.mpr q.1, Or.inr (a3.mp q.2)⟩⟩
theorem cd_eq (R : RGp H x M s0 t) {y w : Nat} (hy : y < 5) (hw : w < M) : cdB H 0 y w = true ↔ dD x 9999 M w / 100 = ni y := by
  obtain ⟨-, -, -, -, -, k, -⟩ := R
  obtain ⟨k1, k2, k3, k4⟩ := k.2 w hw
  unfold cdB
  rw [k1, k4]
  rcases dD_or x (-1) M w with ⟨e1, e2⟩ | ⟨d, hd, e⟩
  · rw [e1, e2 9999]
    have a2 : ¬ (9999 : Int32) / 100 = ni y := fun q => by
      have := (ni_inj (a := 99) (by omega) (by omega)).mp (show ni 99 = ni y from q)
      omega
    rw [Bool.and_eq_true, Bool.and_eq_true, Bool.not_eq_true', decide_eq_false_iff_not]
    exact ⟨fun q => absurd rfl q.2.1, fun q => absurd q a2⟩
  · have a2 : ¬ ni d = -1 := ni_n1 (by omega)
    rw [e (-1), e 9999, Bool.and_eq_true, Bool.and_eq_true, Bool.not_eq_true', decide_eq_false_iff_not, decide_eq_true_eq, decide_eq_true_eq]
    exact ⟨fun q => q.2.2, fun q => ⟨rfl, a2, q⟩⟩
/-- taken back: what is left, from the front -/
def tT (c : Int64) (bk : Nat → Int64) (y0 : Nat) (l : Int64) : Nat → Int64
  | 0 => l
  | k + 1 => tT c bk y0 l k - j_min (tT c bk y0 l k) (c * bk (y0 + k) / 100)
theorem tT_s (c : Int64) (bk : Nat → Int64) : ∀ (k y0 : Nat) (l : Int64), tT c bk (y0 + 1) (l - j_min l (c * bk y0 / 100)) k = tT c bk y0 l (k + 1) := by
  intro k
  induction k with
  | zero => intro y0 l; rfl
  | succ k ih =>
    intro y0 l
    show tT c bk (y0 + 1) _ k - j_min (tT c bk (y0 + 1) _ k) (c * bk (y0 + 1 + k) / 100) = tT c bk y0 l (k + 1) - j_min (tT c bk y0 l (k + 1)) (c * bk (y0 + (k + 1)) / 100)
    rw [ih, show y0 + 1 + k = y0 + (k + 1) by omega]
theorem tbO_T (c : Int64) (bk : Nat → Int64) : ∀ (m y0 : Nat) (l b : Int64), tbO c bk (m + 1) y0 l b = j_min (tT c bk y0 l m) (c * bk (y0 + m) / 100) := by
  intro m
  induction m with
  | zero => intro y0 l b; rfl
  | succ m ih =>
    intro y0 l b
    show tbO c bk (m + 1) (y0 + 1) (l - j_min l (c * bk y0 / 100)) (j_min l (c * bk y0 / 100)) = _
    rw [ih, tT_s, show y0 + 1 + m = y0 + (m + 1) by omega]
/-- what is left of a work's coins as a year begins -/
def rmL (H : mm_H) (Ls : Nat → List Stm) (w : Nat) : Nat → Int64
  | 0 => (iA H 58 w).toInt64
  | y + 1 => if ltB H 0 y w = true then rmL H Ls w y - j_min (rmL H Ls w y) ((iA H 58 w).toInt64 * bkS H 0 Ls y / 100) else rmL H Ls w y
theorem tbW_eq (R : RGp H x M s0 t) {Ls : Nat → List Stm} {y w : Nat} (hy : y < 5) (hw : w < M) (lt : ltB H 0 y w = true) : tbW H 0 Ls y w = j_min (rmL H Ls w y) ((iA H 58 w).toInt64 * bkS H 0 Ls y / 100) := by
  have k3 := (R.2.2.2.2.2.1.2 w hw).2.2.1
  have h4 := wd_le x w
  obtain ⟨l1, l2⟩ := (lt_eq R hy hw).mp lt
  have l3 : wdN x w < y := Nat.lt_of_not_le (fun q => l1 ((ni_le (by omega) (by omega)).mpr q))
  have t1 : ∀ y', y' ≤ wdN x w + 1 → rmL H Ls w y' = (iA H 58 w).toInt64 := by
    intro y'
    induction y' with
    | zero => intro _; rfl
    | succ y' ih =>
      intro h
      show (if ltB H 0 y' w = true then _ else rmL H Ls w y') = _
      rw [if_neg, ih (by omega)]
      intro q
      exact ((lt_eq R (by omega) hw).mp q).1 ((ni_le (by omega) (by omega)).mpr (by omega))
  have t2 : ∀ k, wdN x w + 1 + k ≤ y → rmL H Ls w (wdN x w + 1 + k) = tT (iA H 58 w).toInt64 (bkS H 0 Ls) (wdN x w + 1) (iA H 58 w).toInt64 k := by
    intro k
    induction k with
    | zero => intro _; exact t1 _ (Nat.le_refl _)
    | succ k ih =>
      intro h
      show (if ltB H 0 (wdN x w + 1 + k) w = true then rmL H Ls w (wdN x w + 1 + k) - j_min (rmL H Ls w (wdN x w + 1 + k)) ((iA H 58 w).toInt64 * bkS H 0 Ls (wdN x w + 1 + k) / 100) else rmL H Ls w (wdN x w + 1 + k)) = _
      have lt' : ltB H 0 (wdN x w + 1 + k) w = true := by
        refine (lt_eq R (by omega) hw).mpr ⟨fun q => by have := (ni_le (by omega) (by omega)).mp q; omega, Int32.le_trans ((ni_le (by omega) (by omega)).mpr (by omega)) l2⟩
      rw [if_pos lt', ih (by omega)]
      rfl
  unfold tbW
  rw [k3, ni_tn (by omega)]
  obtain ⟨m, hm⟩ : ∃ m, y - wdN x w = m + 1 := ⟨y - wdN x w - 1, by omega⟩
  rw [hm, tbO_T, show wdN x w + 1 + m = y by omega, ← t2 m (by omega), show wdN x w + 1 + m = y by omega]
theorem bk_eq {y : Nat} (hy : y < 5) : bkS H 0 (LL P le ti) y = if y ≤ 3 then (ni (P 5)).toInt64 else 0 := by
  unfold bkS
  rw [num_6]
  have e : wwS H 0 (LL P le ti) y 0 = (ni y).toInt64 := rfl
  rw [e]
  have h1 : (ni 3).toInt64 < (ni y).toInt64 ↔ 3 < y := by
    rw [ni_nj (by omega), ni_nj (by omega), Int64.lt_iff_toInt_lt, nj_int (by omega), nj_int (by omega)]
    omega
  by_cases q : y ≤ 3
  · rw [if_pos q, if_neg (fun z => by have := h1.mp z; omega)]
  · rw [if_neg q, if_pos (h1.mpr (by omega))]
    rfl
theorem lg_eq (R : RGp H x M s0 t) {y : Nat} (hy : y < 5) : lgS H (ni 0) (ni y) (ni t) (fI H 67 5).toNatClampNeg = (ni (lgN x y 2)).toInt64 := by
  obtain ⟨-, -, -, -, -, -, k, t9, -⟩ := R
  rw [k.1, ni_tn (by omega)]
  have key : ∀ m, m ≤ 2 → lgS H (ni 0) (ni y) (ni t) m = nj (lgN x y m) ∧ lgN x y m ≤ 1024 * m := by
    intro m
    induction m with
    | zero => intro _; exact ⟨rfl, Nat.le_refl _⟩
    | succ m ih =>
      intro hm
      obtain ⟨i1, i2⟩ := ih (by omega)
      obtain ⟨k1, k2, k3, k4⟩ := k.2 m (by omega)
      have hl := ly_le x m
      have hv := lv_le x m
      show (if iA H 68 m = ni 0 ∧ iA H 70 m = ni y ∧ ¬ ni t < iA H 72 m then _ else _) = nj (if lyN x m = y then _ else _) ∧ (if lyN x m = y then _ else _) ≤ _
      have n0 : ¬ ni t < 0 := ni_pos (by omega)
      rw [k1, k2, k3, k4, i1]
      by_cases q : lyN x m = y
      · rw [if_pos ⟨rfl, congrArg ni q, n0⟩, if_pos q, ni_nj (by omega), nj_add]
        exact ⟨rfl, by omega⟩
      · rw [if_neg (fun z => q ((ni_inj (by omega) (by omega)).mp z.2.1)), if_neg q]
        exact ⟨rfl, by omega⟩
  obtain ⟨e1, e2⟩ := key 2 (by omega)
  rw [e1, ni_nj (by omega)]
/-- each line -/
theorem ln_0 (R : RGp H x M s0 t) {y : Nat} (hy : y < 5) (d : Int32) : lnS H 2 0 (LL P le ti) d y 0 = (ni (tvN x y)).toInt64 * (ni (P 8)).toInt64 / 100 := by
  unfold lnS
  rw [if_pos (by decide)]
  exact al_0 R hy d
theorem ln_13 (R : RGp H x M s0 t) {y k : Nat} (h0 : k ≠ 0) (h3 : k ≤ 3) (d : Int32) : lnS H 2 0 (LL P le ti) d y k = 0 := by
  unfold lnS
  rw [if_pos (by omega)]
  exact al_n R h0 d
theorem ln_4 {y : Nat} (d : Int32) : lnS H 2 0 (LL P le ti) d y 4 = wrS H 0 (LL P le ti) y * (ni (P 2)).toInt64 / 1000 := by
  unfold lnS
  rw [if_neg (by decide), if_pos rfl, num_3]
theorem ln_5 (R : RGp H x M s0 t) {y : Nat} (d : Int32) : lnS H 2 0 (LL P le ti) d y 5 = duS H 0 y M := by
  unfold lnS
  rw [if_neg (by decide), if_neg (by decide), if_pos rfl, R.wk]
theorem ln_6 (R : RGp H x M s0 t) {y : Nat} (d : Int32) : lnS H 2 0 (LL P le ti) d y 6 = -(tbS H 0 (LL P le ti) y M) := by
  unfold lnS
  rw [if_neg (by decide), if_neg (by decide), if_neg (by decide), if_pos rfl, R.wk]
theorem ln_14 (R : RGp H x M s0 t) {y : Nat} (hy : y < 5) : lnS H 2 0 (LL P le ti) (ni t) y 14 = if (ni (lgN x y 2)).toInt64 < (ni (tvN x y)).toInt64 * (ni (P 8)).toInt64 / 100 * (ni (P 7)).toInt64 / 100 then 0 else (ni (lgN x y 2)).toInt64 := by
  unfold lnS
  rw [if_neg (by decide), if_neg (by decide), if_neg (by decide), if_neg (by decide), if_pos rfl]
  unfold lgV
  have s4 : smS H 2 0 (LL P le ti) (ni t) y 4 = (ni (tvN x y)).toInt64 * (ni (P 8)).toInt64 / 100 := by
    show (((0 + alS H 2 0 (LL P le ti) (ni t) y 0) + alS H 2 0 (LL P le ti) (ni t) y 1) + alS H 2 0 (LL P le ti) (ni t) y 2) + alS H 2 0 (LL P le ti) (ni t) y 3 = _
    rw [al_n R (hd := 1) (by decide), al_n R (hd := 2) (by decide), al_n R (hd := 3) (by decide), al_0 R hy, Int64.zero_add, Int64.add_zero, Int64.add_zero, Int64.add_zero]
  rw [lg_eq R hy, s4, num_8]
theorem ln_0s {y k : Nat} (h : (7 ≤ k ∧ k ≤ 13 ∧ k ≠ 8 ∧ k ≠ 10)) (hy : y < 5) (R : RGp H x M s0 t) : lnS H 2 0 (LL P le ti) (ni t) y k = 0 := by
  unfold lnS
  rw [if_neg (by omega), if_neg (by omega), if_neg (by omega), if_neg (by omega), if_neg (by omega)]
  by_cases y0 : y = 0
  · rw [if_pos y0]
  · rw [if_neg y0]
    have t9 := R.2.2.2.2.2.2.2.1
    by_cases q : k < 10
    · rw [if_pos q]
      exact ea_n _ (by omega) _
    · rw [if_neg q]
      exact sh_n R _ (by omega) (by omega) (by omega) (by omega)
theorem ln_8s {y : Nat} (hy : y < 5) (R : RGp H x M s0 t) : lnS H 2 0 (LL P le ti) (ni t) (y + 1) 8 = if ovI x y = -1 then 0 else erS ((2, 1, if le = true then 1 else 0), (P 11, P 12, P 13, P 14, P 15), []) (ovI x y).toInt64 := by
  have t9 := R.2.2.2.2.2.2.2.1
  unfold lnS
  rw [if_neg (by omega), if_neg (by omega), if_neg (by omega), if_neg (by omega), if_neg (by omega), if_neg (by omega), if_pos (by omega)]
  exact ea_1 R _ hy (by omega)
theorem ln_10s {y : Nat} (hy : y < 5) (R : RGp H x M s0 t) : lnS H 2 0 (LL P le ti) (ni t) (y + 1) 10 = if cvI x y = -1 then 0 else ((cvI x y).toInt64 - (ni (tvN x y)).toInt64 * (ni (P 8)).toInt64 / 100) - brS ((1, 0, 0), (P 9, P 10, 0, 0, 0), []) ((cvI x y).toInt64 - (ni (tvN x y)).toInt64 * (ni (P 8)).toInt64 / 100) := by
  have t9 := R.2.2.2.2.2.2.2.1
  unfold lnS
  rw [if_neg (by omega), if_neg (by omega), if_neg (by omega), if_neg (by omega), if_neg (by omega), if_neg (by omega), if_neg (by omega)]
  exact sh_0 R hy (by omega)
theorem ln_80 (d : Int32) : lnS H 2 0 (LL P le ti) d 0 8 = 0 ∧ lnS H 2 0 (LL P le ti) d 0 10 = 0 := by
  unfold lnS
  exact ⟨rfl, rfl⟩
theorem rv_eq (R : RGp H x M s0 t) {y : Nat} (hy : y < 5) : rvS H 2 0 (LL P le ti) (ni t) y 15 = (((((lnS H 2 0 (LL P le ti) (ni t) y 0 + lnS H 2 0 (LL P le ti) (ni t) y 4) + duS H 0 y M) - tbS H 0 (LL P le ti) y M) + lnS H 2 0 (LL P le ti) (ni t) y 8) + lnS H 2 0 (LL P le ti) (ni t) y 10) + lnS H 2 0 (LL P le ti) (ni t) y 14 := by
  show ((((((((((((((0 + lnS H 2 0 (LL P le ti) (ni t) y 0) + lnS H 2 0 (LL P le ti) (ni t) y 1) + lnS H 2 0 (LL P le ti) (ni t) y 2) + lnS H 2 0 (LL P le ti) (ni t) y 3) + lnS H 2 0 (LL P le ti) (ni t) y 4) + lnS H 2 0 (LL P le ti) (ni t) y 5) + lnS H 2 0 (LL P le ti) (ni t) y 6) + lnS H 2 0 (LL P le ti) (ni t) y 7) + lnS H 2 0 (LL P le ti) (ni t) y 8) + lnS H 2 0 (LL P le ti) (ni t) y 9) + lnS H 2 0 (LL P le ti) (ni t) y 10) + lnS H 2 0 (LL P le ti) (ni t) y 11) + lnS H 2 0 (LL P le ti) (ni t) y 12) + lnS H 2 0 (LL P le ti) (ni t) y 13) + lnS H 2 0 (LL P le ti) (ni t) y 14 = _
  rw [ln_13 R (k := 1) (by omega) (by omega), ln_13 R (k := 2) (by omega) (by omega), ln_13 R (k := 3) (by omega) (by omega), ln_5 R, ln_6 R, ln_0s (k := 7) (by omega) hy R, ln_0s (k := 9) (by omega) hy R, ln_0s (k := 11) (by omega) hy R, ln_0s (k := 12) (by omega) hy R, ln_0s (k := 13) (by omega) hy R]
  simp only [Int64.zero_add, Int64.add_zero, Int64.sub_eq_add_neg]
/-- the next year's worth -/
theorem wr_s (R : RGp H x M s0 t) {y : Nat} : wrS H 0 (LL P le ti) (y + 1) = wrS H 0 (LL P le ti) y * (ni (P 3)).toInt64 / 100 - wrS H 0 (LL P le ti) y * (ni (P 4)).toInt64 / 100 + cdS H 0 y M := by
  show _ * (numS _ _ 4 100).toInt64 / 100 - _ * (numS _ _ 5 0).toInt64 / 100 + _ = _
  rw [num_4, num_5, R.wk]
theorem hm_eq (R : RGp H x M s0 t) {y k : Nat} (hy : y < 5) (hk : k < 3) {d : Nat} (hd : d < 2147483648) : hmP H 0 y (ni d) k = ni (hvN x y k) := by
  unfold hmP
  rw [R.kn hy (by omega) hd]
  unfold KC
  rw [if_neg (by omega), if_neg (by omega), if_neg (by omega), if_pos (by omega), show 11 + k - 11 = k by omega]
  have b : hvN x y k ≤ 255 := (bt_ok _ (M := 255) (by omega)).2
  unfold mx0
  by_cases q : hvN x y k = 0
  · rw [if_pos q, q]; rfl
  · rw [if_neg q, if_neg (ni_n1 (by omega))]
theorem ap_eq (R : RGp H x M s0 t) {y : Nat} (hy : y < 5) {d : Nat} (hd : d < 2147483648) : apS H 0 y (ni d) 3 = ((ni (hvN x y 0)).toInt64 * 2 + (ni (hvN x y 1)).toInt64 * 3) + (ni (hvN x y 2)).toInt64 * 5 := by
  show ((0 + (ptI 0).toInt64 * (hmP H 0 y (ni d) 0).toInt64) + (ptI 1).toInt64 * (hmP H 0 y (ni d) 1).toInt64) + (ptI 2).toInt64 * (hmP H 0 y (ni d) 2).toInt64 = _
  rw [hm_eq R hy (by omega) hd, hm_eq R hy (by omega) hd, hm_eq R hy (by omega) hd]
  rw [Int64.zero_add, Int64.mul_comm (ptI 0).toInt64, Int64.mul_comm (ptI 1).toInt64, Int64.mul_comm (ptI 2).toInt64]
  rfl
end BOOKB

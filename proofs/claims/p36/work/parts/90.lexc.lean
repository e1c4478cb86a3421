/-! ===== the class reads tokens ===== -/
section LEXC
variable {K n : Nat} {h : mm_H} {b : Nat → Nat} {N : Nat}
/-- the texts that the class knows its words by -/
def txN (i : Nat) : List Nat := ((mm_tx.getD i (0, "")).2.toList).map Char.toNat
def TXT (h : mm_H) : Prop := ∀ i, i < 15 → h (18 + i) = .inl (.byte, (txN i).length, .inl (fun j => ni ((txN i).getD j 0)))
/-- the text that is read -/
def TX (b : Nat → Nat) (N : Nat) (h : mm_H) : Prop := fR h 151 0 = some 155 ∧ fI h 151 1 = ni N ∧ N ≤ 900 ∧ ∀ k, k < N → iA h 155 k = ni (b k) ∧ b k < 256
/-- what reading tokens keeps -/
def LF (h g : mm_H) : Prop := PS g ∧ (∀ a, a ≠ 151 → g a = h a) ∧ ∀ k, k < 2 ∨ 5 < k → fI g 151 k = fI h 151 k ∧ fR g 151 k = fR h 151 k
theorem LF.id_ (c : PS h) : LF h h := ⟨c, fun _ _ => rfl, fun _ _ => ⟨rfl, rfl⟩⟩
theorem LF.trans {g f : mm_H} (x : LF h g) (y : LF g f) : LF h f := ⟨y.1, fun a q => (y.2.1 a q).trans (x.2.1 a q), fun k q => ⟨(y.2.2 k q).1.trans (x.2.2 k q).1, (y.2.2 k q).2.trans (x.2.2 k q).2⟩⟩
theorem LF.put (c : PS h) {k : Nat} (hk : 2 ≤ k ∧ k ≤ 5) {x : Int32} (p : PS (mm_sf h 151 k (.int x))) : LF h (mm_sf h 151 k (.int x)) := ⟨p, fun a q => mm_sf_n q, fun j q => ⟨fI_sf_o (by omega) _, fR_sf_o (by omega) _⟩⟩
theorem TX.lf {g : mm_H} (t : TX b N h) (l : LF h g) : TX b N g := by
  obtain ⟨t1, t2, t3, t4⟩ := t
  exact ⟨(l.2.2 0 (by omega)).2.trans t1, (l.2.2 1 (by omega)).1.trans t2, t3, fun k hk => by rw [iA_c (l.2.1 155 (by decide))]; exact t4 k hk⟩
/-- the state of the tokens -/
def Tk (b : Nat → Nat) (N : Nat) (h : mm_H) : RSt → Prop
  | .inr s => s ≤ N ∧ fI h 151 2 = ni (tkk b N s) ∧ fI h 151 3 = ni s ∧ fI h 151 4 = ni (tee b N s) ∧ fI h 151 5 = -1
  | .inl p => p ≤ N ∧ fI h 151 2 = 5 ∧ fI h 151 5 = ni p
theorem z_byteAt (c : PS h) (hn : 159 ≤ n) (t : TX b N h) {p : Nat} (hp : p < N) : q_X3_byteAt K h n 151 (ni p) = some (ni (b p)) := by
  obtain ⟨t1, t2, t3, t4⟩ := t
  have i9 : inb (ni p) 900 = true := ni_inb (by omega) (by omega)
  have tp : (ni p).toNatClampNeg = p := ni_tn (by omega)
  unfold q_X3_byteAt
  rw [if_neg (ni_pos (by omega)), g_151_1 c hn, t2, Option.bind_some, if_neg (fun q => by have := (ni_le (by omega) (by omega)).mp q; omega)]
  simp only [g_151_0 c hn, t1, Option.bind_some, gl_155 c hn]
  rw [if_neg (show ¬ (900 : Int32) ≤ ni p from fun q => by have := (ni_le (a := 900) (by omega) (by omega)).mp q; omega), ge_155 c hn, if_pos i9, tp, (t4 p hp).1]
  rfl
def kdI (x : Int32) : Option Int32 := q_X3_kindOf 0 (fun _ => .inr (0, [])) 0 x
theorem kdI_all : ∀ v, v < 256 → kdI (ni v) = some (ni (kd v)) := by decide +kernel
theorem z_kindOf {v : Nat} (hv : v < 256) : q_X3_kindOf K h n (ni v) = some (ni (kd v)) := kdI_all v hv
theorem kd_le (v : Nat) : 1 ≤ kd v ∧ kd v ≤ 5 := by
  unfold kd
  split
  · omega
  · split
    · omega
    · split
      · omega
      · split <;> omega
theorem kd_ni {v k : Nat} (hk : k < 100) : (ni (kd v) = ni k) = (kd v = k) := propext (ni_inj (by have := kd_le v; omega) (by omega))
theorem z_st17 (hn : 159 ≤ n) : ∀ (m p k : Nat) (h : mm_H), N - p = m → m < k → PS h → TX b N h → p ≤ N → fI h 151 3 = ni p → ∃ g, lp_X3_step_17 K n 151 k h = some g ∧ LF h g ∧ fI g 151 3 = ni (sk b N p) ∧ ∀ k, k ≠ 3 → fI g 151 k = fI h 151 k := by
  intro m
  induction m with
  | zero =>
    intro p k h hm hk c t hp e3
    obtain ⟨k, rfl⟩ : ∃ x, k = x + 1 := ⟨k - 1, by omega⟩
    obtain ⟨-, t2, t3, -⟩ := id t
    unfold lp_X3_step_17
    rw [g_151_3 c hn, e3, Option.bind_some, g_151_1 c hn, t2, Option.bind_some, if_pos ((ni_le (by omega) (by omega)).mpr (by omega))]
    refine ⟨h, rfl, LF.id_ c, ?_, fun _ _ => rfl⟩
    show _ = ni (rn b N 4 p)
    rw [rn_eq, if_neg (fun q => by omega)]
    exact e3
  | succ m ih =>
    intro p k h hm hk c t hp e3
    obtain ⟨k, rfl⟩ : ∃ x, k = x + 1 := ⟨k - 1, by omega⟩
    obtain ⟨-, t2, t3, t4⟩ := id t
    have er := rn_eq (b := b) (N := N) 4 p
    unfold lp_X3_step_17
    rw [g_151_3 c hn, e3, Option.bind_some, g_151_1 c hn, t2, Option.bind_some, if_neg (fun q => by have := (ni_le (by omega) (by omega)).mp q; omega)]
    simp only [Option.bind_some, gq_151 c hn, z_byteAt (K := K) c hn t (show p < N by omega), z_kindOf (K := K) (h := h) (n := n) (t4 p (by omega)).2, ni_1]
    have e4 : (ni (kd (b p)) = 4) = (kd (b p) = 4) := kd_ni (k := 4) (by omega)
    by_cases q : kd (b p) = 4
    · rw [if_pos ⟨by omega, q⟩] at er
      rw [if_pos (e4.mpr q), p_151_3 c hn, Option.bind_some]
      have c1 : PS (mm_sf h 151 3 (.int (ni (p + 1)))) := ps_151_3 c _
      have l1 : LF h (mm_sf h 151 3 (.int (ni (p + 1)))) := LF.put c (by omega) c1
      obtain ⟨g, q1, q2, q3, q4⟩ := ih (p + 1) k _ (by omega) (by omega) c1 (t.lf l1) (by omega) (fs_151_3 c _)
      refine ⟨g, q1, l1.trans q2, ?_, fun j hj => (q4 j hj).trans (fI_sf_o hj _)⟩
      show _ = ni (rn b N 4 p)
      rw [er]
      exact q3
    · rw [if_neg (fun z => q z.2)] at er
      rw [if_neg (fun z => q (e4.mp z))]
      refine ⟨h, rfl, LF.id_ c, ?_, fun _ _ => rfl⟩
      show _ = ni (rn b N 4 p)
      rw [er]
      exact e3
theorem z_st112 (hn : 159 ≤ n) {kk : Nat} (hkk : kk ≤ 5) : ∀ (m p k : Nat) (h : mm_H), N - p = m → m < k → PS h → TX b N h → p ≤ N → fI h 151 4 = ni p → fI h 151 2 = ni kk → ∃ g, lp_X3_step_112 K n 151 k h = some g ∧ LF h g ∧ fI g 151 4 = ni (if kk = 1 ∨ kk = 2 then rn b N kk p else p) ∧ ∀ k, k ≠ 4 → fI g 151 k = fI h 151 k := by
  have k1 : (ni kk = 1) = (kk = 1) := propext (ni_inj (b := 1) (by omega) (by omega))
  have k2 : (ni kk = 2) = (kk = 2) := propext (ni_inj (b := 2) (by omega) (by omega))
  intro m
  induction m with
  | zero =>
    intro p k h hm hk c t hp e4 e2
    obtain ⟨k, rfl⟩ : ∃ x, k = x + 1 := ⟨k - 1, by omega⟩
    obtain ⟨-, t2, t3, -⟩ := id t
    unfold lp_X3_step_112
    rw [g_151_4 c hn, e4, Option.bind_some, g_151_1 c hn, t2, Option.bind_some, if_pos ((ni_le (by omega) (by omega)).mpr (by omega))]
    refine ⟨h, rfl, LF.id_ c, ?_, fun _ _ => rfl⟩
    have er := rn_eq (b := b) (N := N) kk p
    rw [if_neg (fun q => by omega)] at er
    rw [er, ite_self]
    exact e4
  | succ m ih =>
    intro p k h hm hk c t hp e4 e2
    obtain ⟨k, rfl⟩ : ∃ x, k = x + 1 := ⟨k - 1, by omega⟩
    obtain ⟨-, t2, t3, t4⟩ := id t
    have er := rn_eq (b := b) (N := N) kk p
    unfold lp_X3_step_112
    rw [g_151_4 c hn, e4, Option.bind_some, g_151_1 c hn, t2, Option.bind_some, if_neg (fun q => by have := (ni_le (by omega) (by omega)).mp q; omega)]
    have ek : (ni (kd (b p)) = ni kk) = (kd (b p) = kk) := kd_ni (by omega)
    simp only [g_151_2 c hn, e2, Option.bind_some, gq_151 c hn, z_byteAt (K := K) c hn t (show p < N by omega), z_kindOf (K := K) (h := h) (n := n) (t4 p (by omega)).2, ni_1, k1, k2, ek, p_151_4 c hn]
    have c1 : PS (mm_sf h 151 4 (.int (ni (p + 1)))) := ps_151_4 c _
    have l1 : LF h (mm_sf h 151 4 (.int (ni (p + 1)))) := LF.put c (by omega) c1
    by_cases q : kd (b p) = kk
    · rw [if_pos ⟨by omega, q⟩] at er
      obtain ⟨g, q1, q2, q3, q4⟩ := ih (p + 1) k _ (by omega) (by omega) c1 (t.lf l1) (by omega) (fs_151_4 c _) ((fI_sf_o (by decide) _).trans e2)
      by_cases z1 : kk = 1
      · rw [if_pos z1, if_pos q]
        rw [if_pos (Or.inl z1)] at q3
        refine ⟨g, q1, l1.trans q2, ?_, fun j hj => (q4 j hj).trans (fI_sf_o hj _)⟩
        rw [if_pos (Or.inl z1), er]
        exact q3
      · rw [if_neg z1]
        by_cases z2 : kk = 2
        · rw [if_pos z2, if_pos q]
          rw [if_pos (Or.inr z2)] at q3
          refine ⟨g, q1, l1.trans q2, ?_, fun j hj => (q4 j hj).trans (fI_sf_o hj _)⟩
          rw [if_pos (Or.inr z2), er]
          exact q3
        · rw [if_neg z2]
          refine ⟨h, rfl, LF.id_ c, ?_, fun _ _ => rfl⟩
          rw [if_neg (by omega)]
          exact e4
    · rw [if_neg (fun z => q z.2)] at er
      have fin : fI h 151 4 = ni (if kk = 1 ∨ kk = 2 then rn b N kk p else p) := by
        rw [er, ite_self]
        exact e4
      by_cases z1 : kk = 1
      · rw [if_pos z1, if_neg q]
        exact ⟨h, rfl, LF.id_ c, fin, fun _ _ => rfl⟩
      · rw [if_neg z1]
        by_cases z2 : kk = 2
        · rw [if_pos z2, if_neg q]
          exact ⟨h, rfl, LF.id_ c, fin, fun _ _ => rfl⟩
        · rw [if_neg z2]
          exact ⟨h, rfl, LF.id_ c, fin, fun _ _ => rfl⟩
/-- the next token is read -/
theorem z_step0 (hK : 3000 ≤ K) (c : PS h) (hn : 159 ≤ n) (t : TX b N h) {e : Nat} (he : e ≤ N) (e4 : fI h 151 4 = ni e) (e5 : fI h 151 5 = -1) : ∃ g, q_X3_step K h n 151 = some g ∧ LF h g ∧ Tk b N g (.inr (sk b N e)) := by
  obtain ⟨-, t2, t3, t4⟩ := id t
  have c1 : PS (mm_sf h 151 3 (.int (ni e))) := ps_151_3 c _
  have l1 : LF h (mm_sf h 151 3 (.int (ni e))) := LF.put c (by omega) c1
  obtain ⟨g2, f2, l2, a3, o2⟩ := z_st17 (K := K) hn _ e K _ rfl (by omega) c1 (t.lf l1) he (fs_151_3 c _)
  have c2 := l2.1
  have c3 : PS (mm_sf g2 151 4 (.int (ni (sk b N e)))) := ps_151_4 c2 _
  have l3 : LF g2 (mm_sf g2 151 4 (.int (ni (sk b N e)))) := LF.put c2 (by omega) c3
  have lh3 := (l1.trans l2).trans l3
  have t3' := t.lf lh3
  have w3 : fI (mm_sf g2 151 4 (.int (ni (sk b N e)))) 151 3 = ni (sk b N e) := (fI_sf_o (by decide) _).trans a3
  have w4 : fI (mm_sf g2 151 4 (.int (ni (sk b N e)))) 151 4 = ni (sk b N e) := fs_151_4 c2 _
  have w5 : fI (mm_sf g2 151 4 (.int (ni (sk b N e)))) 151 5 = -1 := by
    rw [fI_sf_o (by decide), o2 5 (by decide), fI_sf_o (by decide)]
    exact e5
  have w1 := t3'.2.1
  have hs : sk b N e ≤ N := sk_le he
  unfold q_X3_step
  simp only [g_151_5 c hn, e5, Option.bind_some, if_true, g_151_4 c hn, e4, p_151_3 c hn, f2, g_151_3 c2 hn, a3, p_151_4 c2 hn]
  generalize mm_sf g2 151 4 (.int (ni (sk b N e))) = g3 at c3 lh3 t3' w3 w4 w5 w1
  simp only [g_151_3 c3 hn, w3, g_151_1 c3 hn, w1, Option.bind_some]
  by_cases q : N ≤ sk b N e
  · rw [if_pos ((ni_le (by omega) (by omega)).mpr q), p_151_2 c3 hn, Option.bind_some, g_151_2 (ps_151_2 c3 _) hn, fs_151_2 c3]
    simp only [Option.bind_some, if_true]
    refine ⟨_, rfl, lh3.trans (LF.put c3 (by omega) (ps_151_2 c3 _)), hs, ?_, ?_, ?_, ?_⟩
    · rw [fs_151_2 c3]
      unfold tkk
      rw [if_pos q]
      rfl
    · rw [fI_sf_o (by decide), w3]
    · rw [fI_sf_o (by decide), w4]
      unfold tee
      rw [if_pos q]
    · rw [fI_sf_o (by decide), w5]
  · have kne : ¬ ni (kd (b (sk b N e))) = 0 := fun z => by
      have := (kd_ni (v := b (sk b N e)) (k := 0) (by omega)).mp z
      have := kd_le (b (sk b N e))
      omega
    rw [if_neg (fun z => q ((ni_le (by omega) (by omega)).mp z))]
    simp only [gq_151 c3 hn, z_byteAt (K := K) c3 hn t3' (show sk b N e < N by omega), z_kindOf (K := K) (h := g3) (n := n) (t4 (sk b N e) (by omega)).2, Option.bind_some, p_151_2 c3 hn, g_151_2 (ps_151_2 c3 _) hn, fs_151_2 c3, kne, if_false]
    have c4 : PS (mm_sf g3 151 2 (.int (ni (kd (b (sk b N e)))))) := ps_151_2 c3 _
    have l4 : LF g3 (mm_sf g3 151 2 (.int (ni (kd (b (sk b N e)))))) := LF.put c3 (by omega) c4
    have x4 : fI (mm_sf g3 151 2 (.int (ni (kd (b (sk b N e)))))) 151 4 = ni (sk b N e) := (fI_sf_o (by decide) _).trans w4
    have x2 : fI (mm_sf g3 151 2 (.int (ni (kd (b (sk b N e)))))) 151 2 = ni (kd (b (sk b N e))) := fs_151_2 c3 _
    have x3 : fI (mm_sf g3 151 2 (.int (ni (kd (b (sk b N e)))))) 151 3 = ni (sk b N e) := (fI_sf_o (by decide) _).trans w3
    have x5 : fI (mm_sf g3 151 2 (.int (ni (kd (b (sk b N e)))))) 151 5 = -1 := (fI_sf_o (by decide) _).trans w5
    generalize mm_sf g3 151 2 (.int (ni (kd (b (sk b N e))))) = g4 at c4 l4 x4 x2 x3 x5
    have c5 : PS (mm_sf g4 151 4 (.int (ni (sk b N e + 1)))) := ps_151_4 c4 _
    have l5 : LF g4 (mm_sf g4 151 4 (.int (ni (sk b N e + 1)))) := LF.put c4 (by omega) c5
    obtain ⟨g6, f6, l6, y4, o6⟩ := z_st112 (K := K) hn (kk := kd (b (sk b N e))) (kd_le _).2 _ (sk b N e + 1) K _ rfl (by omega) c5 ((t3'.lf l4).lf l5) (by omega) (fs_151_4 c4 _) ((fI_sf_o (by decide) _).trans x2)
    simp only [g_151_4 c4 hn, x4, Option.bind_some, ni_1, p_151_4 c4 hn, f6]
    refine ⟨g6, rfl, ((lh3.trans l4).trans l5).trans l6, hs, ?_, ?_, ?_, ?_⟩
    · rw [o6 2 (by decide), fI_sf_o (by decide), x2]
      unfold tkk
      rw [if_neg q]
    · rw [o6 3 (by decide), fI_sf_o (by decide), x3]
    · rw [y4]
      unfold tee
      rw [if_neg q]
    · rw [o6 5 (by decide), fI_sf_o (by decide), x5]
theorem z_step (hK : 3000 ≤ K) (c : PS h) (hn : 159 ≤ n) (t : TX b N h) {σ : RSt} (k : Tk b N h σ) : ∃ g, q_X3_step K h n 151 = some g ∧ LF h g ∧ Tk b N g (stpS b N σ) := by
  cases σ with
  | inr s =>
    obtain ⟨k0, k1, k2, k3, k4⟩ := k
    exact z_step0 hK c hn t (tee_le k0) k3 k4
  | inl p =>
    obtain ⟨k0, k1, k2⟩ := id k
    have t3 := t.2.2.1
    refine ⟨h, ?_, LF.id_ c, k⟩
    unfold q_X3_step
    rw [g_151_5 c hn, k2, Option.bind_some, if_neg (ni_n1 (by omega))]
theorem z_fail (c : PS h) (hn : 159 ≤ n) (t : TX b N h) {σ : RSt} (k : Tk b N h σ) : ∃ g, q_X3_fail K h n 151 = some g ∧ LF h g ∧ Tk b N g (flS σ) := by
  have t3 := t.2.2.1
  cases σ with
  | inr s =>
    obtain ⟨k0, k1, k2, k3, k4⟩ := k
    have c1 : PS (mm_sf h 151 5 (.int (ni s))) := ps_151_5 c _
    unfold q_X3_fail
    simp only [g_151_5 c hn, k4, Option.bind_some, if_true, g_151_3 c hn, k2, p_151_5 c hn, p_151_2 c1 hn]
    refine ⟨_, rfl, (LF.put c (by omega) c1).trans (LF.put c1 (by omega) (ps_151_2 c1 _)), k0, fs_151_2 c1 _, ?_⟩
    rw [fI_sf_o (by decide), fs_151_5 c]
  | inl p =>
    obtain ⟨k0, k1, k2⟩ := id k
    unfold q_X3_fail
    rw [g_151_5 c hn, k2, Option.bind_some, if_neg (ni_n1 (by omega)), p_151_2 c hn]
    refine ⟨_, rfl, LF.put c (by omega) (ps_151_2 c _), k0, fs_151_2 c _, ?_⟩
    rw [fI_sf_o (by decide)]
    exact k2
end LEXC

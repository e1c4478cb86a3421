/-! ===== the class reads a rule ===== -/
section RULEC
variable {K n : Nat} {h : mm_H} {b : Nat → Nat} {N : Nat}
/-- what reading a rule keeps -/
def RF (n : Nat) (h g : mm_H) : Prop := PS g ∧ (∀ a, a < n → a ≠ 151 → a ≠ 153 → a ≠ 154 → g a = h a) ∧ (∀ k, k < 2 ∨ (5 < k ∧ k ≠ 9 ∧ k ≠ 11) → fI g 151 k = fI h 151 k ∧ fR g 151 k = fR h 151 k)
/-- under way: the new Rule lies at n -/
def RB (b : Nat → Nat) (N n : Nat) (h g : mm_H) (σ : RSt) (fs : List Value) : Prop := PS g ∧ (∀ a, a < n → a ≠ 151 → a ≠ 154 → g a = h a) ∧ (∀ k, k < 2 ∨ (5 < k ∧ k ≠ 11) → fI g 151 k = fI h 151 k ∧ fR g 151 k = fR h 151 k) ∧ fI g 151 11 = 0 ∧ g n = .inr (5, fs) ∧ Tk b N g σ
theorem RB.lf {g f : mm_H} {σ σ' : RSt} {fs : List Value} (hn : 159 ≤ n) (r : RB b N n h g σ fs) (l : LF g f) (k : Tk b N f σ') : RB b N n h f σ' fs := by
  obtain ⟨r1, r2, r3, r4, r5, r6⟩ := r
  exact ⟨l.1, fun a h1 h2 h3 => (l.2.1 a h2).trans (r2 a h1 h2 h3), fun j hj => ⟨(l.2.2 j (by omega)).1.trans (r3 j hj).1, (l.2.2 j (by omega)).2.trans (r3 j hj).2⟩, (l.2.2 11 (by omega)).1.trans r4, (l.2.1 n (by omega)).trans r5, k⟩
theorem Tk.same {g f : mm_H} {σ : RSt} (k : Tk b N g σ) (e : f 151 = g 151) : Tk b N f σ := by
  cases σ with
  | inl p => exact ⟨k.1, (fI_c e 2).trans k.2.1, (fI_c e 5).trans k.2.2⟩
  | inr s => exact ⟨k.1, (fI_c e 2).trans k.2.1, (fI_c e 3).trans k.2.2.1, (fI_c e 4).trans k.2.2.2.1, (fI_c e 5).trans k.2.2.2.2⟩
theorem sf_o {g : mm_H} {a ci k : Nat} {fs : List Value} {v : Value} (e : g a = .inr (ci, fs)) : mm_sf g a k v = mm_up g a (.inr (ci, fs.set k v)) := by
  unfold mm_sf
  rw [e]
theorem wrF_o {g : mm_H} {m a ci k : Nat} {fs : List Value} (v : Value) (ha : 48 ≤ a ∧ a < m) (e : g a = .inr (ci, fs)) (hk : k < fs.length) : wrF g m a ci k v = some (mm_up g a (.inr (ci, fs.set k v))) := by
  rw [← sf_o e]
  unfold wrF
  rw [if_pos ha, e]
  exact if_pos ⟨rfl, hk⟩
theorem RB.put {g : mm_H} {σ : RSt} {fs : List Value} (hn : 159 ≤ n) (r : RB b N n h g σ fs) (k : Nat) (hk : k < fs.length) (v : Value) : wrF g (n + 1) n 5 k v = some (mm_up g n (.inr (5, fs.set k v))) ∧ RB b N n h (mm_up g n (.inr (5, fs.set k v))) σ (fs.set k v) := by
  obtain ⟨r1, r2, r3, r4, r5, r6⟩ := r
  have e : mm_up g n (.inr (5, fs.set k v)) 151 = g 151 := mm_up_n (by omega)
  exact ⟨wrF_o v ⟨by omega, by omega⟩ r5 hk, r1.top hn _, fun a h1 h2 h3 => (mm_up_n (by omega)).trans (r2 a h1 h2 h3), fun j hj => ⟨(fI_c e j).trans (r3 j hj).1, (fR_c e j).trans (r3 j hj).2⟩, (fI_c e 11).trans r4, mm_up_s, r6.same e⟩
theorem TX.rb {g : mm_H} {σ : RSt} {fs : List Value} (hn : 159 ≤ n) (t : TX b N h) (r : RB b N n h g σ fs) : TX b N g := by
  obtain ⟨t1, t2, t3, t4⟩ := t
  exact ⟨(r.2.2.1 0 (by omega)).2.trans t1, (r.2.2.1 1 (by omega)).1.trans t2, t3, fun k hk => by rw [iA_c (r.2.1 155 (by omega) (by decide) (by decide))]; exact t4 k hk⟩
theorem TXT.rb {g : mm_H} {σ : RSt} {fs : List Value} (hn : 159 ≤ n) (t : TXT h) (r : RB b N n h g σ fs) : TXT g := fun i hi => by
  rw [r.2.1 (18 + i) (by omega) (by omega) (by omega)]
  exact t i hi
theorem rb_num (hK : 3000 ≤ K) (hn : 159 ≤ n) (t : TX b N h) {g : mm_H} {σ : RSt} {fs : List Value} (r : RB b N n h g σ fs) (lo hi : Nat) (hlo : lo ≤ 99999) (hhi : hi ≤ 99999) : ∃ g1, q_X3_number K g (n + 1) 151 (ni lo) (ni hi) = some ((nmS b N lo hi σ).1, g1) ∧ RB b N n h g1 (nmS b N lo hi σ).2 fs := by
  obtain ⟨g1, f1, l1, k1⟩ := z_number hK (n := n + 1) r.1 (by omega) (t.rb hn r) hlo hhi r.2.2.2.2.2
  exact ⟨g1, f1, r.lf hn l1 k1⟩
theorem rb_pick (hK : 3000 ≤ K) (hn : 159 ≤ n) (T : TXT h) (t : TX b N h) {g : mm_H} {σ : RSt} {fs : List Value} (r : RB b N n h g σ fs) (i : Nat) (hi : i < 15) : ∃ g1, q_X3_pick K g (n + 1) 151 (some (3 + i)) = some ((pkS b N (wds i) σ).1, g1) ∧ RB b N n h g1 (pkS b N (wds i) σ).2 fs := by
  obtain ⟨g1, f1, l1, k1⟩ := z_pick (K := K) (n := n + 1) hK r.1 (by omega) (T.rb hn r) (t.rb hn r) hi r.2.2.2.2.2
  exact ⟨g1, f1, r.lf hn l1 k1⟩
abbrev r0V (k : Int32) : List Value := [.int k, .int 0, .int 0, .int 0, .int 0, .int 0, .int 0, .int 0, .int 0, .int 0, .ref 2]
theorem z_allow (hK : 3000 ≤ K) (hn : 159 ≤ n) (T : TXT h) (t : TX b N h) {g : mm_H} {σ : RSt} {k : Int32} (r : RB b N n h g σ (r0V k)) : ∃ g', q_X3_allow K g (n + 1) 151 (some n) = some g' ∧ RB b N n h g' (alS_ b N σ).2 (vV k (alS_ b N σ).1 2) := by
  have hn1 : 159 ≤ n + 1 := by omega
  obtain ⟨g1, f1, r1⟩ := rb_pick hK hn T t r 3 (by omega)
  obtain ⟨w1, r2⟩ := r1.put hn 1 (by decide : 1 < 11) (.int (pkS b N (wds 3) σ).1)
  obtain ⟨g3, f3, r3⟩ := rb_pick hK hn T t r2 5 (by omega)
  obtain ⟨w3, r4⟩ := r3.put hn 2 (by decide : 2 < 11) (.int (pkS b N (wds 5) (pkS b N (wds 3) σ).2).1)
  have f1' : q_X3_pick K g (n + 1) 151 (some 6) = _ := f1
  have f3' : q_X3_pick K _ (n + 1) 151 (some 8) = _ := f3
  have d4 : rdI _ (n + 1) n 5 2 = some (pkS b N (wds 5) (pkS b N (wds 3) σ).2).1 := rdI_o ⟨by omega, by omega⟩ r4.2.2.2.2.1 rfl
  unfold q_X3_allow alS_
  dsimp only
  simp only [gq_151 r.1 hn1, Option.bind_some, f1', w1, gq_151 r2.1 hn1, f3', w3, d4]
  by_cases q : (pkS b N (wds 5) (pkS b N (wds 3) σ).2).1 = 3
  · rw [if_pos q, if_pos q]
    obtain ⟨g5, f5, r5⟩ := rb_num hK hn t r4 0 200 (by omega) (by omega)
    obtain ⟨w5, r6⟩ := r5.put hn 4 (by decide : 4 < 11) (.int (nmS b N 0 200 (pkS b N (wds 5) (pkS b N (wds 3) σ).2).2).1)
    have f5' : q_X3_number K _ (n + 1) 151 0 200 = _ := f5
    refine ⟨_, ?_, r6⟩
    simp only [gq_151 r4.1 hn1, Option.bind_some, f5', w5]
  · rw [if_neg q, if_neg q]
    obtain ⟨g5, f5, r5⟩ := rb_num hK hn t r4 0 2 (by omega) (by omega)
    obtain ⟨w5, r6⟩ := r5.put hn 3 (by decide : 3 < 11) (.int (nmS b N 0 2 (pkS b N (wds 5) (pkS b N (wds 3) σ).2).2).1)
    obtain ⟨g7, f7, r7⟩ := rb_num hK hn t r6 0 200 (by omega) (by omega)
    obtain ⟨w7, r8⟩ := r7.put hn 4 (by decide : 4 < 11) (.int (nmS b N 0 200 (nmS b N 0 2 (pkS b N (wds 5) (pkS b N (wds 3) σ).2).2).2).1)
    have f5' : q_X3_number K _ (n + 1) 151 0 2 = _ := f5
    have f7' : q_X3_number K _ (n + 1) 151 0 200 = _ := f7
    refine ⟨_, ?_, r8⟩
    simp only [gq_151 r4.1 hn1, Option.bind_some, f5', w5, gq_151 r6.1 hn1, f7', w7]
theorem z_target (hK : 3000 ≤ K) (hn : 159 ≤ n) (T : TXT h) (t : TX b N h) {g : mm_H} {σ : RSt} {k : Int32} (r : RB b N n h g σ (r0V k)) : ∃ g', q_X3_target K g (n + 1) 151 (some n) = some g' ∧ RB b N n h g' (tgS_ b N σ).2 (vV k (tgS_ b N σ).1 2) := by
  have hn1 : 159 ≤ n + 1 := by omega
  obtain ⟨g1, f1, r1⟩ := rb_num hK hn t r 0 2 (by omega) (by omega)
  obtain ⟨w1, r2⟩ := r1.put hn 1 (by decide : 1 < 11) (.int (nmS b N 0 2 σ).1)
  obtain ⟨g3, f3, r3⟩ := rb_pick hK hn T t r2 6 (by omega)
  obtain ⟨w3, r4⟩ := r3.put hn 2 (by decide : 2 < 11) (.int (pkS b N (wds 6) (nmS b N 0 2 σ).2).1)
  obtain ⟨g5, f5, r5⟩ := rb_num hK hn t r4 0 99999 (by omega) (by omega)
  obtain ⟨w5, r6⟩ := r5.put hn 4 (by decide : 4 < 11) (.int (nmS b N 0 99999 (pkS b N (wds 6) (nmS b N 0 2 σ).2).2).1)
  obtain ⟨g7, f7, r7⟩ := rb_pick hK hn T t r6 7 (by omega)
  obtain ⟨g8, f8, r8⟩ := rb_num hK hn t r7 1 99999 (by omega) (by omega)
  obtain ⟨w8, r9⟩ := r8.put hn 6 (by decide : 6 < 11) (.int (nmS b N 1 99999 _).1)
  obtain ⟨ga, fa, ra⟩ := rb_pick hK hn T t r9 8 (by omega)
  obtain ⟨gb, fb, rb⟩ := rb_num hK hn t ra 0 99999 (by omega) (by omega)
  obtain ⟨wb, rc⟩ := rb.put hn 7 (by decide : 7 < 11) (.int (nmS b N 0 99999 _).1)
  obtain ⟨gd, fd, rd⟩ := rb_pick hK hn T t rc 9 (by omega)
  obtain ⟨ge, fe, re⟩ := rb_num hK hn t rd 0 99999 (by omega) (by omega)
  obtain ⟨we, rf⟩ := re.put hn 8 (by decide : 8 < 11) (.int (nmS b N 0 99999 _).1)
  obtain ⟨gg, fg, rg⟩ := rb_pick hK hn T t rf 10 (by omega)
  obtain ⟨gh, fh, rh⟩ := rb_num hK hn t rg 0 99999 (by omega) (by omega)
  obtain ⟨wh, ri⟩ := rh.put hn 9 (by decide : 9 < 11) (.int (nmS b N 0 99999 _).1)
  have f1' : q_X3_number K g (n + 1) 151 0 2 = _ := f1
  have f3' : q_X3_pick K _ (n + 1) 151 (some 9) = _ := f3
  have f5' : q_X3_number K _ (n + 1) 151 0 99999 = _ := f5
  have f7' : q_X3_pick K _ (n + 1) 151 (some 10) = _ := f7
  have f8' : q_X3_number K _ (n + 1) 151 1 99999 = _ := f8
  have fa' : q_X3_pick K _ (n + 1) 151 (some 11) = _ := fa
  have fb' : q_X3_number K _ (n + 1) 151 0 99999 = _ := fb
  have fd' : q_X3_pick K _ (n + 1) 151 (some 12) = _ := fd
  have fe' : q_X3_number K _ (n + 1) 151 0 99999 = _ := fe
  have fg' : q_X3_pick K _ (n + 1) 151 (some 13) = _ := fg
  have fh' : q_X3_number K _ (n + 1) 151 0 99999 = _ := fh
  unfold q_X3_target tgS_
  dsimp only
  refine ⟨_, ?_, ri⟩
  simp only [gq_151 r.1 hn1, Option.bind_some, f1', w1, gq_151 r2.1 hn1, f3', w3, gq_151 r4.1 hn1, f5', w5, gq_151 r6.1 hn1, f7', gq_151 r7.1 hn1, f8', w8, gq_151 r9.1 hn1, fa', gq_151 ra.1 hn1, fb', wb, gq_151 rc.1 hn1, fd', gq_151 rd.1 hn1, fe', we, gq_151 rf.1 hn1, fg', gq_151 rg.1 hn1, fh', wh]
theorem ckr_o {g : mm_H} {m a ci : Nat} {fs : List Value} (ha : 48 ≤ a ∧ a < m) (e : g a = .inr (ci, fs)) : ckr g m a ci = true := by
  unfold ckr
  rw [e]
  simp [ha.1, ha.2]
theorem stR_153 {g : mm_H} (c : PS g) {m a i : Nat} (hm : 159 ≤ m) (ha : ckr g m a 5 = true) (hi : i < 30) : stR g m 153 4 5 (ni i) a = some (mm_sr g 153 i (some a)) := by
  unfold stR
  rw [if_pos ⟨by decide, by omega⟩, cs_153 c]
  show (if mm_tys[4]? = some (.object "WaterReview$Rule") ∧ inb (ni i) 30 = true ∧ ckr g m a 5 = true then some (mm_sr g 153 (ni i).toNatClampNeg (some a)) else none) = _
  rw [if_pos ⟨rfl, ni_inb (by omega) hi, ha⟩, ni_tn (by omega)]
/-- a rule's end: what is made is noted -/
theorem z_made {g : mm_H} (c : PS g) {n1 m : Nat} (hn : 159 ≤ n) (hn1 : n < n1) {σ : RSt} {fs : List Value} (k : Tk b N g σ) (N9 : N ≤ 900) (e : g n = .inr (5, fs)) (em : fI g 151 9 = ni m) (hm : m < 30) : ∃ g', ((rdI g n1 151 3 5).bind fun v26 => if v26 = (-1) then (rdI g n1 151 3 9).bind fun v28 => (rdR g n1 151 3 8).bind fun v30 => v30.bind fun a32 => (lenA g n1 a32 4).bind fun v34 => if v34 ≤ v28 then some (g, n1) else (rdR g n1 151 3 8).bind fun v36 => (rdI g n1 151 3 9).bind fun v38 => v36.bind fun a40 => (stR g n1 a40 4 5 v38 n).bind fun h42 => (rdI h42 n1 151 3 9).bind fun v44 => (wrF h42 n1 151 3 9 (.int (v44 + 1))).bind fun h46 => some (h46, n1) else some (g, n1)) = some (g', n1) ∧ PS g' ∧ (∀ a, a ≠ 151 → a ≠ 153 → g' a = g a) ∧ (∀ k, k ≠ 9 → fI g' 151 k = fI g 151 k ∧ fR g' 151 k = fR g 151 k) ∧ Tk b N g' σ ∧ (∀ s, σ = .inr s → fI g' 151 9 = ni (m + 1) ∧ rA g' 153 = va_up (rA g 153) m (some n)) ∧ ∀ p, σ = .inl p → g' = g := by
  have hn2 : 159 ≤ n1 := by omega
  cases σ with
  | inl p =>
    refine ⟨g, ?_, c, fun _ _ _ => rfl, fun _ _ => ⟨rfl, rfl⟩, k, (fun s q => nomatch q), fun _ _ => rfl⟩
    rw [g_151_5 c hn2, k.2.2, Option.bind_some, if_neg (ni_n1 (by have := k.1; omega))]
  | inr s =>
    have c1 : PS (mm_sr g 153 m (some n)) := ps_153 c _ _
    have c2 : PS (mm_sf (mm_sr g 153 m (some n)) 151 9 (.int (ni (m + 1)))) := ps_151_9 c1 _
    have e1 : fI (mm_sr g 153 m (some n)) 151 9 = ni m := (fI_sr _ _ _ _ _).trans em
    have e2 : ∀ k, k ≠ 9 → fI (mm_sf (mm_sr g 153 m (some n)) 151 9 (.int (ni (m + 1)))) 151 k = fI g 151 k := fun j hj => (fI_sf_o hj _).trans (fI_sr _ _ _ _ _)
    refine ⟨mm_sf (mm_sr g 153 m (some n)) 151 9 (.int (ni (m + 1))), ?_, c2, fun a h1 h2 => (mm_sf_n h1).trans (mm_up_n h2), fun j hj => ⟨e2 j hj, (fR_sf_o hj _).trans (fR_sr _ _ _ _ _)⟩, ⟨k.1, (e2 2 (by decide)).trans k.2.1, (e2 3 (by decide)).trans k.2.2.1, (e2 4 (by decide)).trans k.2.2.2.1, (e2 5 (by decide)).trans k.2.2.2.2⟩, fun s' _ => ⟨fs_151_9 c1 _, (rA_sf _ _ _ _).trans (is_153 c _ _)⟩, fun p q => nomatch q⟩
    simp only [g_151_5 c hn2, k.2.2.2.2, Option.bind_some, if_true, g_151_9 c hn2, em, g_151_8 c hn2, gl_153 c hn2, stR_153 c hn2 (ckr_o ⟨by omega, hn1⟩ e) hm, g_151_9 c1 hn2, e1, ni_1, p_151_9 c1 hn2]
    exact if_neg (fun q => by have := (ni_le (a := 30) (by omega) (by omega)).mp q; omega)
end RULEC

/-! ===== the class reads a whole text ===== -/
section READX
variable {K : Nat} {b : Nat → Nat} {N : Nat}
theorem fill_row2 (hK : 3000 ≤ K) {g : mm_H} {n : Nat} (c : PS g) {a M : Nat} (hs : mm_sh a = some (.inl (.int, M))) (ha : 48 ≤ a) (han : a < n) (hM : M ≤ 2000) (v : Int32) : ∃ g', q_J7_fill_53178 K g n (some a) v = some g' ∧ PS g' ∧ (∀ b, b ≠ a → g' b = g b) ∧ ∀ j, j < M → iA g' a j = v := by
  have e : g a = .inl (.int, M, .inl (iA g a)) := c a _ hs
  have hl : lenA g n a 0 = some (Int32.ofNat M) := by
    unfold lenA
    rw [if_pos ⟨ha, han⟩, e]
    rfl
  have lp := fill_lp (K := K) (n := n) (v := v) (l3 := Int32.ofNat M) ⟨ha, han⟩ (by omega) rfl K 0 g (iA g a) e (Nat.zero_le _) (by omega)
  have e2 : iA (mm_up g a (.inl (.int, M, .inl (fun j => if 0 ≤ j ∧ j < M then v else iA g a j)))) a = fun j => if 0 ≤ j ∧ j < M then v else iA g a j := by
    unfold iA
    rw [mm_up_s]
  refine ⟨mm_up g a (.inl (.int, M, .inl (fun j => if 0 ≤ j ∧ j < M then v else iA g a j))), ?_, ?_, fun b hb => mm_up_n hb, fun j hj => ?_⟩
  · unfold q_J7_fill_53178
    simp only [Option.bind_some, hl]
    rw [show lp_J7_fill_53178_5 K n a v (Int32.ofNat M) K 0 g = _ from lp]
    rfl
  · refine c.up (fun s' hs' => ?_)
    obtain rfl := Option.some.inj (hs'.symm.trans hs)
    show _ = (Sum.inl (_, M, .inl (iA (mm_up g a _) a)) : mm_E)
    rw [e2]
  · rw [e2]
    show (if 0 ≤ j ∧ j < M then v else iA g a j) = v
    rw [if_pos ⟨Nat.zero_le _, hj⟩]
/-- from the first token on -/
theorem z_go (hK : 3000 ≤ K) {n : Nat} {h : mm_H} (hn : 159 ≤ n) (hn9 : n + 200 < 1000000) (T : TXT h) (t : TX b N h) {L : List Stm} (hL : L.length ≤ 270) {l : Option Nat} (B : baC h n l L) {am : Bool} (hA : am = false → L = []) {M : Nat} (hM : 30 < M ∨ N < M) {σ : RSt} {g : mm_H} (lf : LF h g) (k : Tk b N g σ) (e7 : fI h 151 7 = 0) (e9 : fI h 151 9 = 0) (e152 : ∀ v, v < 270 → iA h 152 v = 0) : ∃ g' m r, ((lp_X3_read_89 K 151 (if am = true then 1 else 0) l M 0 g n).bind fun v => enC K l v) = some (r, g', m) ∧ RD (N := N) n h g' m r (match fltS N (rdS b N am L.length 30 (σ, [], fun _ => false)).1 with | some p => .inl p | none => .inr (kptS (rdS b N am L.length 30 (σ, [], fun _ => false)).2.2 L 0 ++ (rdS b N am L.length 30 (σ, [], fun _ => false)).2.1)) := by
  have I : LI b N L n h 0 (σ, [], fun _ => false) g n := ⟨lf.1, Nat.le_refl _, Nat.le_refl _, fun a _ h2 _ _ _ => lf.2.1 a h2, fun j hj => lf.2.2 j (by omega), k, ⟨0, (lf.2.2 7 (by omega)).1.trans e7, by rw [kptS_no]; rfl⟩, fun v hv => by rw [iA_c (lf.2.1 152 (by decide)), e152 v hv]; rfl, (lf.2.2 9 (by omega)).1.trans e9, Nat.le_refl 0, fun j s e => by cases e⟩
  obtain ⟨g1, n1, f1, I1⟩ := z_rd hK hn hn9 T t hL B hA 30 0 M _ g n rfl (fun s _ => by omega) (by omega) I
  obtain ⟨g2, m, r, f2, R⟩ := z_enC hK hn hn9 t hL B I1
  have f1' : lp_X3_read_89 K 151 (if am = true then 1 else 0) l M 0 g n = some (g1, n1) := f1
  exact ⟨g2, m, r, by rw [f1', Option.bind_some, f2], R⟩
theorem z_read (hK : 3000 ≤ K) {n : Nat} {h : mm_H} (c : PS h) (hn : 159 ≤ n) (hn9 : n + 200 < 1000000) (T : TXT h) (hN : N ≤ 900) (hb : ∀ k, k < N → iA h 155 k = ni (b k) ∧ b k < 256) {L : List Stm} (hL : L.length ≤ 270) {l : Option Nat} (B : baC h n l L) {M : Nat} (hM : 30 < M ∨ N < M) : ∃ g m r, q_X3_read K M h n 151 (some 155) (ni N) l = some (r, g, m) ∧ RD (N := N) n h g m r (txS b N L) := by
  have c1 : PS (mm_sf h 151 0 (va_rf (some 155))) := ps_151_0 c _
  have c2 : PS (mm_sf (mm_sf h 151 0 (va_rf (some 155))) 151 1 (.int (ni N))) := ps_151_1 c1 _
  have c3 : PS (mm_sf (mm_sf (mm_sf h 151 0 (va_rf (some 155))) 151 1 (.int (ni N))) 151 4 (.int 0)) := ps_151_4 c2 _
  have c4 : PS (mm_sf (mm_sf (mm_sf (mm_sf h 151 0 (va_rf (some 155))) 151 1 (.int (ni N))) 151 4 (.int 0)) 151 5 (.int (-1))) := ps_151_5 c3 _
  have c5 : PS (mm_sf (mm_sf (mm_sf (mm_sf (mm_sf h 151 0 (va_rf (some 155))) 151 1 (.int (ni N))) 151 4 (.int 0)) 151 5 (.int (-1))) 151 7 (.int 0)) := ps_151_7 c4 _
  have x0 : fR (mm_sf (mm_sf (mm_sf (mm_sf (mm_sf h 151 0 (va_rf (some 155))) 151 1 (.int (ni N))) 151 4 (.int 0)) 151 5 (.int (-1))) 151 7 (.int 0)) 151 0 = some 155 := by
    rw [fR_sf_o (by decide), fR_sf_o (by decide), fR_sf_o (by decide), fR_sf_o (by decide)]
    exact fs_151_0 c _
  have x1 : fI (mm_sf (mm_sf (mm_sf (mm_sf (mm_sf h 151 0 (va_rf (some 155))) 151 1 (.int (ni N))) 151 4 (.int 0)) 151 5 (.int (-1))) 151 7 (.int 0)) 151 1 = ni N := by
    rw [fI_sf_o (by decide), fI_sf_o (by decide), fI_sf_o (by decide)]
    exact fs_151_1 c1 _
  have x4 : fI (mm_sf (mm_sf (mm_sf (mm_sf (mm_sf h 151 0 (va_rf (some 155))) 151 1 (.int (ni N))) 151 4 (.int 0)) 151 5 (.int (-1))) 151 7 (.int 0)) 151 4 = 0 := by
    rw [fI_sf_o (by decide), fI_sf_o (by decide)]
    exact fs_151_4 c2 _
  have x5 : fI (mm_sf (mm_sf (mm_sf (mm_sf (mm_sf h 151 0 (va_rf (some 155))) 151 1 (.int (ni N))) 151 4 (.int 0)) 151 5 (.int (-1))) 151 7 (.int 0)) 151 5 = -1 := by
    rw [fI_sf_o (by decide)]
    exact fs_151_5 c3 _
  have x7 := fs_151_7 c4 0
  have o5 : ∀ a, a ≠ 151 → mm_sf (mm_sf (mm_sf (mm_sf (mm_sf h 151 0 (va_rf (some 155))) 151 1 (.int (ni N))) 151 4 (.int 0)) 151 5 (.int (-1))) 151 7 (.int 0) a = h a := fun a ha => by
    rw [mm_sf_n ha, mm_sf_n ha, mm_sf_n ha, mm_sf_n ha, mm_sf_n ha]
  have w0 := p_151_0 c hn (va_rf (some 155))
  have ln : lenA (mm_sf h 151 0 (va_rf (some 155))) n 155 0 = some 900 := gl_155 c1 hn
  have w1 := p_151_1 c1 hn (.int (ni N))
  have w2 := p_151_4 c2 hn (.int 0)
  have w3 := p_151_5 c3 hn (.int (-1))
  have w4 := p_151_7 c4 hn (.int 0)
  have g6 := g_151_6 c5 hn
  generalize mm_sf (mm_sf (mm_sf (mm_sf (mm_sf h 151 0 (va_rf (some 155))) 151 1 (.int (ni N))) 151 4 (.int 0)) 151 5 (.int (-1))) 151 7 (.int 0) = h5 at *
  obtain ⟨h6, f6, c6, o6, r6⟩ := fill_row2 hK c5 (n := n) (a := 152) (M := 270) rfl (by omega) (by omega) (by omega) 0
  have e6 : h6 151 = h5 151 := o6 151 (by decide)
  have w6 := p_151_9 c6 hn (.int 0)
  have c7 : PS (mm_sf h6 151 9 (.int 0)) := ps_151_9 c6 _
  have i7 : ∀ j, j ≠ 9 → fI (mm_sf h6 151 9 (.int 0)) 151 j = fI h5 151 j := fun j hj => (fI_sf_o hj _).trans (fI_c e6 j)
  have x9 : fI (mm_sf h6 151 9 (.int 0)) 151 9 = 0 := fs_151_9 c6 _
  have o7 : ∀ a, a ≠ 151 → a ≠ 152 → mm_sf h6 151 9 (.int 0) a = h a := fun a h1 h2 => (mm_sf_n h1).trans ((o6 a h2).trans (o5 a h1))
  have z0 : fR (mm_sf h6 151 9 (.int 0)) 151 0 = some 155 := (fR_sf_o (by decide) _).trans ((fR_c e6 0).trans x0)
  have z152 : ∀ v, v < 270 → iA (mm_sf h6 151 9 (.int 0)) 152 v = 0 := fun v hv => by rw [iA_sf]; exact r6 v hv
  have z1 := (i7 1 (by decide)).trans x1
  have z4 := (i7 4 (by decide)).trans x4
  have z5 := (i7 5 (by decide)).trans x5
  have z7 := (i7 7 (by decide)).trans x7
  generalize hH : mm_sf h6 151 9 (.int 0) = H at *
  have t : TX b N H := ⟨z0, z1, hN, fun k hk => by rw [iA_c (o7 155 (by decide) (by decide))]; exact hb k hk⟩
  have TH : TXT H := fun i hi => by
    rw [o7 (18 + i) (by omega) (by omega)]
    exact T i hi
  have BH : baC H n l L := by
    rcases B with B | ⟨p, y, z, e, bc⟩
    · exact Or.inl B
    · exact Or.inr ⟨p, y, z, e, bookC_up bc (Nat.le_refl _) (fun a h1 h2 => o7 a (by omega) (by omega))⟩
  obtain ⟨g1, f1, l1, k1⟩ := z_step0 hK c7 hn t (Nat.zero_le N) z4 z5
  have iw : q_X3_isWord K g1 n 151 (some 3) = some (if amS b N = true then 1 else 0) := z_isWord hK l1.1 hn (TH.xf l1.xf) (t.lf l1) (i := 0) (by omega) wds_amd k1
  have mn : i_max 0 (i_min (ni N) 900) = ni N := by
    have e1 : i_min (ni N) 900 = ni N := if_neg (fun y => by have := (ni_lt (a := 900) (by omega) (by omega)).mp y; omega)
    rw [e1]
    unfold i_max
    by_cases z : (ni N) < 0
    · exact absurd z (ni_pos (by omega))
    · first
        | rw [if_neg z]
        | (by_cases w : (0 : Int32) < ni N
           · rw [if_pos w]
           · rw [if_neg w]
             have h0 : ¬ 0 < N := fun y => w ((ni_lt (a := 0) (by omega) (by omega)).mpr y)
             rw [show N = 0 by omega]
             rfl)
  -- to the heap before
  have back : ∀ {g' m r res}, RD (N := N) n H g' m r res → RD (N := N) n h g' m r res := fun R => ⟨R.1, R.2.1, R.2.2.1, fun a h1 h2 h3 h4 h5 => (R.2.2.2.1 a h1 h2 h3 h4 h5).trans (o7 a h2 h3), R.2.2.2.2⟩
  unfold q_X3_read
  rw [w0, Option.bind_some, Option.bind_some, ln, Option.bind_some, mn, w1, Option.bind_some, w2, Option.bind_some, w3, Option.bind_some, w4, Option.bind_some, g6, Option.bind_some, f6, Option.bind_some, w6, Option.bind_some, gq_151 c7 hn, Option.bind_some, f1, Option.bind_some, gq_151 l1.1 hn, Option.bind_some, iw, Option.bind_some]
  unfold txS endS
  by_cases q : amS b N = true
  · have eL : amL b N L = L := if_pos q
    have v1 : (if amS b N = true then (1 : Int32) else 0) = 1 := if_pos q
    have eb : begS b N = sgS b N 59 (stpS b N (.inr (sk b N 0))) := if_pos q
    obtain ⟨g2, f2, l2, k2⟩ := z_step hK l1.1 hn (t.lf l1) k1
    obtain ⟨g3, f3, l3, k3⟩ := z_sign hK l2.1 hn ((t.lf l1).lf l2) (v := 59) (by omega) k2
    have f3' : q_X3_sign K g2 n 151 59 = some g3 := f3
    obtain ⟨g', m, r, e, R⟩ := z_go hK hn hn9 TH t hL BH (am := amS b N) (fun z => by rw [q] at z; cases z) hM (l1.trans (l2.trans l3)) k3 z7 x9 z152
    refine ⟨g', m, r, ?_, by rw [eL, eb]; exact back R⟩
    rw [v1] at e ⊢
    rw [if_neg (by decide), Option.bind_some, f2, Option.bind_some, gq_151 l2.1 hn, Option.bind_some, f3', Option.bind_some, if_neg (by decide)]
    exact e
  · have eL : amL b N L = [] := if_neg q
    have v1 : (if amS b N = true then (1 : Int32) else 0) = 0 := if_neg q
    have eb : begS b N = .inr (sk b N 0) := if_neg q
    obtain ⟨g', m, r, e, R⟩ := z_go hK hn hn9 TH t (L := []) (by simp) (l := none) (Or.inl ⟨rfl, rfl⟩) (am := amS b N) (fun _ => rfl) hM l1 k1 z7 x9 z152
    refine ⟨g', m, r, ?_, by rw [eL, eb]; exact back R⟩
    rw [v1] at e ⊢
    rw [if_pos rfl, if_pos rfl]
    exact e
end READX

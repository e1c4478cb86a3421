/-! ===== the model reads a whole text ===== -/
section READSM
variable {K n : Nat} {N : Nat}
def FXX (h g : mm_H) : Prop := PS g ∧ (∀ a, a ≠ 159 → a ≠ 178 → a ≠ 181 → a < 182 ∨ (197 < a ∧ a ≠ 199) → g a = h a) ∧ (∀ k, k < 26 ∨ (30 < k ∧ k ≠ 54 ∧ k ≠ 55) → fI g 159 k = fI h 159 k ∧ fJ g 159 k = fJ h 159 k ∧ fR g 159 k = fR h 159 k) ∧ (∀ i, i ≠ 13 → iA g 178 i = iA h 178 i ∧ iA g 181 i = iA h 181 i) ∧ (∀ a, 182 ≤ a → a ≤ 190 → ∀ i, i < 3900 → iA g a i = iA h a i) ∧ ∀ a, 191 ≤ a → a ≤ 196 → ∀ i, i < 84500 → iA g a i = iA h a i
theorem FXX.trans {h g f : mm_H} (x : FXX h g) (y : FXX g f) : FXX h f := ⟨y.1, fun a h1 h2 h3 h4 => (y.2.1 a h1 h2 h3 h4).trans (x.2.1 a h1 h2 h3 h4), fun k h1 => ⟨(y.2.2.1 k h1).1.trans (x.2.2.1 k h1).1, (y.2.2.1 k h1).2.1.trans (x.2.2.1 k h1).2.1, (y.2.2.1 k h1).2.2.trans (x.2.2.1 k h1).2.2⟩, fun i hi => ⟨(y.2.2.2.1 i hi).1.trans (x.2.2.2.1 i hi).1, (y.2.2.2.1 i hi).2.trans (x.2.2.2.1 i hi).2⟩, fun a h1 h2 i hi => (y.2.2.2.2.1 a h1 h2 i hi).trans (x.2.2.2.2.1 a h1 h2 i hi), fun a h1 h2 i hi => (y.2.2.2.2.2 a h1 h2 i hi).trans (x.2.2.2.2.2 a h1 h2 i hi)⟩
theorem FQ.fx {h g : mm_H} (x : FQ h g) : FXX h g := ⟨x.1, fun a h1 h2 h3 h4 => x.2.1 a h1 h2 h3 (by omega), fun k hk => x.2.2.1 k (by omega), x.2.2.2.1, x.2.2.2.2.1, x.2.2.2.2.2⟩
theorem setR_fx {h g : mm_H} {z N : Nat} {L : List Stm} (x : FXX h g) (hz : z < 13) (hN : N ≤ 6500) (hL : L.length ≤ 300) (R : setR h z L N) : setR g z L N := by
  obtain ⟨s1, s2, s3⟩ := R
  refine ⟨by rw [(x.2.2.2.1 z (by omega)).1]; exact s1, by rw [(x.2.2.2.1 z (by omega)).2]; exact s2, fun i s e => ?_⟩
  have hi := (List.getElem?_eq_some_iff.mp e).1
  have s3' := s3 i s e
  refine rowR_ag (fun a h1 h2 => x.2.2.2.2.1 a h1 h2 _ (by omega)) (fun a h1 h2 j _ h4 => x.2.2.2.2.2 a h1 h2 j (by omega)) (Nat.le_refl _) s3'
theorem CPR.fq {h g : mm_H} {z len N : Nat} (c : PS g) (r : CPR h z 13 len N g) : FQ h g := by
  obtain ⟨r0, r1, r2, r3, r4, r5, r6⟩ := r
  have e := r0 159 (by omega)
  refine ⟨c, fun a h1 h2 h3 h4 => r0 a (by omega), fun k _ => ⟨fI_c e k, fJ_c e k, fR_c e k⟩, fun i hi => ⟨by rw [r1, upd_n hi], by rw [r2, upd_n hi]⟩, fun a h1 h2 i hi => ?_, fun a h1 h2 i hi => ?_⟩
  · by_cases q : a = 190
    · subst q
      rw [r4, if_neg (by omega)]
    · rw [r3 a h1 (by omega), if_neg (by omega)]
  · by_cases q : a = 192 ∨ a = 193
    · rw [r6 a q, if_neg (by omega)]
    · rw [r5 a (by omega), if_neg (by omega)]
theorem z_reads (hK : 7000 ≤ K) {h : mm_H} (c : PS h) (hn : 208 ≤ n) (hN : N ≤ 900) {L : List Stm} (hL : L.length ≤ 270) {l2 : Int32} {N0 : Nat} (hN0 : N0 ≤ 5760) (B : (l2 = -1 ∧ L = []) ∨ ∃ z, l2 = ni z ∧ z < 13 ∧ setR h z L N0) : ∃ v g, q_X11_reads K h n 159 (ni N) l2 = some (v, g) ∧ FXX h g ∧ fI g 159 26 = 0 ∧ (∀ p, txS (fun k => bT (iA h 198 k)) N L = .inl p → v = 0 ∧ fI g 159 30 = ni p) ∧ ∀ L', txS (fun k => bT (iA h 198 k)) N L = .inr L' → v = 1 ∧ fI g 159 30 = -1 ∧ ∃ m, m ≤ N0 + 720 ∧ setR g 13 L' m := by
  have hK3 : 3000 ≤ K := by omega
  have i13 : inb (13 : Int32) 14 = true := by decide
  have t13 : (13 : Int32).toNatClampNeg = 13 := by decide
  obtain ⟨g1, f1, c1, o1, -, e199⟩ := z_copyT (K := K) (n := n) (N := N) hn l2 hN N 0 K h (by omega) (by omega) c
  have f1' : lp_X11_reads_2 K n 159 (ni N) l2 K 0 h = some g1 := f1
  have c2 : PS (mm_sf g1 159 27 (.int (ni N))) := ps_159_27 c1 _
  have c3 : PS (mm_sf (mm_sf g1 159 27 (.int (ni N))) 159 26 (.int 0)) := ps_159_26 c2 _
  have c4 : PS (mm_sf (mm_sf (mm_sf g1 159 27 (.int (ni N))) 159 26 (.int 0)) 159 28 (.int 0)) := ps_159_28 c3 _
  have c5 : PS (mm_si (mm_sf (mm_sf (mm_sf g1 159 27 (.int (ni N))) 159 26 (.int 0)) 159 28 (.int 0)) 178 13 0) := ps_178 c4 _ _
  have c6 : PS (mm_si (mm_si (mm_sf (mm_sf (mm_sf g1 159 27 (.int (ni N))) 159 26 (.int 0)) 159 28 (.int 0)) 178 13 0) 181 13 0) := ps_181 c5 _ _
  have fx : FXX h (mm_si (mm_si (mm_sf (mm_sf (mm_sf g1 159 27 (.int (ni N))) 159 26 (.int 0)) 159 28 (.int 0)) 178 13 0) 181 13 0) := by
    refine ⟨c6, fun a h1 h2 h3 h4 => ?_, fun k hk => ⟨?_, ?_, ?_⟩, fun i hi => ⟨?_, ?_⟩, fun a h1 h2 i _ => ?_, fun a h1 h2 i _ => ?_⟩
    · rw [mm_si_n h3, mm_si_n h2, mm_sf_n h1, mm_sf_n h1, mm_sf_n h1]
      exact o1 a (by omega)
    · rw [fI_si, fI_si, fI_sf_o (by omega), fI_sf_o (by omega), fI_sf_o (by omega), fI_c (o1 159 (by decide))]
    · rw [fJ_si, fJ_si, fJ_sf_o (by omega), fJ_sf_o (by omega), fJ_sf_o (by omega), fJ_c (o1 159 (by decide))]
    · rw [fR_si, fR_si, fR_sf_o (by omega), fR_sf_o (by omega), fR_sf_o (by omega), fR_c (o1 159 (by decide))]
    · rw [iA_si_n (by decide), is_178 c4, upd_n hi, iA_sf, iA_sf, iA_sf, iA_c (o1 178 (by decide))]
    · rw [is_181 c5, upd_n hi, iA_si_n (by decide), iA_sf, iA_sf, iA_sf, iA_c (o1 181 (by decide))]
    · rw [iA_si_n (by omega), iA_si_n (by omega), iA_sf, iA_sf, iA_sf, iA_c (o1 a (by omega))]
    · rw [iA_si_n (by omega), iA_si_n (by omega), iA_sf, iA_sf, iA_sf, iA_c (o1 a (by omega))]
  have t6 : TM (fun k => bT (iA h 198 k)) N (mm_si (mm_si (mm_sf (mm_sf (mm_sf g1 159 27 (.int (ni N))) 159 26 (.int 0)) 159 28 (.int 0)) 178 13 0) 181 13 0) := by
    refine ⟨?_, hN, fun k hk => ⟨?_, bT_lt _⟩⟩
    · rw [fI_si, fI_si, fI_sf_o (by decide), fI_sf_o (by decide)]
      exact fs_159_27 c1 _
    · rw [iA_si_n (by decide), iA_si_n (by decide), iA_sf, iA_sf, iA_sf]
      exact e199 k (Nat.zero_le _) hk
  have a26 : fI (mm_si (mm_si (mm_sf (mm_sf (mm_sf g1 159 27 (.int (ni N))) 159 26 (.int 0)) 159 28 (.int 0)) 178 13 0) 181 13 0) 159 26 = 0 := by
    rw [fI_si, fI_si, fI_sf_o (by decide)]
    exact fs_159_26 c2 _
  have a28 : fI (mm_si (mm_si (mm_sf (mm_sf (mm_sf g1 159 27 (.int (ni N))) 159 26 (.int 0)) 159 28 (.int 0)) 178 13 0) 181 13 0) 159 28 = 0 := by
    rw [fI_si, fI_si]
    exact fs_159_28 c3 _
  have a178 : iA (mm_si (mm_si (mm_sf (mm_sf (mm_sf g1 159 27 (.int (ni N))) 159 26 (.int 0)) 159 28 (.int 0)) 178 13 0) 181 13 0) 178 13 = 0 := by
    rw [iA_si_n (by decide), is_178 c4, upd_s]
  have a181 : iA (mm_si (mm_si (mm_sf (mm_sf (mm_sf g1 159 27 (.int (ni N))) 159 26 (.int 0)) 159 28 (.int 0)) 178 13 0) 181 13 0) 181 13 = 0 := by
    rw [is_181 c5, upd_s]
  have w2 := p_159_27 c1 hn (.int (ni N))
  have w3 := p_159_26 c2 hn (.int 0)
  have w4 := p_159_28 c3 hn (.int 0)
  have w5 : stI (mm_sf (mm_sf (mm_sf g1 159 27 (.int (ni N))) 159 26 (.int 0)) 159 28 (.int 0)) n 178 13 0 = some _ := (pe_178 c4 hn 13 0).trans ((if_pos i13).trans (by rw [t13]))
  have w6 : stI (mm_si (mm_sf (mm_sf (mm_sf g1 159 27 (.int (ni N))) 159 26 (.int 0)) 159 28 (.int 0)) 178 13 0) n 181 13 0 = some _ := (pe_181 c5 hn 13 0).trans ((if_pos i13).trans (by rw [t13]))
  have d4 := g_159_32 c4 hn
  have d5 := g_159_35 c5 hn
  unfold q_X11_reads
  rw [f1', Option.bind_some, w2, Option.bind_some, w3, Option.bind_some, w4, Option.bind_some, d4, Option.bind_some, Option.bind_some, w5, Option.bind_some, d5, Option.bind_some, Option.bind_some, w6, Option.bind_some, gq_159 c6 hn, Option.bind_some]
  generalize mm_si (mm_si (mm_sf (mm_sf (mm_sf g1 159 27 (.int (ni N))) 159 26 (.int 0)) 159 28 (.int 0)) 178 13 0) 181 13 0 = g6 at *
  generalize (fun k => bT (iA h 198 k)) = b at *
  have k6 : Mk b N g6 (.inr (sk b N 0)) := ⟨0, Nat.zero_le _, a28, rfl⟩
  obtain ⟨g7, f7, l7, z1, z2⟩ := z_takes hK3 c6 hn t6 k6 okC_as.1
  have fx7 := fx.trans l7.fq.fx
  have t7 := t6.ml l7
  have b26 : fI g7 159 26 = 0 := (l7.2.2 26 (by decide) (by decide) (by decide)).1.trans a26
  have b178 : iA g7 178 13 = 0 := by rw [iA_c (l7.2.1 178 (by decide))]; exact a178
  have b181 : iA g7 181 13 = 0 := by rw [iA_c (l7.2.1 181 (by decide))]; exact a181
  rw [f7, Option.bind_some]
  -- to the end
  have fin : ∀ {g8 : mm_H} {M : List Stm} {N1 : Nat} {am : Bool} {τ : RSt} {v : Int32} {g' : mm_H} {X : Option (Int32 × mm_H)}, FXX h g8 → fI g8 159 26 = 0 → X = some (v, g') → FQ g8 g' → (∀ p, fltS N (rdS b N am M.length 30 (τ, [], fun _ => false)).1 = some p → v = 0 ∧ p ≤ N ∧ fI g' 159 30 = ni p) → (fltS N (rdS b N am M.length 30 (τ, [], fun _ => false)).1 = none → v = 1 ∧ fI g' 159 30 = -1 ∧ ∃ m, m ≤ N1 + 720 ∧ setR g' 13 (kptS (rdS b N am M.length 30 (τ, [], fun _ => false)).2.2 M 0 ++ (rdS b N am M.length 30 (τ, [], fun _ => false)).2.1) m) → N1 ≤ N0 → txS b N L = (match fltS N (rdS b N am M.length 30 (τ, [], fun _ => false)).1 with | some p => .inl p | none => .inr (kptS (rdS b N am M.length 30 (τ, [], fun _ => false)).2.2 M 0 ++ (rdS b N am M.length 30 (τ, [], fun _ => false)).2.1)) → ∃ v g, X = some (v, g) ∧ FXX h g ∧ fI g 159 26 = 0 ∧ (∀ p, txS b N L = .inl p → v = 0 ∧ fI g 159 30 = ni p) ∧ ∀ L', txS b N L = .inr L' → v = 1 ∧ fI g 159 30 = -1 ∧ ∃ m, m ≤ N0 + 720 ∧ setR g 13 L' m := by
    intro g8 M N1 am τ v g' X q1 q2 q3 q4 q5 q6 q7 q8
    refine ⟨v, g', q3, q1.trans q4.fx, (q4.2.2.1 26 (by omega)).1.trans q2, fun p e => ?_, fun L' e => ?_⟩
    · rw [q8] at e
      cases ef : fltS N (rdS b N am M.length 30 (τ, [], fun _ => false)).1 with
      | some p' =>
        rw [ef] at e
        cases e
        obtain ⟨x1, -, x2⟩ := q5 p ef
        exact ⟨x1, x2⟩
      | none => rw [ef] at e; cases e
    · rw [q8] at e
      cases ef : fltS N (rdS b N am M.length 30 (τ, [], fun _ => false)).1 with
      | some p' => rw [ef] at e; cases e
      | none =>
        rw [ef] at e
        cases e
        obtain ⟨x1, x2, m, x3, x4⟩ := q6 ef
        exact ⟨x1, x2, m, by omega, x4⟩
  have eT : txS b N L = (match fltS N (rdS b N (amS b N) (amL b N L).length 30 (begS b N, [], fun _ => false)).1 with | some p => .inl p | none => .inr (kptS (rdS b N (amS b N) (amL b N L).length 30 (begS b N, [], fun _ => false)).2.2 (amL b N L) 0 ++ (rdS b N (amS b N) (amL b N L).length 30 (begS b N, [], fun _ => false)).2.1)) := rfl
  by_cases q : isW b N wAmd (sk b N 0) = true
  · have qa : amS b N = true := q
    have eb : begS b N = sgS b N 59 (.inr (nx b N (sk b N 0))) := if_pos qa
    have eL : amL b N L = L := if_pos qa
    rw [qa, eb, eL] at eT
    rw [if_pos q, if_neg (show ¬ (1 : Int32) = 0 by decide), gq_159 l7.1 hn, Option.bind_some]
    obtain ⟨g8, f8, l8, y1, y2⟩ := z_tsign hK3 l7.1 hn t7 (z1 q) (v := 59) (by decide)
    have f8' : q_X11_takesSign K g7 n 159 59 = _ := f8
    have fx8 := fx7.trans l8.fq.fx
    have t8 := t7.ml l8
    have d26 : fI g8 159 26 = 0 := (l8.2.2 26 (by decide) (by decide) (by decide)).1.trans b26
    have d178 : iA g8 178 13 = 0 := by rw [iA_c (l8.2.1 178 (by decide))]; exact b178
    have d181 : iA g8 181 13 = 0 := by rw [iA_c (l8.2.1 181 (by decide))]; exact b181
    rw [f8', Option.bind_some]
    by_cases y : isG b N 59 (.inr (nx b N (sk b N 0))) = true
    · have es : sgS b N 59 (.inr (nx b N (sk b N 0))) = .inr (nx b N (nx b N (sk b N 0))) := if_pos y
      rw [es] at eT
      rw [if_pos y, if_neg (show ¬ (1 : Int32) = 0 by decide), if_neg (show ¬ (1 : Int32) = 0 by decide)]
      rcases B with ⟨rfl, rfl⟩ | ⟨z, rfl, hz, R⟩
      · rw [if_pos rfl]
        obtain ⟨v, g', f, r1, r2, r3⟩ := z_reE (K := K) (n := n) (b := b) (N := N) hK3 hn (L := []) (by simp) (N0 := 0) (s0 := 0) (by omega) l8.1 t8 (am := true) (fun _ => rfl) (τ := .inr (nx b N (nx b N (sk b N 0)))) (fun s e => by cases e; exact ⟨y1 y, Nat.zero_le _⟩) (fun p e => by cases e) d178 d181 (fun j st e => by cases e)
        exact fin fx8 d26 f r1 r2 r3 (Nat.zero_le _) eT
      · have s8 : setR g8 z L N0 := setR_fx fx8 hz (by omega) (by omega) R
        obtain ⟨g9, f9, c9, cp⟩ := z_copies (K := K) hK l8.1 hn (z := z) (z' := 13) (len := L.length) (N := N0) (by omega) (by omega) (by omega) (by omega) (by omega) s8.1 s8.2.1
        have f9' : q_X11_copies K g8 n 159 (ni z) 13 = some g9 := f9
        have fq9 := CPR.fq c9 cp
        have s9 : setR g9 13 L N0 := setR_cp (by omega) (by omega) (by omega) (by omega) cp s8
        have e159 : g9 159 = g8 159 := cp.1 159 (by omega)
        have t9 := t8.fq fq9 (fI_c e159 27)
        have hge : 5 ≤ nx b N (nx b N (sk b N 0)) := by
          have h1 := congrArg List.length ((isW_seg k6.le.1).mp q).2
          rw [seg_len] at h1
          have h1 : tee b N (sk b N 0) - sk b N 0 = 5 := h1
          have h2 := sk_ge (b := b) (N := N) (tee b N (sk b N 0))
          have h3 := nx_ge (b := b) (N := N) (nx b N (sk b N 0))
          have h4 : nx b N (sk b N 0) = sk b N (tee b N (sk b N 0)) := rfl
          omega
        rw [if_neg (ni_n1 (by omega)), gq_159 l8.1 hn, Option.bind_some, f9', Option.bind_some, g_159_32 c9 hn, Option.bind_some, Option.bind_some, ge_178 c9 hn, if_pos i13, t13, s9.1, Option.bind_some]
        obtain ⟨v, g', f, r1, r2, r3⟩ := z_reE (K := K) (n := n) (b := b) (N := N) hK3 hn (L := L) hL (N0 := N0) (s0 := 5) (by omega) c9 t9 (am := true) (fun z => by cases z) (τ := .inr (nx b N (nx b N (sk b N 0)))) (fun s e => by cases e; exact ⟨(y1 y).ml (fI_c e159 28), hge⟩) (fun p e => by cases e) s9.1 s9.2.1 (fun j st e => s9.2.2 j st e)
        exact fin (fx8.trans fq9.fx) ((fI_c e159 26).trans d26) f r1 r2 r3 (Nat.le_refl _) eT
    · have es : sgS b N 59 (.inr (nx b N (sk b N 0))) = .inl (nx b N (sk b N 0)) := if_neg y
      rw [es] at eT
      rw [if_neg y, if_pos rfl]
      obtain ⟨v, g', f, r1, r2, r3⟩ := z_reE (K := K) (n := n) (b := b) (N := N) hK3 hn (L := []) (by simp) (N0 := 0) (s0 := 0) (by omega) l8.1 t8 (am := true) (fun _ => rfl) (τ := .inl (nx b N (sk b N 0))) (fun s e => by cases e) (fun p e => by cases e; exact (y2 y).1) d178 d181 (fun j st e => by cases e)
      exact fin (M := []) fx8 d26 f r1 r2 r3 (Nat.zero_le _) eT
  · have qa : ¬ amS b N = true := q
    have qa' : amS b N = false := by
      cases hh : amS b N with
      | true => exact absurd hh qa
      | false => rfl
    have eb : begS b N = .inr (sk b N 0) := if_neg qa
    have eL : amL b N L = [] := if_neg qa
    rw [qa', eb, eL] at eT
    rw [if_neg q, if_pos rfl, if_pos rfl]
    obtain ⟨v, g', f, r1, r2, r3⟩ := z_reE (K := K) (n := n) (b := b) (N := N) hK3 hn (L := []) (by simp) (N0 := 0) (s0 := 0) (by omega) l7.1 t7 (am := false) (fun _ => rfl) (τ := .inr (sk b N 0)) (fun s e => by cases e; exact ⟨(z2 q).1, Nat.zero_le _⟩) (fun p e => by cases e) b178 b181 (fun j st e => by cases e)
    exact fin fx7 b26 f r1 r2 r3 (Nat.zero_le _) eT
end READSM

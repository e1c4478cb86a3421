/-! ===== the model reads a text ===== -/
section TEXTM
variable {K n : Nat} {b : Nat → Nat} {N : Nat}
/-- a text's end, the model's -/
def reE (K n : Nat) (base right am : Int32) (g : mm_H) : Option (Int32 × mm_H) := (lp_X11_reads_116 K n 159 base right am K 0 g).bind fun v44 => (ckq v44 n 159 10).bind fun _ => (q_X11_blanks K v44 n 159).bind fun v48 => (lp_X11_reads_145 K n 159 base am K right 0 v48).bind fun v82 => if v82.1 = 0 then (rdI v82.2 n 159 10 28).bind fun v84 => (wrF v82.2 n 159 10 30 (.int v84)).bind fun h86 => if v82.1 = 0 then (ckz v82.1).bind fun _ => some (v82.1, h86) else (ckq h86 n 159 10).bind fun _ => (q_X11_closes K h86 n 159 base).bind fun v92 => (ckz v82.1).bind fun _ => some (v82.1, v92) else (wrF v82.2 n 159 10 30 (.int (-1))).bind fun h96 => if v82.1 = 0 then (ckz v82.1).bind fun _ => some (v82.1, h96) else (ckq h96 n 159 10).bind fun _ => (q_X11_closes K h96 n 159 base).bind fun v102 => (ckz v82.1).bind fun _ => some (v82.1, v102)
def rtS : RSt → Int32
  | .inl _ => 0
  | .inr _ => 1
theorem FQ.id_ {h : mm_H} (c : PS h) : FQ h h := (ML.id_ c).fq
theorem FQ.p30 {h g : mm_H} (f : FQ h g) (x : Int32) : FQ h (mm_sf g 159 30 (.int x)) := f.trans ⟨ps_159_30 f.1 _, fun a h1 _ _ _ => mm_sf_n h1, fun k hk => ⟨fI_sf_o (by omega) _, fJ_sf_o (by omega) _, fR_sf_o (by omega) _⟩, fun i _ => ⟨by rw [iA_sf], by rw [iA_sf]⟩, fun a _ _ i _ => by rw [iA_sf], fun a _ _ i _ => by rw [iA_sf]⟩
theorem z_reE (hK : 3000 ≤ K) (hn : 208 ≤ n) {L : List Stm} (hL : L.length ≤ 270) {N0 s0 : Nat} (hN0 : 5 * N0 ≤ 4 * s0 + 28790) {g : mm_H} (c : PS g) (t : TM b N g) {am : Bool} (hA : am = false → L = []) {τ : RSt} (k : ∀ s, τ = .inr s → Mk b N g (.inr s) ∧ s0 ≤ s) (kl : ∀ p, τ = .inl p → Mk b N g (.inr p)) (e178 : iA g 178 13 = ni L.length) (e181 : iA g 181 13 = ni N0) (rL : ∀ j st, L[j]? = some st → rowR g 84500 (84500 + N0) (3900 + j) st) : ∃ v g', reE K n (ni L.length) (rtS τ) (if am = true then 1 else 0) g = some (v, g') ∧ FQ g g' ∧ (∀ p, fltS N (rdS b N am L.length 30 (τ, [], fun _ => false)).1 = some p → v = 0 ∧ p ≤ N ∧ fI g' 159 30 = ni p) ∧ (fltS N (rdS b N am L.length 30 (τ, [], fun _ => false)).1 = none → v = 1 ∧ fI g' 159 30 = -1 ∧ ∃ m, m ≤ N0 + 720 ∧ setR g' 13 (kptS (rdS b N am L.length 30 (τ, [], fun _ => false)).2.2 L 0 ++ (rdS b N am L.length 30 (τ, [], fun _ => false)).2.1) m) := by
  have N9 := t.2.1
  obtain ⟨g1, f1, c1, o1, e197⟩ := z_clear (K := K) (n := n) hn (ni L.length) (rtS τ) (if am = true then 1 else 0) 300 0 K g rfl (by omega) c (fun j hj => by omega)
  have f1' : lp_X11_reads_116 K n 159 (ni L.length) (rtS τ) (if am = true then 1 else 0) K 0 g = some g1 := f1
  have fr1 : FQ g g1 := ⟨c1, fun a h1 h2 h3 h4 => o1 a (by omega), fun k _ => ⟨fI_c (o1 159 (by decide)) k, fJ_c (o1 159 (by decide)) k, fR_c (o1 159 (by decide)) k⟩, fun i _ => ⟨by rw [iA_c (o1 178 (by decide))], by rw [iA_c (o1 181 (by decide))]⟩, fun a h1 h2 i _ => by rw [iA_c (o1 a (by omega))], fun a h1 h2 i _ => by rw [iA_c (o1 a (by omega))]⟩
  have t1 : TM b N g1 := t.fq fr1 (fI_c (o1 159 (by decide)) 27)
  have bl : ∃ g2, q_X11_blanks K g1 n 159 = some g2 ∧ ML g1 g2 ∧ (∀ s, τ = .inr s → fI g2 159 28 = ni s) ∧ Mk b N g2 τ := by
    cases τ with
    | inl p =>
      have k1 : Mk b N g1 (.inr p) := (kl p rfl).ml (fI_c (o1 159 (by decide)) 28)
      obtain ⟨g2, f2, l2, a28⟩ := z_blanks hK c1 hn t1 k1
      exact ⟨g2, f2, l2, (fun s z => by cases z), k1.le.1, a28⟩
    | inr s =>
      have k1 : Mk b N g1 (.inr s) := (k s rfl).1.ml (fI_c (o1 159 (by decide)) 28)
      obtain ⟨g2, f2, l2, a28⟩ := z_blanks hK c1 hn t1 k1
      exact ⟨g2, f2, l2, (fun s' z => by cases z; exact a28), Mk.at_ k1.le.1 k1.le.2 a28⟩
  obtain ⟨g2, f2, l2, a28, mk2⟩ := bl
  have o2 : ∀ a, a ≠ 159 → iA g2 a = iA g1 a := fun a ha => iA_c (l2.2.1 a ha)
  have I : MI b N L N0 s0 g 0 (τ, [], fun _ => false) g2 := by
    refine ⟨fr1.trans l2.fq, (l2.2.2 27 (by decide) (by decide) (by decide)).1.trans (fI_c (o1 159 (by decide)) 27), mk2, fun s e => ⟨a28 s e, ?_, Nat.le_refl 0, ⟨N0, ?_, ?_, Nat.le_refl _, fun j st ej => ?_, fun j st ej => by cases ej⟩, fun v hv => ?_⟩⟩
    · rw [o2 178 (by decide), iA_c (o1 178 (by decide))]; exact e178
    · rw [o2 181 (by decide), iA_c (o1 181 (by decide))]; exact e181
    · have e' : τ = .inr s := e
      have := (k s e').2
      omega
    · exact rowR_ag (fun a h1 h2 => by rw [o2 a (by omega), iA_c (o1 a (by omega))]) (fun a h1 h2 i _ _ => by rw [o2 a (by omega), iA_c (o1 a (by omega))]) (Nat.le_refl _) (rL j st ej)
    · rw [o2 197 (by decide), e197 v hv]; rfl
  obtain ⟨v, g3, f3, fr3, f27, y1, y2⟩ := z_lp145 (K := K) (n := n) (b := b) (N := N) hK hn hL hN0 t hA 30 0 K (τ, [], fun _ => false) g2 rfl (by omega) I
  have f3' : lp_X11_reads_145 K n 159 (ni L.length) (if am = true then 1 else 0) K (rtS τ) 0 g2 = some (v, g3) := by
    cases τ with
    | inl p => exact f3
    | inr s => exact f3
  unfold reE
  rw [f1', Option.bind_some, gq_159 c1 hn, Option.bind_some, f2, Option.bind_some, f3', Option.bind_some]
  have XX := XI.all (b := b) (N := N) N9 (am := am) (base := L.length) (L := L) 30 0 (τ, [], fun _ => false) rfl ⟨Nat.le_refl 0, (fun s q => nomatch q), fun _ _ => rfl⟩
  generalize rdS b N am L.length 30 (τ, [], fun _ => false) = x at *
  cases ef : fltS N x.1 with
  | some p =>
    obtain ⟨rfl, hp, e28⟩ := y2 p ef
    rw [if_pos rfl, g_159_28 fr3.1 hn, e28, Option.bind_some, p_159_30 fr3.1 hn, Option.bind_some, if_pos rfl]
    exact ⟨0, _, rfl, fr3.p30 _, (fun q z => by cases z; exact ⟨rfl, hp, fs_159_30 fr3.1 _⟩), fun z => by cases z⟩
  | none =>
    obtain ⟨rfl, I3⟩ := y1 ef
    have xs : ∃ s, x.1 = .inr s := by
      cases e : x.1 with
      | inl p => rw [e] at ef; cases ef
      | inr s => exact ⟨s, rfl⟩
    obtain ⟨s, es⟩ := xs
    obtain ⟨-, b178, hM, ⟨m, b181, bu, -, b1, b2⟩, b197⟩ := I3.2.2.2 s es
    have hsN : s ≤ N := by
      have := I3.2.2.1
      rw [es] at this
      exact this.le.1
    have c4 : PS (mm_sf g3 159 30 (.int (-1))) := ps_159_30 fr3.1 _
    obtain ⟨g5, f5, c5, o5, i5, d5, w5, r5⟩ := z_closes (K := K) (n := n) hK hn hL hM (hi := 84500 + m) (S := x.2.2) XX.2.2 c4 (by rw [iA_sf]; exact b178) (fun v hv => by rw [iA_sf]; exact b197 v hv) (fun j st ej => rowR_ag (fun a _ _ => by rw [iA_sf]) (fun a _ _ i _ _ => by rw [iA_sf]) (Nat.le_refl _) (b1 j st ej)) (fun j st ej => rowR_ag (fun a _ _ => by rw [iA_sf]) (fun a _ _ i _ _ => by rw [iA_sf]) (Nat.le_refl _) (b2 j st ej))
    rw [if_neg (show ¬ (1 : Int32) = 0 by decide), p_159_30 fr3.1 hn, Option.bind_some, if_neg (show ¬ (1 : Int32) = 0 by decide), gq_159 c4 hn, Option.bind_some, f5, Option.bind_some]
    have e159 : g5 159 = mm_sf g3 159 30 (.int (-1)) 159 := o5 159 (by decide) (by omega)
    refine ⟨1, g5, rfl, (fr3.p30 (-1)).trans ⟨c5, fun a h1 h2 h3 h4 => o5 a h2 (by omega), fun k _ => ⟨fI_c e159 k, fJ_c e159 k, fR_c e159 k⟩, fun i hi => ⟨i5 i hi, by rw [iA_c (o5 181 (by decide) (by omega))]⟩, fun a h1 h2 i hi => w5 a h1 h2 i hi, fun a h1 h2 i _ => by rw [iA_c (o5 a (by omega) (by omega))]⟩, (fun q z => by cases z), fun _ => ⟨rfl, by rw [fI_c e159]; exact fs_159_30 fr3.1 _, m, by omega, d5, ?_, fun j st ej => r5 j st ej⟩⟩
    rw [iA_c (o5 181 (by decide) (by omega)), iA_sf]
    exact b181
end TEXTM

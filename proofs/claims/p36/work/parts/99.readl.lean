/-! ===== the class reads statement after statement ===== -/
section READL
variable {K : Nat} {b : Nat → Nat} {N : Nat}
theorem ruleC_up {g f : mm_H} {n m p : Nat} {s : Stm} (r : ruleC g n p s) (hm : n ≤ m) (o : ∀ a, 159 ≤ a → a < n → f a = g a) : ruleC f m p s := by
  obtain ⟨h1, h2, u, e, t⟩ := r
  refine ⟨h1, by omega, u, (o p h1 h2).trans e, ?_⟩
  rcases t with t | ⟨t1, t2, t3, w, t4, t5⟩
  · exact Or.inl t
  · exact Or.inr ⟨t1, t2, by omega, w, (o u t2 t3).trans t4, t5⟩
/-- the class under way through a text: at heap g, n; since h, n0 -/
def LI (b : Nat → Nat) (N : Nat) (L : List Stm) (n0 : Nat) (h : mm_H) (i : Nat) (x : X3S) (g : mm_H) (n : Nat) : Prop := PS g ∧ n0 ≤ n ∧ n ≤ n0 + 2 * i ∧ (∀ a, a < n0 → a ≠ 151 → a ≠ 152 → a ≠ 153 → a ≠ 154 → g a = h a) ∧ (∀ j, j < 2 → fI g 151 j = fI h 151 j ∧ fR g 151 j = fR h 151 j) ∧ Tk b N g x.1 ∧ (∃ c : Nat, fI g 151 7 = ni c ∧ (kptS x.2.2 L 0).length + c = L.length) ∧ (∀ v, v < 270 → iA g 152 v = if x.2.2 v = true then 1 else 0) ∧ fI g 151 9 = ni x.2.1.length ∧ x.2.1.length ≤ i ∧ ∀ j s, x.2.1[j]? = some s → ∃ r, rA g 153 j = some r ∧ ruleC g n r s
theorem z_one (hK : 3000 ≤ K) {n0 : Nat} {h : mm_H} (hn0 : 159 ≤ n0) (hn9 : n0 + 200 < 1000000) (T : TXT h) (t : TX b N h) {L : List Stm} (hL : L.length ≤ 270) {l : Option Nat} (B : baC h n0 l L) {am : Bool} (hA : am = false → L = []) {i : Nat} (hi : i < 30) {x : X3S} {g : mm_H} {n : Nat} (I : LI b N L n0 h i x g n) : ∃ g' n', (if (if am = true then (1 : Int32) else 0) = 0 then (q_X3_rule K g n 151).bind fun (h35, n36) => some (h35, n36) else (q_X3_isWord K g n 151 (some 4)).bind fun v42 => if v42 = 0 then (q_X3_rule K g n 151).bind fun (h46, n47) => some (h46, n47) else (q_X3_strike K g n 151 l).bind fun v53 => some (v53, n)) = some (g', n') ∧ LI b N L n0 h (i + 1) (oneS b N am L.length x) g' n' := by
  obtain ⟨c, i1, i2, i3, i4, i5, ⟨cc, i6, i7⟩, i8, i9, i10, i11⟩ := id I
  have hn : 159 ≤ n := by omega
  have Tg : TXT g := fun j hj => by
    rw [i3 (18 + j) (by omega) (by omega) (by omega) (by omega) (by omega)]
    exact T j hj
  have tg : TX b N g := by
    obtain ⟨t1, t2, t3, t4⟩ := t
    exact ⟨(i4 0 (by omega)).2.trans t1, (i4 1 (by omega)).1.trans t2, t3, fun j hj => by rw [iA_c (i3 155 (by omega) (by decide) (by decide) (by decide) (by decide))]; exact t4 j hj⟩
  have n10 : ¬ (1 : Int32) = 0 := by decide
  -- a rule
  have rule : ∃ g' n', (q_X3_rule K g n 151).bind (fun (h35, n36) => some (h35, n36)) = some (g', n') ∧ LI b N L n0 h (i + 1) ((ruleS b N x.1).2, addS x.2.1 (vK (ruleS b N x.1).1.1 (ruleS b N x.1).1.2.1 (ruleS b N x.1).1.2.2) (ruleS b N x.1).2, x.2.2) g' n' := by
    obtain ⟨g', n', e, ⟨r1, r2, r3⟩, k, a, d, e1, e2⟩ := z_rule hK c hn (by omega) Tg tg i5 i9 (show x.2.1.length < 30 by omega)
    have up : ∀ r s, ruleC g n r s → ruleC g' n' r s := fun r s q => ruleC_up q (by omega) (fun a h1 h2 => r2 a h2 (by omega) (by omega) (by omega))
    refine ⟨g', n', by rw [e]; rfl, r1, by omega, by omega, fun a h1 h2 h3 h4 h5 => (r2 a (by omega) h2 h4 h5).trans (i3 a h1 h2 h3 h4 h5), fun j hj => ⟨(r3 j (by omega)).1.trans (i4 j hj).1, (r3 j (by omega)).2.trans (i4 j hj).2⟩, k, ⟨cc, (r3 7 (by omega)).1.trans i6, i7⟩, fun v hv => by rw [iA_c (r2 152 (by omega) (by decide) (by decide) (by decide))]; exact i8 v hv, ?_⟩
    cases es : (ruleS b N x.1).2 with
    | inl p =>
      obtain ⟨d1, d2⟩ := d p es
      refine ⟨d1, Nat.le_succ_of_le i10, fun j s q => ?_⟩
      obtain ⟨r, q1, q2⟩ := i11 j s q
      exact ⟨r, by rw [d2]; exact q1, up r s q2⟩
    | inr s' =>
      obtain ⟨⟨u, a1, a2⟩, a3, a4⟩ := a s' es
      obtain ⟨-, -, -, -, -, -, -, -, ok, eT, eV⟩ := ruleS_ok t.2.2.1 es
      have el : (addS x.2.1 (vK (ruleS b N x.1).1.1 (ruleS b N x.1).1.2.1 (ruleS b N x.1).1.2.2) (.inr s')).length = x.2.1.length + 1 := by
        show (x.2.1 ++ [_]).length = _
        rw [List.length_append, List.length_singleton]
      refine ⟨by rw [a3, el], by rw [el]; omega, fun j s q => ?_⟩
      have q' : (x.2.1 ++ [vK (ruleS b N x.1).1.1 (ruleS b N x.1).1.2.1 (ruleS b N x.1).1.2.2])[j]? = some s := q
      by_cases hj : j < x.2.1.length
      · rw [List.getElem?_append_left hj] at q'
        obtain ⟨r, q1, q2⟩ := i11 j s q'
        exact ⟨r, by rw [a4, va_up_ne _ _ (by omega)]; exact q1, up r s q2⟩
      · rw [List.getElem?_append_right (by omega)] at q'
        have h2 := (List.getElem?_eq_some_iff.mp q').1
        rw [List.length_singleton] at h2
        have h3 : j = x.2.1.length := by omega
        subst h3
        rw [Nat.sub_self] at q'
        cases q'
        refine ⟨n, by rw [a4, va_up_self], hn, by omega, u, by rw [a1, eV u], ?_⟩
        rw [eT]
        exact a2
  unfold oneS
  cases am with
  | false =>
    rw [if_pos (show (if false = true then (1 : Int32) else 0) = 0 from rfl), if_neg (fun z => nomatch z.1)]
    exact rule
  | true =>
    rw [if_neg (show ¬ (if true = true then (1 : Int32) else 0) = 0 from n10)]
    have iw : q_X3_isWord K g n 151 (some 4) = some (if isWS b N wStk x.1 = true then 1 else 0) := z_isWord hK c hn Tg tg (i := 1) (by omega) wds_stk i5
    rw [iw, Option.bind_some]
    by_cases q : isWS b N wStk x.1 = true
    · rw [if_neg (by rw [if_pos q]; exact n10), if_pos ⟨rfl, q⟩]
      have Bg : baC g n l L := by
        rcases B with B | ⟨p, y, z, e, h1, h2, qq, f, e1, h3, h4, e2, e3⟩
        · exact Or.inl B
        · refine Or.inr ⟨p, y, z, e, h1, by omega, qq, f, (i3 p h2 (by omega) (by omega) (by omega) (by omega)).trans e1, h3, by omega, (i3 qq h4 (by omega) (by omega) (by omega) (by omega)).trans e2, fun j s ej => ?_⟩
          obtain ⟨r, e4, e5⟩ := e3 j s ej
          exact ⟨r, e4, ruleC_up e5 i1 (fun a h1 h2 => i3 a h2 (by omega) (by omega) (by omega) (by omega))⟩
      obtain ⟨g', e, ⟨r1, r2, r3⟩, k, a, d⟩ := z_strike (l := l) hK c hn tg i5 q Bg hL i8
      have up : ∀ r s, ruleC g n r s → ruleC g' n r s := fun r s q => ruleC_up q (Nat.le_refl _) (fun a h1 h2 => r2 a (by omega) (by omega))
      have stk : ∀ s', x.1 = .inr s' → True := fun _ _ => trivial
      refine ⟨g', n, by rw [e]; rfl, r1, i1, by omega, fun a h1 h2 h3 h4 h5 => (r2 a h2 h3).trans (i3 a h1 h2 h3 h4 h5), fun j hj => ⟨(r3 j (by omega)).1.trans (i4 j hj).1, (r3 j (by omega)).2.trans (i4 j hj).2⟩, k, ?_, ?_, (r3 9 (by omega)).1.trans i9, Nat.le_succ_of_le i10, fun j s ej => ?_⟩
      · cases er : (stkS b N L.length x.2.2 x.1).1 with
        | none => exact ⟨cc, (a er).1.trans i6, i7⟩
        | some v =>
          have hv : v < L.length ∧ x.2.2 v = false := by
            unfold stkS at er
            split at er
            · cases er
            · split at er
              · rename_i q
                cases er
                exact q.2.2
              · cases er
          have := kptS_one hv.2 L 0 (Nat.zero_le _) (by omega)
          exact ⟨cc + 1, by rw [(d v er).1, i6, ni_1], by show (kptS (upS x.2.2 (some v)) L 0).length + (cc + 1) = L.length; omega⟩
      · intro v hv
        show iA g' 152 v = if upS x.2.2 (stkS b N L.length x.2.2 x.1).1 v = true then 1 else 0
        cases er : (stkS b N L.length x.2.2 x.1).1 with
        | none => rw [(a er).2]; exact i8 v hv
        | some w =>
          rw [(d w er).2]
          show upd (iA g 152) w 1 v = if (if v = w then true else x.2.2 v) = true then 1 else 0
          by_cases z : v = w
          · subst z
            rw [upd_s, if_pos rfl, if_pos rfl]
          · rw [upd_n z, if_neg z]
            exact i8 v hv
      · obtain ⟨r, q1, q2⟩ := i11 j s ej
        exact ⟨r, by rw [rA_c (r2 153 (by decide) (by decide))]; exact q1, up r s q2⟩
    · rw [if_pos (if_neg q), if_neg (fun z => q z.2)]
      exact rule
end READL

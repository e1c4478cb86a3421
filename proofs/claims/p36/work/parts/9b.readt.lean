/-! ===== the class reads a text ===== -/
section READT
variable {K : Nat} {b : Nat → Nat} {N : Nat}
theorem z_tog (hK : 3000 ≤ K) {n : Nat} {h : mm_H} (c : PS h) (hn : 159 ≤ n) (hn9 : n + 5 < 1000000) {L M : List Stm} (hL : L.length ≤ 270) {l : Option Nat} (B : baC h n l L) {S : Nat → Bool} {cc : Nat} (e7 : fI h 151 7 = ni cc) (h7 : (kptS S L 0).length + cc = L.length) (eS : ∀ v, v < 270 → iA h 152 v = if S v = true then 1 else 0) (e9 : fI h 151 9 = ni M.length) (hM : M.length ≤ 30) (eM : ∀ j s, M[j]? = some s → ∃ r, rA h 153 j = some r ∧ ruleC h n r s) : ∃ g, q_X3_together K h n 151 l = some (some n, g, n + 2) ∧ PS g ∧ (∀ a, a < n → g a = h a) ∧ bookC g (n + 2) n (kptS S L 0 ++ M) 0 0 := by
  have hn1 : 159 ≤ n + 1 := by omega
  have hl : (kptS S L 0 ++ M).length = (kptS S L 0).length + M.length := List.length_append
  have hk := kptS_len S L 0
  -- the new set
  have nO : newO h n 6 [.null, .int 0, .int 0, .int 0] = some (mm_up h n (.inr (6, [.null, .int 0, .int 0, .int 0]))) := if_pos (by omega)
  have c1 : PS (mm_up h n (.inr (6, [.null, .int 0, .int 0, .int 0]))) := c.top hn _
  have o1 : ∀ a, a < n → mm_up h n (.inr (6, [.null, .int 0, .int 0, .int 0])) a = h a := fun a ha => mm_up_n (by omega)
  have a7 : rdI (mm_up h n (.inr (6, [.null, .int 0, .int 0, .int 0]))) (n + 1) 151 3 7 = some (ni cc) := by rw [g_151_7 c1 hn1, fI_c (o1 151 (by omega)), e7]
  have a9 : rdI (mm_up h n (.inr (6, [.null, .int 0, .int 0, .int 0]))) (n + 1) 151 3 9 = some (ni M.length) := by rw [g_151_9 c1 hn1, fI_c (o1 151 (by omega)), e9]
  have ini : ∀ x : Int32, x = ni (kptS S L 0 ++ M).length → ∃ g, q_X6_init K (mm_up h n (.inr (6, [.null, .int 0, .int 0, .int 0]))) (n + 1) n x = some (g, n + 2) ∧ BK n (kptS S L 0 ++ M).length h g [] := fun x hx => by
    have ex : i_max 0 x = ni (kptS S L 0 ++ M).length := by
      rw [hx]
      unfold i_max
      by_cases z : (ni (kptS S L 0 ++ M).length) < 0
      · exact absurd z (ni_pos (by omega))
      · first
          | rw [if_neg z]
          | (by_cases w : (0 : Int32) < ni (kptS S L 0 ++ M).length
             · rw [if_pos w]
             · rw [if_neg w]
               have h0 : ¬ 0 < (kptS S L 0 ++ M).length := fun y => w ((ni_lt (a := 0) (by omega) (by omega)).mpr y)
               rw [show (kptS S L 0 ++ M).length = 0 by omega]
               rfl)
    have nA : newA (mm_up h n (.inr (6, [.null, .int 0, .int 0, .int 0]))) (n + 1) (.object "WaterReview$Rule") 300 (ni (kptS S L 0 ++ M).length) = some (mm_up (mm_up h n (.inr (6, [.null, .int 0, .int 0, .int 0]))) (n + 1) (.inl (.object "WaterReview$Rule", (kptS S L 0 ++ M).length, .inr (.inr (.inr (.inr (fun _ => none))))))) := by
      unfold newA
      rw [ni_tn (by omega), if_pos ⟨ni_pos (by omega), by omega⟩]
    have e1 : mm_up (mm_up h n (.inr (6, [.null, .int 0, .int 0, .int 0]))) (n + 1) (.inl (.object "WaterReview$Rule", (kptS S L 0 ++ M).length, .inr (.inr (.inr (.inr (fun _ => none)))))) n = .inr (6, [.null, .int 0, .int 0, .int 0]) := (mm_up_n (by omega)).trans mm_up_s
    have w := wrF_o (m := n + 1 + 1) (k := 0) (.ref (n + 1)) ⟨by omega, by omega⟩ e1 (by decide : 0 < 4)
    refine ⟨mm_up (mm_up (mm_up h n (.inr (6, [.null, .int 0, .int 0, .int 0]))) (n + 1) (.inl (.object "WaterReview$Rule", (kptS S L 0 ++ M).length, .inr (.inr (.inr (.inr (fun _ => none))))))) n (.inr (6, [.ref (n + 1), .int 0, .int 0, .int 0])), ?_, ((c1.top hn1 _).top hn _), fun a ha => ?_, mm_up_s, fun _ => none, ?_, fun i s e => by cases e⟩
    · unfold q_X6_init
      rw [ex, nA, Option.bind_some, w, Option.bind_some]
      rfl
    · rw [mm_up_n (by omega), mm_up_n (by omega)]
      exact o1 a ha
    · rw [mm_up_n (by omega), mm_up_s]
  have fin : ∀ g, BK n (kptS S L 0 ++ M).length h g (kptS S L 0 ++ M) → PS g ∧ (∀ a, a < n → g a = h a) ∧ bookC g (n + 2) n (kptS S L 0 ++ M) 0 0 := fun g I => by
    obtain ⟨i1, i2, i3, f, i4, i5⟩ := I
    refine ⟨i1, i2, hn, by omega, n + 1, f, i3, hn1, by omega, i4, fun j s e => ?_⟩
    obtain ⟨r, e1, e2⟩ := i5 j s e
    exact ⟨r, e1, ruleC_up e2 (by omega) (fun a _ h2 => i2 a h2)⟩
  have lp8 : ∀ g, BK n (kptS S L 0 ++ M).length h g (kptS S L 0) → ∃ g', lp_X3_together_80 K (n + 2) 151 n K 0 g = some g' ∧ BK n (kptS S L 0 ++ M).length h g' (kptS S L 0 ++ M) := fun g I => z_tg80 (K := K) hn (by omega) hM e9 eM M 0 K g (kptS S L 0) (fun j s e => by rw [Nat.zero_add]; exact e) (by omega) (by omega) (by omega) I
  rcases id B with ⟨rfl, rfl⟩ | ⟨p, x, y, rfl, bc⟩
  · have hcc : cc = 0 := by simp only [List.length_nil] at h7; omega
    subst hcc
    obtain ⟨g1, f1, I1⟩ := ini ((0 - ni 0) + ni M.length) (by
      show (0 - 0) + ni M.length = ni ([] ++ M).length
      rw [List.nil_append, show (0 : Int32) - 0 = ni 0 from rfl, ni_add, Nat.zero_add])
    obtain ⟨g2, f2, I2⟩ := z_tg35 (K := K) hn (show (kptS S [] 0 ++ M).length ≤ 300 by omega) (L := []) (by simp) (l := none) (Or.inl ⟨rfl, rfl⟩) eS [] 0 K g1 [] (fun j s e => by cases e) rfl (by simp only [List.length_nil]; omega) (Nat.zero_le _) I1
    obtain ⟨g3, f3, I3⟩ := lp8 g2 I2
    refine ⟨g3, ?_, fin g3 I3⟩
    have f2' : lp_X3_together_35 K (n + 2) 151 none 0 n K 0 g1 = some g2 := f2
    unfold q_X3_together
    simp only [nO, Option.bind_some, a7, a9, f1, f2', f3]
  · have bc' := bc
    obtain ⟨h1, h2, qq, f, e1, -⟩ := bc'
    have r1 : rdI h n p 6 1 = some (ni L.length) := rdI_o ⟨by omega, h2⟩ e1 rfl
    obtain ⟨g1, f1, I1⟩ := ini ((ni L.length - ni cc) + ni M.length) (by rw [ni_sub (by omega), ni_add, hl]; congr 1; omega)
    obtain ⟨g2, f2, I2⟩ := z_tg35 (K := K) hn (show (kptS S L 0 ++ M).length ≤ 300 by omega) hL B eS L 0 K g1 [] (fun j s e => by rw [Nat.zero_add]; exact e) (by omega) (by omega) (by simp only [List.length_nil]; omega) I1
    obtain ⟨g3, f3, I3⟩ := lp8 g2 I2
    refine ⟨g3, ?_, fin g3 I3⟩
    have f2' : lp_X3_together_35 K (n + 2) 151 (some p) (ni L.length) n K 0 g1 = some g2 := f2
    unfold q_X3_together
    simp only [r1, nO, Option.bind_some, a7, a9, f1, f2', f3]
/-- a text's end -/
def enC (K : Nat) (l : Option Nat) (v : mm_H × Nat) : Option (Option Nat × mm_H × Nat) := (rdI v.1 v.2 151 3 2).bind fun v58 => if v58 = 0 then (rdI v.1 v.2 151 3 5).bind fun v60 => if v60 = (-1) then (ckq v.1 v.2 151 3).bind fun _ => (q_X3_together K v.1 v.2 151 l).bind fun (v66, h64, n65) => some (v66, h64, n65) else some (none, v.1, v.2) else (ckq v.1 v.2 151 3).bind fun _ => (q_X3_fail K v.1 v.2 151).bind fun v71 => (rdI v71 v.2 151 3 5).bind fun v73 => if v73 = (-1) then (ckq v71 v.2 151 3).bind fun _ => (q_X3_together K v71 v.2 151 l).bind fun (v79, h77, n78) => some (v79, h77, n78) else some (none, v71, v.2)
def RD (n : Nat) (h g : mm_H) (m : Nat) (r : Option Nat) (res : Nat ⊕ List Stm) : Prop := PS g ∧ n ≤ m ∧ m ≤ n + 62 ∧ (∀ a, a < n → a ≠ 151 → a ≠ 152 → a ≠ 153 → a ≠ 154 → g a = h a) ∧ (∀ p, res = .inl p → p ≤ N ∧ r = none ∧ fI g 151 5 = ni p) ∧ ∀ L', res = .inr L' → fI g 151 5 = -1 ∧ ∃ p, r = some p ∧ n ≤ p ∧ bookC g m p L' 0 0
theorem z_enC (hK : 3000 ≤ K) {n0 : Nat} {h : mm_H} (hn0 : 159 ≤ n0) (hn9 : n0 + 200 < 1000000) (t : TX b N h) {L : List Stm} (hL : L.length ≤ 270) {l : Option Nat} (B : baC h n0 l L) {x : X3S} {g : mm_H} {n : Nat} (I : LI b N L n0 h 30 x g n) : ∃ g' m r, enC K l (g, n) = some (r, g', m) ∧ RD (N := N) n0 h g' m r (match fltS N x.1 with | some p => .inl p | none => .inr (kptS x.2.2 L 0 ++ x.2.1)) := by
  obtain ⟨c, i1, i2, i3, i4, i5, ⟨cc, i6, i7⟩, i8, i9, i10, i11⟩ := id I
  have N9 := t.2.2.1
  have hn : 159 ≤ n := by omega
  have tg : TX b N g := by
    obtain ⟨t1, t2, t3, t4⟩ := t
    exact ⟨(i4 0 (by omega)).2.trans t1, (i4 1 (by omega)).1.trans t2, t3, fun j hj => by rw [iA_c (i3 155 (by omega) (by decide) (by decide) (by decide) (by decide))]; exact t4 j hj⟩
  unfold enC
  rcases x with ⟨σ, M, S⟩
  cases σ with
  | inl p =>
    have k' : Tk b N g (.inl p) := i5
    obtain ⟨g1, f1, l1, k1⟩ := z_fail (K := K) c hn tg i5
    have k1' : Tk b N g1 (.inl p) := k1
    refine ⟨g1, n, none, ?_, l1.1, i1, by omega, fun a h1 h2 h3 h4 h5 => (l1.2.1 a h2).trans (i3 a h1 h2 h3 h4 h5), fun p' e => ?_, fun L' e => ?_⟩
    · dsimp only
      rw [g_151_2 c hn, k'.2.1, Option.bind_some, if_neg (by decide), gq_151 c hn, Option.bind_some, f1, Option.bind_some, g_151_5 l1.1 hn, k1'.2.2, Option.bind_some, if_neg (ni_n1 (by have := k'.1; omega))]
    · have e' : (Sum.inl p : Nat ⊕ List Stm) = .inl p' := e
      cases e'
      exact ⟨k'.1, rfl, k1'.2.2⟩
    · have e' : (Sum.inl p : Nat ⊕ List Stm) = .inr L' := e
      cases e'
  | inr s =>
    have k' : Tk b N g (.inr s) := i5
    by_cases q : s = N
    · have ef : fltS N (.inr s) = none := if_pos q
      have Bg : baC g n l L := by
        rcases B with B | ⟨p, y, z, e, bc⟩
        · exact Or.inl B
        · exact Or.inr ⟨p, y, z, e, bookC_up bc i1 (fun a h1 h2 => i3 a h2 (by omega) (by omega) (by omega) (by omega))⟩
      obtain ⟨g1, f1, c1, o1, bc⟩ := z_tog hK c hn (by omega) hL Bg i6 i7 i8 i9 i10 i11
      have tk : ni (tkk b N s) = 0 := by unfold tkk; rw [if_pos (by omega)]; rfl
      refine ⟨g1, n + 2, some n, ?_, c1, by omega, by omega, fun a h1 h2 h3 h4 h5 => (o1 a (by omega)).trans (i3 a h1 h2 h3 h4 h5), fun p' e => ?_, fun L' e => ?_⟩
      · dsimp only
        rw [g_151_2 c hn, k'.2.1, Option.bind_some, if_pos tk, g_151_5 c hn, k'.2.2.2.2, Option.bind_some, if_pos rfl, gq_151 c hn, Option.bind_some, f1]
        rfl
      · dsimp only at e
        rw [ef] at e
        cases e
      · dsimp only at e
        rw [ef] at e
        cases e
        exact ⟨by rw [fI_c (o1 151 (by omega))]; exact k'.2.2.2.2, n, rfl, i1, bc⟩
    · have ef : fltS N (.inr s) = some s := if_neg q
      have hs : s < N := by have := k'.1; omega
      have tk : 1 ≤ tkk b N s ∧ tkk b N s ≤ 5 := by
        unfold tkk
        rw [if_neg (by omega)]
        exact kd_le _
      obtain ⟨g1, f1, l1, k1⟩ := z_fail (K := K) c hn tg i5
      have k1' : Tk b N g1 (.inl s) := k1
      refine ⟨g1, n, none, ?_, l1.1, i1, by omega, fun a h1 h2 h3 h4 h5 => (l1.2.1 a h2).trans (i3 a h1 h2 h3 h4 h5), fun p' e => ?_, fun L' e => ?_⟩
      · dsimp only
        rw [g_151_2 c hn, k'.2.1, Option.bind_some, if_neg (show ¬ ni (tkk b N s) = 0 from fun z => by have := (ni_inj (b := 0) (by omega) (by omega)).mp z; omega), gq_151 c hn, Option.bind_some, f1, Option.bind_some, g_151_5 l1.1 hn, k1'.2.2, Option.bind_some, if_neg (ni_n1 (by omega))]
      · dsimp only at e
        rw [ef] at e
        cases e
        exact ⟨k'.1, rfl, k1'.2.2⟩
      · dsimp only at e
        rw [ef] at e
        cases e
end READT

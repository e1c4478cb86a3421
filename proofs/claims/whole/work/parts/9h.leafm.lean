/-! ===== the model reads a comparison ===== -/
section LEAFM
variable {K n : Nat} {b : Nat → Nat} {N : Nat}
def wAsk : List (List Nat) := [[121, 101, 97, 114], [102, 105, 114, 109], [104, 111, 109, 101, 115], [119, 111, 114, 116, 104], [108, 97, 116, 101]]
theorem wds_ask : wds 14 = wAsk := by decide +kernel
theorem okC_ask : okC [121, 101, 97, 114] 2036687218 ∧ okC [102, 105, 114, 109] 1718186605 ∧ okC [104, 111, 109, 101, 115] 448546039155 ∧ okC [119, 111, 114, 116, 104] 512970880104 ∧ okC [108, 97, 116, 101] 1818326117 := by decide +kernel
theorem z_asked {h : mm_H} {s : Nat} (hs : s ≤ N) (hb : ∀ k, k < N → b k < 256) : q_X11_asked K h n (wdV b N s) = some (opI (pkW b N s (wds 14) 0)) := by
  obtain ⟨o1, o2, o3, o4, o5⟩ := okC_ask
  unfold q_X11_asked
  simp only [lg_cmp_eq, wdV_iff (b := b) (N := N) o1 hs hb, wdV_iff (b := b) (N := N) o2 hs hb, wdV_iff (b := b) (N := N) o3 hs hb, wdV_iff (b := b) (N := N) o4 hs hb, wdV_iff (b := b) (N := N) o5 hs hb]
  rw [wds_ask]
  simp only [wAsk, pkW]
  by_cases q1 : isW b N [121, 101, 97, 114] s = true
  · rw [if_pos q1, if_pos q1]; rfl
  rw [if_neg q1, if_neg q1]
  by_cases q2 : isW b N [102, 105, 114, 109] s = true
  · rw [if_pos q2, if_pos q2]; rfl
  rw [if_neg q2, if_neg q2]
  by_cases q3 : isW b N [104, 111, 109, 101, 115] s = true
  · rw [if_pos q3, if_pos q3]; rfl
  rw [if_neg q3, if_neg q3]
  by_cases q4 : isW b N [119, 111, 114, 116, 104] s = true
  · rw [if_pos q4, if_pos q4]; rfl
  rw [if_neg q4, if_neg q4]
  by_cases q5 : isW b N [108, 97, 116, 101] s = true
  · rw [if_pos q5, if_pos q5]; rfl
  rw [if_neg q5, if_neg q5]
  rfl
theorem ld_nd {h : mm_H} (c : PS h) (hn : 208 ≤ n) {a i : Nat} (ha : 191 ≤ a ∧ a ≤ 196) (hi : i < 91000) : ldI h n a (ni i) = some (iA h a i) := by
  have i9 : inb (ni i) 91000 = true := ni_inb (by omega) hi
  have ti : (ni i).toNatClampNeg = i := ni_tn (by omega)
  rcases (by omega : a = 191 ∨ a = 192 ∨ a = 193 ∨ a = 194 ∨ a = 195 ∨ a = 196) with rfl | rfl | rfl | rfl | rfl | rfl
  · rw [ge_191 c hn, if_pos i9, ti]
  · rw [ge_192 c hn, if_pos i9, ti]
  · rw [ge_193 c hn, if_pos i9, ti]
  · rw [ge_194 c hn, if_pos i9, ti]
  · rw [ge_195 c hn, if_pos i9, ti]
  · rw [ge_196 c hn, if_pos i9, ti]
def lfE (K : Nat) (q x : Int32) (v66 : Option Nat) (g : mm_H) (n : Nat) : Option (Int32 × mm_H) := v66.bind fun a => (stI g n a q x).bind fun h1 => (rdR h1 n 159 10 49).bind fun v => v.bind fun a2 => (ldI h1 n a2 q).bind fun w => if w = (-1) then some ((-1), h1) else (ckq h1 n 159 10).bind fun _ => (q_X11_takesPlain K h1 n 159).bind fun p => if p.1 = 0 then some ((-1), p.2) else (rdR p.2 n 159 10 50).bind fun v2 => (rdI p.2 n 159 10 55).bind fun v3 => v2.bind fun a3 => (stI p.2 n a3 q v3).bind fun h2 => some (q, h2)
theorem z_tplain (hK : 3000 ≤ K) {h : mm_H} (c : PS h) (hn : 208 ≤ n) (t : TM b N h) {s : Nat} (k : Mk b N h (.inr s)) : ∃ v g, q_X11_takesPlain K h n 159 = some (v, g) ∧ ML h g ∧ Mk b N g (nmS b N 0 99999 (.inr s)).2 ∧ (∀ s', (nmS b N 0 99999 (.inr s)).2 = .inr s' → v = 1 ∧ fI g 159 55 = (nmS b N 0 99999 (.inr s)).1) ∧ ∀ p, (nmS b N 0 99999 (.inr s)).2 = .inl p → v = 0 := by
  obtain ⟨v, g, f1, l1, k1, y1, y2⟩ := z_tnum hK c hn t k 0 99999 (by omega) (by omega)
  have f1' : q_X11_takesNumber K h n 159 0 99999 = some (v, g) := f1
  refine ⟨v, g, ?_, l1, k1, y1, y2⟩
  unfold q_X11_takesPlain
  rw [gq_159 c hn, Option.bind_some, f1', Option.bind_some]
  cases e : (nmS b N 0 99999 (.inr s)).2 with
  | inl p => rw [y2 p e]; rfl
  | inr s' => rw [(y1 s' e).1]; rfl
theorem cmp_ni (v w s : Nat) : (ni v * 5 + ni w) * 3 + ni s = cmpI w s v := by
  unfold cmpI
  rw [show (5 : Int32) = ni 5 from rfl, show (3 : Int32) = ni 3 from rfl, ← Int32.ofNat_mul, ni_add, ← Int32.ofNat_mul, ni_add]
theorem z_lfE (hK : 3000 ≤ K) (hn : 208 ≤ n) {g : mm_H} (c : PS g) (t : TM b N g) {s m w sg o : Nat} (hm : m < 6500) (hw : w < 5) (hsg : sg < 3) (k : Mk b N g (.inr s)) (a1 : iA g 191 (84500 + m) = 3) (a3 : iA g 193 (84500 + m) = -1) (a4 : iA g 194 (84500 + m) = ni w) (hd : fI g 159 29 = ni o) (em : iA g 181 13 = ni (m + 1)) (kk : Nat) : ∃ v g', lfE K (ni (84500 + m)) (if sg = 0 then 60 else if sg = 1 then 62 else 61) (some 195) g n = some (v, g') ∧ NF m g g' ∧ (∀ s', (nmS b N 0 99999 (.inr s)).2 = .inr s' → v = ni (84500 + m) ∧ iA g' 181 13 = ni (m + 1) ∧ nodeX g' (84500 + m) (84500 + (m + 1)) kk [((nmS b N 0 99999 (.inr s)).1 * 5 + ni w) * 3 + ni sg] ∧ iA g' 193 (84500 + m) = -1 ∧ Mk b N g' (.inr s') ∧ fI g' 159 29 = ni o) ∧ ∀ p, (nmS b N 0 99999 (.inr s)).2 = .inl p → v = -1 ∧ Mk b N g' (.inl p) := by
  have hx : ¬ (if sg = 0 then (60 : Int32) else if sg = 1 then 62 else 61) = -1 := by
    split
    · decide
    · split <;> decide
  generalize exx : (if sg = 0 then (60 : Int32) else if sg = 1 then 62 else 61) = x at hx ⊢
  obtain ⟨n1, k1, k11, d1⟩ := NF.si c (m := m) (a := 195) ⟨by omega, by omega⟩ (Nat.le_refl _) x
  have hq : 84500 + m < 91000 := by omega
  have t1 := t.nf n1
  obtain ⟨v, g2, f2, l2, mk2, y1, y2⟩ := z_tplain hK n1.1 hn t1 (k.ml (fI_c k1 28))
  have n12 := n1.trans (l2.nf m) (Nat.le_refl _)
  unfold lfE
  rw [Option.bind_some, st_nd c hn ⟨by omega, by omega⟩ hq, Option.bind_some, g_159_49 n1.1 hn, Option.bind_some, Option.bind_some, ld_nd n1.1 hn ⟨by omega, by omega⟩ hq, Option.bind_some, d1, upd_s, if_neg hx, gq_159 n1.1 hn, Option.bind_some, f2, Option.bind_some]
  dsimp only
  cases e : (nmS b N 0 99999 (.inr s)).2 with
  | inl p =>
    have v0 := y2 p e
    rw [e] at mk2
    rw [if_pos v0]
    exact ⟨-1, g2, rfl, n12, (fun s' z => nomatch z), fun p' z => by cases z; exact ⟨rfl, mk2⟩⟩
  | inr s' =>
    obtain ⟨v1, e55⟩ := y1 s' e
    rw [e] at mk2
    obtain ⟨n3, k3, k31, d3⟩ := NF.si l2.1 (m := m) (a := 196) ⟨by omega, by omega⟩ (Nat.le_refl _) (fI g2 159 55)
    rw [if_neg (by rw [v1]; decide), g_159_50 l2.1 hn, Option.bind_some, g_159_55 l2.1 hn, Option.bind_some, Option.bind_some, st_nd l2.1 hn ⟨by omega, by omega⟩ hq, Option.bind_some]
    refine ⟨_, _, rfl, n12.trans n3 (Nat.le_refl _), fun s'' z => ?_, fun p z => nomatch z⟩
    cases z
    obtain ⟨h1, h2, v', h3, h4, h5, h6⟩ := nmS_r e
    have same : ∀ a, 191 ≤ a → a ≤ 196 → a ≠ 195 → iA g2 a (84500 + m) = iA g a (84500 + m) := fun a q1 q2 q3 => by
      rw [iA_c (l2.2.1 a (by omega)), iA_si_n q3]
    refine ⟨rfl, ?_, ⟨by omega, Or.inl ⟨?_, w, sg, v', hw, hsg, h4, ?_, ?_, ?_, ?_⟩⟩, ?_, mk2.ml (fI_c k3 28), (fI_c k3 29).trans ((l2.2.2 29 (by decide) (by decide) (by decide)).1.trans ((fI_c k1 29).trans hd))⟩
    · rw [iA_c k31, iA_c (l2.2.1 181 (by decide)), iA_c k11]; exact em
    · rw [iA_si_n (by decide), same 191 (by omega) (by omega) (by omega)]; exact a1
    · rw [iA_si_n (by decide), same 194 (by omega) (by omega) (by omega)]; exact a4
    · rw [iA_si_n (by decide), iA_c (l2.2.1 195 (by decide)), d1, upd_s]; exact exx.symm
    · rw [d3, upd_s, e55, h5]
    · rw [h5, cmp_ni]
    · rw [iA_si_n (by decide), same 193 (by omega) (by omega) (by omega)]; exact a3
def leafC (K : Nat) (g : mm_H) (n : Nat) : Option (Int32 × mm_H) :=
  (ckq g n 159 10).bind fun u39 =>
  (q_X11_node K g n 159 3).bind fun v41 =>
  (rdR v41.2 n 159 10 48).bind fun v44 =>
  (ckq v41.2 n 159 10).bind fun u46 =>
  (q_X11_word K v41.2 n 159).bind fun v48 =>
  (q_X11_asked K v48.2 n v48.1).bind fun v50 =>
  v44.bind fun a52 =>
  (stI v48.2 n a52 v41.1 v50).bind fun h54 =>
  (rdR h54 n 159 10 48).bind fun v56 =>
  v56.bind fun a58 =>
  (ldI h54 n a58 v41.1).bind fun v60 =>
  if v60 = (-1) then
    some ((-1), h54)
  else
  (rdI h54 n 159 10 54).bind fun v62 =>
  (wrF h54 n 159 10 28 (.int v62)).bind fun h64 =>
  (rdR h64 n 159 10 49).bind fun v66 =>
  (ckq h64 n 159 10).bind fun u68 =>
  (q_X11_takesSign K h64 n 159 60).bind fun v70 =>
  if v70.1 = 0 then
    (ckq v70.2 n 159 10).bind fun u72 =>
    (q_X11_takesSign K v70.2 n 159 62).bind fun v74 =>
    if v74.1 = 0 then
      (ckq v74.2 n 159 10).bind fun u76 =>
      (q_X11_takesSign K v74.2 n 159 61).bind fun v78 =>
      if v78.1 = 0 then
        v66.bind fun a80 =>
        (stI v78.2 n a80 v41.1 (-1)).bind fun h82 =>
        (rdR h82 n 159 10 49).bind fun v84 =>
        v84.bind fun a86 =>
        (ldI h82 n a86 v41.1).bind fun v88 =>
        if v88 = (-1) then
          some ((-1), h82)
        else
        (ckq h82 n 159 10).bind fun u90 =>
        (q_X11_takesPlain K h82 n 159).bind fun v92 =>
        if v92.1 = 0 then
          some ((-1), v92.2)
        else
        (rdR v92.2 n 159 10 50).bind fun v94 =>
        (rdI v92.2 n 159 10 55).bind fun v96 =>
        v94.bind fun a98 =>
        (stI v92.2 n a98 v41.1 v96).bind fun h100 =>
        some (v41.1, h100)
      else
      v66.bind fun a102 =>
      (stI v78.2 n a102 v41.1 61).bind fun h104 =>
      (rdR h104 n 159 10 49).bind fun v106 =>
      v106.bind fun a108 =>
      (ldI h104 n a108 v41.1).bind fun v110 =>
      if v110 = (-1) then
        some ((-1), h104)
      else
      (ckq h104 n 159 10).bind fun u112 =>
      (q_X11_takesPlain K h104 n 159).bind fun v114 =>
      if v114.1 = 0 then
        some ((-1), v114.2)
      else
      (rdR v114.2 n 159 10 50).bind fun v116 =>
      (rdI v114.2 n 159 10 55).bind fun v118 =>
      v116.bind fun a120 =>
      (stI v114.2 n a120 v41.1 v118).bind fun h122 =>
      some (v41.1, h122)
    else
    v66.bind fun a124 =>
    (stI v74.2 n a124 v41.1 62).bind fun h126 =>
    (rdR h126 n 159 10 49).bind fun v128 =>
    v128.bind fun a130 =>
    (ldI h126 n a130 v41.1).bind fun v132 =>
    if v132 = (-1) then
      some ((-1), h126)
    else
    (ckq h126 n 159 10).bind fun u134 =>
    (q_X11_takesPlain K h126 n 159).bind fun v136 =>
    if v136.1 = 0 then
      some ((-1), v136.2)
    else
    (rdR v136.2 n 159 10 50).bind fun v138 =>
    (rdI v136.2 n 159 10 55).bind fun v140 =>
    v138.bind fun a142 =>
    (stI v136.2 n a142 v41.1 v140).bind fun h144 =>
    some (v41.1, h144)
  else
  v66.bind fun a146 =>
  (stI v70.2 n a146 v41.1 60).bind fun h148 =>
  (rdR h148 n 159 10 49).bind fun v150 =>
  v150.bind fun a152 =>
  (ldI h148 n a152 v41.1).bind fun v154 =>
  if v154 = (-1) then
    some ((-1), h148)
  else
  (ckq h148 n 159 10).bind fun u156 =>
  (q_X11_takesPlain K h148 n 159).bind fun v158 =>
  if v158.1 = 0 then
    some ((-1), v158.2)
  else
  (rdR v158.2 n 159 10 50).bind fun v160 =>
  (rdI v158.2 n 159 10 55).bind fun v162 =>
  v160.bind fun a164 =>
  (stI v158.2 n a164 v41.1 v162).bind fun h166 =>
  some (v41.1, h166)
theorem pkW_long {s c j : Nat} : ∀ (ws : List (List Nat)) (i : Nat), (∀ w, w ∈ ws → c ≤ w.length) → pkW b N s ws i = some j → tkk b N s = 1 ∧ (s ≤ N → s + c ≤ tee b N s)
  | [], _, _, e => by cases e
  | w :: ws, i, h, e => by
    unfold pkW at e
    split at e
    · rename_i q
      refine ⟨?_, fun hs => ?_⟩
      · unfold isW at q
        rw [Bool.and_eq_true, decide_eq_true_iff] at q
        exact q.1
      · have h1 := congrArg List.length ((isW_seg hs).mp q).2
        rw [seg_len] at h1
        have h2 := h w List.mem_cons_self
        have h3 := tee_ge (b := b) (N := N) s
        omega
    · exact pkW_long ws (i + 1) (fun w hw => h w (List.mem_cons_of_mem _ hw)) e
theorem z_leaf (hK : 3000 ≤ K) (hn : 208 ≤ n) {h : mm_H} (c : PS h) (t : TM b N h) {s m o : Nat} (ho : o ≤ 10) (hm : m < 6500) (k : Mk b N h (.inr s)) (hd : fI h 159 29 = ni o) (em : iA h 181 13 = ni m) (kk : Nat) : ∃ v g, leafC K h n = some (v, g) ∧ XO b N o 1 kk s m h g v (cmS b N (.inr s)) := by
  obtain ⟨hs, hss⟩ := k.le
  have hq : 84500 + m < 91000 := by omega
  obtain ⟨g1, f1, n1, k1, em1, b1, b2, b3⟩ := z_nodeM (K := K) c hn em hm 3
  have t1 := t.nf n1
  obtain ⟨g2, f2, l2, a28, a54⟩ := z_word hK n1.1 hn t1 (k.ml (fI_c k1 28))
  have as := z_asked (K := K) (n := n) (h := g2) (b := b) (N := N) hs (fun k hk => (t.2.2 k hk).2)
  obtain ⟨n3, k3, k31, d3⟩ := NF.si l2.1 (m := m) (a := 194) ⟨by omega, by omega⟩ (Nat.le_refl _) (opI (pkW b N s (wds 14) 0))
  have n3s : ∀ a, 191 ≤ a → a ≤ 196 → a ≠ 194 → iA (mm_si g2 194 (84500 + m) (opI (pkW b N s (wds 14) 0))) a (84500 + m) = iA g2 a (84500 + m) := fun a _ _ q => by rw [iA_si_n q]
  have n13 := (n1.trans (l2.nf m) (Nat.le_refl _)).trans n3 (Nat.le_refl _)
  unfold leafC
  simp only [gq_159 c hn, Option.bind_some, f1, g_159_48 n1.1 hn, gq_159 n1.1 hn, f2, as, st_nd l2.1 hn (a := 194) ⟨by omega, by omega⟩ hq, g_159_48 n3.1 hn, ld_nd n3.1 hn (a := 194) ⟨by omega, by omega⟩ hq, d3, upd_s]
  generalize hx : opI (pkW b N s (wds 14) 0) = x at *
  generalize mm_si g2 194 (84500 + m) x = g3 at *
  cases ep : pkW b N s (wds 14) 0 with
  | none =>
    have e0 : pkS b N (wds 14) (.inr s) = (-1, .inl s) := pkS_none ep
    have ec : cmS b N (.inr s) = ([], .inl s) := by
      unfold cmS
      rw [e0]
      rfl
    rw [ep] at hx
    rw [if_pos (show x = -1 from hx.symm), ec]
    refine ⟨-1, g3, rfl, n13, (fun s' z => nomatch z), fun p z => ?_⟩
    cases z
    exact ⟨rfl, hs, (fI_c k3 28).trans a28⟩
  | some w =>
    have e0 := pkS_some ep
    rw [ep] at hx
    have hx : ni w = x := hx
    have hw5 : w < 5 := by
      have h1 := pkW_lt _ _ _ _ ep
      have h2 : (wds 14).length = 5 := by decide +kernel
      omega
    obtain ⟨tk, tl⟩ := pkW_long (c := 4) (wds 14) 0 (by decide +kernel) ep
    have tl := tl hs
    have te := (tee_rn (b := b) (N := N) (k := 1) (Or.inl rfl) hs).2 tk
    have hsk := sk_ge (b := b) (N := N) (tee b N s)
    have e54 : fI g3 159 54 = ni (rn b N 1 s) := (fI_c k3 54).trans a54
    have c4 : PS (mm_sf g3 159 28 (.int (ni (rn b N 1 s)))) := ps_159_28 n3.1 _
    have l4 := ML.put (h := g3) (Or.inl rfl) c4
    have t4 : TM b N (mm_sf g3 159 28 (.int (ni (rn b N 1 s)))) := (t.nf n13).ml l4
    have mk4 : Mk b N (mm_sf g3 159 28 (.int (ni (rn b N 1 s)))) (.inr (nx b N s)) := ⟨rn b N 1 s, (rn_ge (b := b) (N := N) 1 _ s rfl).2.1 hs, fs_159_28 n3.1 _, by unfold nx; rw [te]⟩
    have o4 : ∀ a, a ≠ 159 → mm_sf g3 159 28 (.int (ni (rn b N 1 s))) a = g3 a := l4.2.1
    have d4 : fI (mm_sf g3 159 28 (.int (ni (rn b N 1 s)))) 159 29 = ni o := (l4.2.2 29 (by decide) (by decide) (by decide)).1.trans ((fI_c k3 29).trans ((l2.2.2 29 (by decide) (by decide) (by decide)).1.trans ((fI_c k1 29).trans hd)))
    rw [if_neg (show ¬ x = -1 by rw [← hx]; exact ni_n1 (by omega)), g_159_54 n3.1 hn, e54, Option.bind_some, p_159_28 n3.1 hn, Option.bind_some, g_159_49 c4 hn, Option.bind_some, gq_159 c4 hn, Option.bind_some]
    generalize mm_sf g3 159 28 (.int (ni (rn b N 1 s))) = g4 at *
    have n14 := n13.trans (l4.nf m) (Nat.le_refl _)
    have em4 : iA g4 181 13 = ni (m + 1) := by rw [iA_c (o4 181 (by decide)), iA_c k31, iA_c (l2.2.1 181 (by decide))]; exact em1
    have s91 : iA g4 191 (84500 + m) = 3 := by rw [iA_c (o4 191 (by decide)), n3s 191 (by omega) (by omega) (by omega), iA_c (l2.2.1 191 (by decide))]; exact b1
    have s93 : iA g4 193 (84500 + m) = -1 := by rw [iA_c (o4 193 (by decide)), n3s 193 (by omega) (by omega) (by omega), iA_c (l2.2.1 193 (by decide))]; exact b3
    have s94 : iA g4 194 (84500 + m) = ni w := by rw [iA_c (o4 194 (by decide)), d3, upd_s, hx]
    generalize hs1 : nx b N s = s1 at *
    have h1s : s1 ≤ N := by rw [← hs1]; exact nx_le hs
    have hb4 : s + 4 ≤ s1 := by rw [← hs1]; unfold nx; omega
    -- a sign is taken
    have fin : ∀ (sg : Nat) (g5 : mm_H), sg < 3 → s1 < N → ML g4 g5 → Mk b N g5 (.inr (nx b N s1)) → ∃ v g', lfE K (ni (84500 + m)) (if sg = 0 then 60 else if sg = 1 then 62 else 61) (some 195) g5 n = some (v, g') ∧ XO b N o 1 kk s m h g' v (cmE b N (ni w) sg (.inr s1)) := fun sg g5 hsg h1N l5 mk5 => by
      obtain ⟨v, g', f, nf, y1, y2⟩ := z_lfE (K := K) (o := o) (w := w) hK hn l5.1 (t4.ml l5) hm hw5 hsg mk5 (by rw [iA_c (l5.2.1 191 (by decide))]; exact s91) (by rw [iA_c (l5.2.1 193 (by decide))]; exact s93) (by rw [iA_c (l5.2.1 194 (by decide))]; exact s94) ((l5.2.2 29 (by decide) (by decide) (by decide)).1.trans d4) (by rw [iA_c (l5.2.1 181 (by decide))]; exact em4) kk
      refine ⟨v, g', f, (n14.trans (l5.nf m) (Nat.le_refl _)).trans nf (Nat.le_refl _), fun s' e => ?_, y2⟩
      obtain ⟨z1, z2, z3, z4, z5, z6⟩ := y1 s' e
      obtain ⟨u1, u2, -⟩ := nmS_r (show (nmS b N 0 99999 (.inr (nx b N s1))).2 = .inr s' from e)
      have u3 := nx_gt (b := b) h1N
      have u4 := nx_gt (b := b) u1
      exact ⟨m + 1, z1, z2, by omega, by omega, z3, z4, z5, z6⟩
    have ecm : cmS b N (.inr s) = if isG b N 60 (.inr s1) = true then cmE b N (ni w) 0 (.inr s1) else if isG b N 62 (.inr s1) = true then cmE b N (ni w) 1 (.inr s1) else if isG b N 61 (.inr s1) = true then cmE b N (ni w) 2 (.inr s1) else ([], .inl s1) := by
      unfold cmS
      rw [e0]
      rfl
    rw [ecm]
    obtain ⟨g5, f5, l5, y5, z5⟩ := z_tsign hK c4 hn t4 mk4 (v := 60) (by decide)
    have f5' : q_X11_takesSign K g4 n 159 60 = _ := f5
    rw [f5', Option.bind_some]
    by_cases q0 : isG b N 60 (.inr s1) = true
    · rw [if_pos q0, if_pos q0, if_neg (show ¬ (1 : Int32) = 0 by decide)]
      exact fin 0 g5 (by omega) (isG_lt q0) l5 (y5 q0)
    rw [if_neg q0, if_neg q0, if_pos (show (0 : Int32) = 0 from rfl)]
    obtain ⟨g6, f6, l6, y6, z6⟩ := z_tsign hK l5.1 hn (t4.ml l5) (z5 q0).1 (v := 62) (by decide)
    have f6' : q_X11_takesSign K g5 n 159 62 = _ := f6
    rw [gq_159 l5.1 hn, Option.bind_some, f6', Option.bind_some]
    by_cases q1 : isG b N 62 (.inr s1) = true
    · rw [if_pos q1, if_pos q1, if_neg (show ¬ (1 : Int32) = 0 by decide)]
      exact fin 1 g6 (by omega) (isG_lt q1) (l5.trans l6) (y6 q1)
    rw [if_neg q1, if_neg q1, if_pos (show (0 : Int32) = 0 from rfl)]
    obtain ⟨g7, f7, l7, y7, z7⟩ := z_tsign hK l6.1 hn ((t4.ml l5).ml l6) (z6 q1).1 (v := 61) (by decide)
    have f7' : q_X11_takesSign K g6 n 159 61 = _ := f7
    rw [gq_159 l6.1 hn, Option.bind_some, f7', Option.bind_some]
    by_cases q2 : isG b N 61 (.inr s1) = true
    · rw [if_pos q2, if_pos q2, if_neg (show ¬ (1 : Int32) = 0 by decide)]
      exact fin 2 g7 (by omega) (isG_lt q2) (l5.trans (l6.trans l7)) (y7 q2)
    rw [if_neg q2, if_neg q2, if_pos (show (0 : Int32) = 0 from rfl)]
    obtain ⟨n8, k8, k81, d8⟩ := NF.si l7.1 (m := m) (a := 195) ⟨by omega, by omega⟩ (Nat.le_refl _) (-1)
    rw [Option.bind_some, st_nd l7.1 hn ⟨by omega, by omega⟩ hq, Option.bind_some, g_159_49 n8.1 hn, Option.bind_some, Option.bind_some, ld_nd n8.1 hn ⟨by omega, by omega⟩ hq, Option.bind_some, d8, upd_s, if_pos rfl]
    refine ⟨-1, _, rfl, (n14.trans ((l5.trans (l6.trans l7)).nf m) (Nat.le_refl _)).trans n8 (Nat.le_refl _), (fun s' z => nomatch z), fun p z => ?_⟩
    cases z
    exact ⟨rfl, Mk.ml (σ := .inl s1) (z7 q2).2 (fI_c k8 28)⟩
end LEAFM

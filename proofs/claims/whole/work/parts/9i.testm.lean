/-! ===== the model reads a test ===== -/
section TESTM
variable {K n : Nat} {b : Nat → Nat} {N : Nat}
theorem okC_ops : okC wOr 28530 ∧ okC wAnd 6385252 ∧ okC wNot 7237492 := by decide +kernel
/-- one child and more -/
theorem z_many (hK : 3000 ≤ K) (hn : 208 ≤ n) {o c1 kk e0 D1 : Nat} {w : List Nat} {wv : Int64} {op : Int32} (he : e0 ≤ 1) (hop : op = if e0 = 0 then -3 else -2) (ok : okC w wv) (h2 : 2 ≤ w.length) {f : FX} {e : RSt → List Int32 × RSt} (hc : c1 ≤ 6) (hD1 : D1 ≤ 28850) (hD5 : 5 ≤ D1) (X : XQ n b N o c1 kk D1 f e) (El : ∀ s s', (e (.inr s)).2 = .inr s' → s ≤ N → s < s')
    {lp : Int32 → Nat → Int32 → mm_H → Option (Nat × mm_H)} (elp : ∀ own k l2 h, lp own (k + 1) l2 h = (ckq h n 159 10).bind fun _ => (f h n 159).bind fun v8 => if v8.1 = (-1) then some (0, v8.2) else if l2 = (-1) then (rdR v8.2 n 159 10 46).bind fun v11 => v11.bind fun a13 => (stI v8.2 n a13 own v8.1).bind fun h15 => (ckq h15 n 159 10).bind fun _ => (q_X11_takes K h15 n 159 wv).bind fun v20 => if v20.1 = 0 then some (1, v20.2) else lp own k v8.1 v20.2 else (rdR v8.2 n 159 10 47).bind fun v22 => v22.bind fun a24 => (stI v8.2 n a24 l2 v8.1).bind fun h26 => (ckq h26 n 159 10).bind fun _ => (q_X11_takes K h26 n 159 wv).bind fun v31 => if v31.1 = 0 then some (1, v31.2) else lp own k v8.1 v31.2) :
    XQ n b N o (c1 + 5) (kk + 1) (D1 - 5) (fun h n l0 => (ckq h n 159 10).bind fun _ => (q_X11_node K h n 159 (ni e0)).bind fun v3 => (lp v3.1 K (-1) v3.2).bind fun v33 => if v33.1 = 0 then some ((-1), v33.2) else if v33.1 = 1 then some (v3.1, v33.2) else none) (fun σ => lpO b N w op e 900 (e σ).1 (e σ).2) := by
  intro h s m c t mk hd em hm
  obtain ⟨hs, -⟩ := mk.le
  have N9 := t.2.1
  have hm6 : m < 6499 := by omega
  obtain ⟨g1, f1, n1, k1, em1, b1, b2, b3⟩ := z_nodeM (K := K) c hn em (by omega) (ni e0)
  obtain ⟨v2, g2, f2, n2, xr, xl⟩ := X g1 s (m + 1) n1.1 (t.nf n1) (mk.ml (fI_c k1 28)) ((fI_c k1 29).trans hd) em1 (by omega)
  obtain ⟨K', rfl⟩ : ∃ x, K = x + 1 := ⟨K - 1, by omega⟩
  have lpe : ∀ own h, lp own (K' + 1) (-1) h = _ := fun own h => elp own K' (-1) h
  cases er : (e (.inr s)).2 with
  | inl p =>
    obtain ⟨rfl, mk2⟩ := xl p er
    refine ⟨-1, g2, ?_, n1.trans (n2.wk (by omega)) (Nat.le_refl _), fun s' z => ?_, fun p' z => ?_⟩
    · show (ckq h n 159 10).bind _ = _
      rw [gq_159 c hn, Option.bind_some, f1, Option.bind_some, lpe, gq_159 n1.1 hn, Option.bind_some, f2, Option.bind_some, if_pos rfl, Option.bind_some, if_pos rfl]
    · dsimp only at z; rw [er, lpO_l] at z; cases z
    · dsimp only at z; rw [er, lpO_l] at z; cases z; exact ⟨rfl, mk2⟩
  | inr s1 =>
    obtain ⟨m2, rfl, em2, hm2, bu2, X2, x2, mk2, hd2⟩ := xr s1 er
    have hs1 := El s s1 er hs
    have h1N := mk2.le.1
    have hq : 84500 + m < 91000 := by omega
    obtain ⟨n3, k3, k31, d3⟩ := NF.si n2.1 (m := m) (a := 192) ⟨by omega, by omega⟩ (Nat.le_refl (84500 + m)) (ni (84500 + (m + 1)))
    have lo2 : ∀ a, 191 ≤ a → a ≤ 196 → iA g2 a (84500 + m) = iA g1 a (84500 + m) := fun a h1 h2 => n2.2.2.2.2 a h1 h2 _ (by omega)
    have J : JV (mm_si g2 192 (84500 + m) (ni (84500 + (m + 1)))) (84500 + m) (84500 + m2) kk e0 (84500 + (m + 1)) (e (.inr s)).1 [] := by
      refine ⟨?_, ?_, ?_, (fun x hx => nomatch hx), by omega, X2.ag (fun a h1 h2 _ => ?_) (fun a h1 h2 i h3 h4 => ?_), ?_⟩
      · rw [iA_si_n (by decide), lo2 191 (by omega) (by omega)]; exact b1
      · rw [iA_si_n (by decide), lo2 193 (by omega) (by omega)]; exact b3
      · rw [d3, upd_s]
        refine ⟨rfl, ?_⟩
        rw [iA_si_n (by decide)]
        exact x2
      · by_cases z : a = 192
        · subst z
          rw [d3, upd_n (by omega)]
        · rw [iA_si_n z]
      · by_cases z : a = 192
        · subst z
          rw [d3, upd_n (by omega)]
        · rw [iA_si_n z]
      · rw [iA_si_n (by decide)]
        exact x2
    obtain ⟨v5, g5, f5, n5, r5, r6⟩ := z_aft (K := K' + 1) (b := b) (N := N) hK hn (cA := c1 + 5) (s0 := s) (m0 := m) (e0 := e0) he hop ok h2 hc (by omega) (by omega) hD1 X (fun s s' q hs => Nat.le_of_lt (El s s' q hs)) (elp (ni (84500 + m))) (by omega) 900 K' (mm_si g2 192 (84500 + m) (ni (84500 + (m + 1)))) s1 m2 [] (84500 + (m + 1)) (e (.inr s)).1 (by omega) (by omega) n3.1 (((t.nf n1).nf n2).nf n3) (mk2.ml (fI_c k3 28)) ((fI_c k3 29).trans hd2) (by rw [iA_c k31]; exact em2) (by omega) J (by omega)
    have ne : ¬ ni (84500 + (m + 1)) = -1 := ni_n1 (by omega)
    have nn := ((n1.trans (n2.wk (show m ≤ m + 1 by omega)) (Nat.le_refl _)).trans n3 (Nat.le_refl _)).trans n5 (Nat.le_refl _)
    have ej : joinT op (([] ++ [(84500 + (m + 1), (e (.inr s)).1)]).map Prod.snd) = (e (.inr s)).1 := List.append_nil _
    rw [ej] at r5 r6
    have run : (ckq h n 159 10).bind (fun _ => (q_X11_node (K' + 1) h n 159 (ni e0)).bind fun v3 => (lp v3.1 (K' + 1) (-1) v3.2).bind fun v33 => if v33.1 = 0 then some ((-1), v33.2) else if v33.1 = 1 then some (v3.1, v33.2) else none) = if v5 = 0 then some (-1, g5) else if v5 = 1 then some (ni (84500 + m), g5) else none := by
      rw [gq_159 c hn, Option.bind_some, f1, Option.bind_some, lpe, gq_159 n1.1 hn, Option.bind_some, f2, Option.bind_some, if_neg ne, if_pos rfl, g_159_46 n2.1 hn, Option.bind_some, Option.bind_some, st_nd n2.1 hn ⟨by omega, by omega⟩ hq, Option.bind_some, gq_159 n3.1 hn, Option.bind_some, f5, Option.bind_some]
    cases e9 : (lpO b N w op e 900 (e (.inr s)).1 (.inr s1)).2 with
    | inl p =>
      obtain ⟨rfl, mk6⟩ := r6 p e9
      refine ⟨-1, g5, run.trans (if_pos rfl), nn, fun s' z => ?_, fun p' z => ?_⟩
      · dsimp only at z; rw [er, e9] at z; cases z
      · dsimp only at z; rw [er, e9] at z; cases z; exact ⟨rfl, mk6⟩
    | inr s6 =>
      obtain ⟨rfl, m6, y1, y2, y3, y4, y5, y6, y7⟩ := r5 s6 e9
      refine ⟨ni (84500 + m), g5, run.trans ((if_neg (by decide)).trans (if_pos rfl)), nn, fun s' z => ?_, fun p' z => ?_⟩
      · dsimp only at z; rw [er, e9] at z
        cases z
        refine ⟨m6, rfl, y1, y2, y3, ?_, y5, y6, y7⟩
        show nodeX g5 _ _ _ (lpO b N w op e 900 (e (.inr s)).1 (e (.inr s)).2).1
        rw [er]
        exact y4
      · dsimp only at z; rw [er, e9] at z; cases z
theorem z_exprM (hK : 3000 ≤ K) (hn : 208 ≤ n) : ∀ (d : Nat), (∀ o, o ≤ 10 → 3 * (10 - o) + 3 ≤ d → XQ n b N o 11 (2 + 2 * (10 - o)) (28760 + 6 * o) (g_X11_expr K d).1 ((exS b N d).1 o)) ∧ (∀ o, o ≤ 10 → 3 * (10 - o) + 2 ≤ d → XQ n b N o 6 (1 + 2 * (10 - o)) (28765 + 6 * o) (g_X11_expr K d).2.1 ((exS b N d).2.1 o)) ∧ (∀ o, o ≤ 10 → 3 * (10 - o) + 1 ≤ d → XQ n b N o 1 (2 * (10 - o)) (28770 + 6 * o) (g_X11_expr K d).2.2 ((exS b N d).2.2 o))
  | 0 => ⟨fun o _ q => by omega, fun o _ q => by omega, fun o _ q => by omega⟩
  | d + 1 => by
    obtain ⟨h1, h2, h3⟩ := z_exprM hK hn d
    obtain ⟨y1, y2, y3⟩ := exS_gd (b := b) (N := N) d
    obtain ⟨ko, ka, kn⟩ := okC_ops
    refine ⟨fun o ho hd => ?_, fun o ho hd => ?_, fun o ho hd => ?_⟩
    · have X := z_many (K := K) (b := b) (N := N) hK hn (e0 := 0) (op := -3) (by omega) rfl ko (by decide) (by omega) (by omega) (by omega) (h2 o ho (by omega)) (fun s s' e hs => (y2 o s hs s' e).2.1) (lp := fun own k l2 h => lp_X11_any_8 K (g_X11_expr K d) n 159 own k l2 h) (fun _ _ _ _ => rfl)
      have e1 : 28765 + 6 * o - 5 = 28760 + 6 * o := by omega
      have e2 : 1 + 2 * (10 - o) + 1 = 2 + 2 * (10 - o) := by omega
      rw [e1, e2] at X
      exact X
    · have X := z_many (K := K) (b := b) (N := N) hK hn (e0 := 1) (op := -2) (by omega) rfl ka (by decide) (by omega) (by omega) (by omega) (h3 o ho (by omega)) (fun s s' e hs => (y3 o s hs s' e).2.1) (lp := fun own k l2 h => lp_X11_all_8 K (g_X11_expr K d) n 159 own k l2 h) (fun _ _ _ _ => rfl)
      have e1 : 28770 + 6 * o - 5 = 28765 + 6 * o := by omega
      have e2 : 2 * (10 - o) + 1 = 1 + 2 * (10 - o) := by omega
      rw [e1, e2] at X
      exact X
    · intro h s m c t mk hdp em hm
      obtain ⟨hs, hss⟩ := mk.le
      have N9 := t.2.1
      show ∃ v g, b_X11_single K (g_X11_expr K d) h n 159 = some (v, g) ∧ XO b N o 1 (2 * (10 - o)) s m h g v (oneB b N (exS b N d).1 (exS b N d).2.2 o (.inr s))
      obtain ⟨g1, f1, l1, a28, a54⟩ := z_word hK c hn t mk
      have c1 := l1.1
      have t1 := t.ml l1
      have mk1 : Mk b N g1 (.inr s) := Mk.at_ hs hss a28
      have d1 : fI g1 159 29 = ni o := (l1.2.2 29 (by decide) (by decide) (by decide)).1.trans hdp
      have m1 : iA g1 181 13 = ni m := by rw [iA_c (l1.2.1 181 (by decide))]; exact em
      have wi := wdV_iff (b := b) (N := N) kn hs (fun k hk => (t.2.2 k hk).2)
      have o10 : (ni o = 10) = (o = 10) := propext (ni_inj (b := 10) (by omega) (by omega))
      unfold b_X11_single oneB
      rw [gq_159 c hn, Option.bind_some, f1, Option.bind_some]
      simp only [lg_cmp_eq, wi]
      by_cases q : isW b N wNot s = true
      · rw [if_pos q, if_pos (show isWS b N wNot (.inr s) = true from q), g_159_29 c1 hn, d1, Option.bind_some]
        by_cases oo : o = 10
        · rw [if_pos (o10.mpr oo), if_neg (by omega)]
          refine ⟨-1, g1, rfl, l1.nf m, (fun s' z => nomatch z), fun p z => ?_⟩
          cases z
          exact ⟨rfl, hs, a28⟩
        · rw [if_neg (fun z => oo (o10.mp z)), if_pos (by omega), Option.bind_some, p_159_29 c1 hn, Option.bind_some, ni_1]
          have c2 : PS (mm_sf g1 159 29 (.int (ni (o + 1)))) := ps_159_29 c1 _
          have e54 : fI (mm_sf g1 159 29 (.int (ni (o + 1)))) 159 54 = ni (rn b N 1 s) := (fI_sf_o (by decide) _).trans a54
          have c3 : PS (mm_sf (mm_sf g1 159 29 (.int (ni (o + 1)))) 159 28 (.int (ni (rn b N 1 s)))) := ps_159_28 c2 _
          have tk := ((isW_seg hs).mp q).1
          have tl := congrArg List.length ((isW_seg hs).mp q).2
          rw [seg_len] at tl
          have tl : tee b N s - s = 3 := tl
          have te := (tee_rn (b := b) (N := N) (k := 1) (Or.inl rfl) hs).2 tk
          have hsk := sk_ge (b := b) (N := N) (tee b N s)
          rw [g_159_54 c2 hn, e54, Option.bind_some, p_159_28 c2 hn, Option.bind_some, gq_159 c3 hn, Option.bind_some]
          have n3 : NF m g1 (mm_sf (mm_sf g1 159 29 (.int (ni (o + 1)))) 159 28 (.int (ni (rn b N 1 s)))) := ⟨c3, fun a h1 _ _ => by rw [mm_sf_n h1, mm_sf_n h1], fun k h1 h2 h3 h4 => ⟨by rw [fI_sf_o h1, fI_sf_o h4], by rw [fJ_sf_o h1, fJ_sf_o h4], by rw [fR_sf_o h1, fR_sf_o h4]⟩, fun i _ => by rw [iA_sf, iA_sf], fun a h1 h2 i _ => by rw [iA_sf, iA_sf]⟩
          have mk3 : Mk b N (mm_sf (mm_sf g1 159 29 (.int (ni (o + 1)))) 159 28 (.int (ni (rn b N 1 s)))) (.inr (nx b N s)) := ⟨rn b N 1 s, (rn_ge (b := b) (N := N) 1 _ s rfl).2.1 hs, fs_159_28 c2 _, by unfold nx; rw [te]⟩
          have d3 : fI (mm_sf (mm_sf g1 159 29 (.int (ni (o + 1)))) 159 28 (.int (ni (rn b N 1 s)))) 159 29 = ni (o + 1) := (fI_sf_o (by decide) _).trans (fs_159_29 c1 _)
          have m3 : iA (mm_sf (mm_sf g1 159 29 (.int (ni (o + 1)))) 159 28 (.int (ni (rn b N 1 s)))) 181 13 = ni m := by rw [iA_sf, iA_sf]; exact m1
          generalize mm_sf (mm_sf g1 159 29 (.int (ni (o + 1)))) 159 28 (.int (ni (rn b N 1 s))) = g3 at *
          have hge : s + 3 ≤ nx b N s := by unfold nx; have := tee_ge (b := b) (N := N) s; omega
          have hle := nx_le (b := b) hs
          obtain ⟨g4, f4, n4, k4, em4, b1, b2, b3⟩ := z_nodeM (K := K) c3 hn m3 (by omega) 2
          have hq : 84500 + m < 91000 := by omega
          obtain ⟨v5, g5, f5, n5, xr, xl⟩ := h3 (o + 1) (by omega) (by omega) g4 (nx b N s) (m + 1) n4.1 ((t1.nf n3).nf n4) (mk3.ml (fI_c k4 28)) ((fI_c k4 29).trans d3) em4 (by omega)
          have es : (exS b N d).2.2 (o + 1) (stpS b N (.inr s)) = (exS b N d).2.2 (o + 1) (.inr (nx b N s)) := rfl
          rw [f4, Option.bind_some, gq_159 n4.1 hn, Option.bind_some, f5, Option.bind_some, g_159_46 n5.1 hn, Option.bind_some, Option.bind_some, st_nd n5.1 hn ⟨by omega, by omega⟩ hq, Option.bind_some, es]
          obtain ⟨n6, k6, k61, d6⟩ := NF.si n5.1 (m := m) (a := 192) ⟨by omega, by omega⟩ (Nat.le_refl _) v5
          have c7 : PS (mm_sf (mm_si g5 192 (84500 + m) v5) 159 29 (.int (fI (mm_si g5 192 (84500 + m) v5) 159 29 - 1))) := ps_159_29 n6.1 _
          have n7 : NF m (mm_si g5 192 (84500 + m) v5) (mm_sf (mm_si g5 192 (84500 + m) v5) 159 29 (.int (fI (mm_si g5 192 (84500 + m) v5) 159 29 - 1))) := ⟨c7, fun a h1 _ _ => mm_sf_n h1, fun k _ _ _ h4 => ⟨fI_sf_o h4 _, fJ_sf_o h4 _, fR_sf_o h4 _⟩, fun i _ => by rw [iA_sf], fun a _ _ i _ => by rw [iA_sf]⟩
          have nn := ((((l1.nf m).trans n3 (Nat.le_refl _)).trans n4 (Nat.le_refl _)).trans (n5.wk (by omega)) (Nat.le_refl _) |>.trans n6 (Nat.le_refl _)).trans n7 (Nat.le_refl _)
          rw [g_159_29 n6.1 hn, Option.bind_some, p_159_29 n6.1 hn, Option.bind_some]
          cases er : ((exS b N d).2.2 (o + 1) (.inr (nx b N s))).2 with
          | inl p =>
            obtain ⟨rfl, mk5⟩ := xl p er
            rw [if_pos rfl]
            refine ⟨-1, _, rfl, nn, (fun s' z => nomatch z), fun p' z => ?_⟩
            cases z
            exact ⟨rfl, Mk.ml (σ := .inl p) mk5 ((fI_sf_o (by decide) _).trans (fI_c k6 28))⟩
          | inr s5 =>
            obtain ⟨m5, rfl, em5, hm5, bu5, X5, x5, mk5, hd5⟩ := xr s5 er
            have lo5 : ∀ a, 191 ≤ a → a ≤ 196 → iA g5 a (84500 + m) = iA g4 a (84500 + m) := fun a q1 q2 => n5.2.2.2.2 a q1 q2 _ (by omega)
            rw [if_neg (ni_n1 (by omega))]
            refine ⟨_, _, rfl, nn, fun s' z => ?_, fun p' z => nomatch z⟩
            cases z
            refine ⟨m5, rfl, by rw [iA_sf, iA_c k61]; exact em5, by omega, by omega, ⟨by omega, Or.inr (Or.inl ⟨?_, 84500 + (m + 1), _, ?_, ?_, rfl⟩)⟩, ?_, mk5.ml ((fI_sf_o (by decide) _).trans (fI_c k6 28)), ?_⟩
            · rw [iA_sf, iA_si_n (by decide), lo5 191 (by omega) (by omega)]; exact b1
            · rw [iA_sf, d6, upd_s]
            · refine nodeX.R (X5.ag (fun a q1 q2 q3 => ?_) (fun a q1 q2 i q3 q4 => ?_)) (by omega) (Nat.le_refl _) (by omega)
              · rw [iA_sf]
                by_cases z : a = 192
                · subst z
                  rw [d6, upd_n (by omega)]
                · rw [iA_si_n z]
              · rw [iA_sf]
                by_cases z : a = 192
                · subst z
                  rw [d6, upd_n (by omega)]
                · rw [iA_si_n z]
            · rw [iA_sf, iA_si_n (by decide), lo5 193 (by omega) (by omega)]; exact b3
            · rw [fs_159_29 n6.1, fI_c k6 29, hd5, ni_sub1]
      · rw [if_neg q, if_neg (show ¬ isWS b N wNot (.inr s) = true from q), g_159_28 c1 hn, a28, Option.bind_some, g_159_27 c1 hn, t1.1, Option.bind_some]
        have leaf : isG b N 40 (.inr s) ≠ true → ∃ v g, leafC K g1 n = some (v, g) ∧ XO b N o 1 (2 * (10 - o)) s m h g v (if isG b N 40 (.inr s) = true then (if o < 10 then (((exS b N d).1 (o + 1) (stpS b N (.inr s))).1, sgS b N 41 ((exS b N d).1 (o + 1) (stpS b N (.inr s))).2) else ([], flS (.inr s))) else cmS b N (.inr s)) := fun z => by
          rw [if_neg z]
          obtain ⟨v, g, f, nf, r⟩ := z_leaf (K := K) (b := b) (N := N) hK hn c1 t1 ho (by omega) mk1 d1 m1 (2 * (10 - o))
          exact ⟨v, g, f, (l1.nf m).trans nf (Nat.le_refl _), r⟩
        have eg : isG b N 40 (.inr s) = true ↔ tkk b N s = 3 ∧ b s = 40 := by
          show (decide (tkk b N s = 3) && decide (b s = 40)) = true ↔ _
          rw [Bool.and_eq_true, decide_eq_true_iff, decide_eq_true_iff]
        by_cases hN : N ≤ s
        · rw [if_pos ((ni_le (by omega) (by omega)).mpr hN)]
          exact leaf (fun z => by
            have h1 := (eg.mp z).1
            unfold tkk at h1
            rw [if_pos hN] at h1
            omega)
        · rw [if_neg (fun z => hN ((ni_le (by omega) (by omega)).mp z))]
          have i9 : inb (ni s) 900 = true := ni_inb (by omega) (by omega)
          have ts : (ni s).toNatClampNeg = s := ni_tn (by omega)
          obtain ⟨eb, lb⟩ := t1.2.2 s (by omega)
          have sg := sb_sg 40 (by decide) (b s) lb
          have sg' : (sb (b s) = 40) = (b s = 40) := propext sg
          rw [g_159_53 c1 hn, Option.bind_some, Option.bind_some, Option.bind_some, ge_199 c1 hn, if_pos i9, ts, eb, Option.bind_some]
          by_cases z : b s = 40
          · have tk : tkk b N s = 3 := by
              unfold tkk
              rw [if_neg hN, z]
              rfl
            have ig := eg.mpr ⟨tk, z⟩
            have te : tee b N s = s + 1 := by
              unfold tee
              rw [if_neg hN, if_neg (by rw [z]; decide)]
            rw [if_pos (sg'.mpr z), if_pos ig, g_159_29 c1 hn, d1, Option.bind_some]
            by_cases oo : o = 10
            · rw [if_pos (o10.mpr oo), if_neg (by omega)]
              refine ⟨-1, g1, rfl, l1.nf m, (fun s' z => nomatch z), fun p z => ?_⟩
              cases z
              exact ⟨rfl, hs, a28⟩
            · rw [if_neg (fun z => oo (o10.mp z)), if_pos (by omega), Option.bind_some, p_159_29 c1 hn, Option.bind_some, ni_1]
              have c2 : PS (mm_sf g1 159 29 (.int (ni (o + 1)))) := ps_159_29 c1 _
              have e28 : fI (mm_sf g1 159 29 (.int (ni (o + 1)))) 159 28 = ni s := (fI_sf_o (by decide) _).trans a28
              have c3 : PS (mm_sf (mm_sf g1 159 29 (.int (ni (o + 1)))) 159 28 (.int (ni (s + 1)))) := ps_159_28 c2 _
              rw [g_159_28 c2 hn, e28, Option.bind_some, ni_1, p_159_28 c2 hn, Option.bind_some, gq_159 c3 hn, Option.bind_some]
              have n3 : NF m g1 (mm_sf (mm_sf g1 159 29 (.int (ni (o + 1)))) 159 28 (.int (ni (s + 1)))) := ⟨c3, fun a h1 _ _ => by rw [mm_sf_n h1, mm_sf_n h1], fun k h1 h2 h3 h4 => ⟨by rw [fI_sf_o h1, fI_sf_o h4], by rw [fJ_sf_o h1, fJ_sf_o h4], by rw [fR_sf_o h1, fR_sf_o h4]⟩, fun i _ => by rw [iA_sf, iA_sf], fun a h1 h2 i _ => by rw [iA_sf, iA_sf]⟩
              have mk3 : Mk b N (mm_sf (mm_sf g1 159 29 (.int (ni (o + 1)))) 159 28 (.int (ni (s + 1)))) (.inr (nx b N s)) := ⟨s + 1, by omega, fs_159_28 c2 _, by unfold nx; rw [te]⟩
              have d3 : fI (mm_sf (mm_sf g1 159 29 (.int (ni (o + 1)))) 159 28 (.int (ni (s + 1)))) 159 29 = ni (o + 1) := (fI_sf_o (by decide) _).trans (fs_159_29 c1 _)
              have m3 : iA (mm_sf (mm_sf g1 159 29 (.int (ni (o + 1)))) 159 28 (.int (ni (s + 1)))) 181 13 = ni m := by rw [iA_sf, iA_sf]; exact m1
              generalize mm_sf (mm_sf g1 159 29 (.int (ni (o + 1)))) 159 28 (.int (ni (s + 1))) = g3 at *
              have hgt := nx_gt (b := b) (N := N) (s := s) (by omega)
              have hle := nx_le (b := b) hs
              obtain ⟨v5, g5, f5, n5, xr, xl⟩ := h1 (o + 1) (by omega) (by omega) g3 (nx b N s) m c3 (t1.nf n3) mk3 d3 m3 (by omega)
              have es : (exS b N d).1 (o + 1) (stpS b N (.inr s)) = (exS b N d).1 (o + 1) (.inr (nx b N s)) := rfl
              rw [f5, Option.bind_some, g_159_29 n5.1 hn, Option.bind_some, p_159_29 n5.1 hn, Option.bind_some, es]
              have c7 : PS (mm_sf g5 159 29 (.int (fI g5 159 29 - 1))) := ps_159_29 n5.1 _
              have n7 : NF m g5 (mm_sf g5 159 29 (.int (fI g5 159 29 - 1))) := ⟨c7, fun a h1 _ _ => mm_sf_n h1, fun k _ _ _ h4 => ⟨fI_sf_o h4 _, fJ_sf_o h4 _, fR_sf_o h4 _⟩, fun i _ => by rw [iA_sf], fun a _ _ i _ => by rw [iA_sf]⟩
              have nn := (((l1.nf m).trans n3 (Nat.le_refl _)).trans n5 (Nat.le_refl _)).trans n7 (Nat.le_refl _)
              have e28 : fI (mm_sf g5 159 29 (.int (fI g5 159 29 - 1))) 159 28 = fI g5 159 28 := fI_sf_o (by decide) _
              have e29 : fI (mm_sf g5 159 29 (.int (fI g5 159 29 - 1))) 159 29 = fI g5 159 29 - 1 := fs_159_29 n5.1 _
              have o7 : ∀ a, iA (mm_sf g5 159 29 (.int (fI g5 159 29 - 1))) a = iA g5 a := fun a => iA_sf _ _ _ _
              generalize mm_sf g5 159 29 (.int (fI g5 159 29 - 1)) = g7 at *
              cases er : ((exS b N d).1 (o + 1) (.inr (nx b N s))).2 with
              | inl p =>
                obtain ⟨rfl, mk5⟩ := xl p er
                rw [if_pos rfl]
                refine ⟨-1, g7, rfl, nn, (fun s' z => by cases z), fun p' z => ?_⟩
                cases z
                exact ⟨rfl, Mk.ml (σ := .inl p) mk5 e28⟩
              | inr s5 =>
                obtain ⟨m5, rfl, em5, hm5, bu5, X5, x5, mk5, hd5⟩ := xr s5 er
                rw [if_neg (ni_n1 (by omega)), gq_159 c7 hn, Option.bind_some]
                obtain ⟨g8, f8, l8, z1, z2⟩ := z_tsign hK c7 hn (((t1.nf n3).nf n5).nf n7) (mk5.ml e28) (v := 41) (by decide)
                have f8' : q_X11_takesSign K g7 n 159 41 = _ := f8
                have n8 := nn.trans (l8.nf m) (Nat.le_refl _)
                rw [f8', Option.bind_some]
                unfold sgS
                by_cases y : isG b N 41 (.inr s5) = true
                · have h5N := isG_lt y
                  have hgt5 := nx_gt (b := b) h5N
                  rw [if_pos y, if_neg (show ¬ (1 : Int32) = 0 by decide), if_pos y]
                  refine ⟨_, g8, rfl, n8, fun s' z => ?_, fun p' z => by cases z⟩
                  cases z
                  have i8 : ∀ a, 191 ≤ a → a ≤ 196 → iA g8 a = iA g5 a := fun a q1 q2 => (iA_c (l8.2.1 a (by omega))).trans (o7 a)
                  refine ⟨m5, rfl, by rw [iA_c (l8.2.1 181 (by decide)), o7]; exact em5, hm5, by omega, ?_, by rw [i8 193 (by omega) (by omega)]; exact x5, z1 y, ?_⟩
                  · exact (X5.ag (fun a q1 q2 _ => by rw [i8 a q1 q2]) (fun a q1 q2 i _ _ => by rw [i8 a q1 q2])).wk (Nat.le_refl _) (by omega)
                  · rw [(l8.2.2 29 (by decide) (by decide) (by decide)).1, e29, hd5, ni_sub1]
                · rw [if_neg y, if_pos rfl, if_neg y]
                  refine ⟨-1, g8, rfl, n8, (fun s' z => by cases z), fun p' z => ?_⟩
                  cases z
                  exact ⟨rfl, (z2 y).2⟩
          · rw [if_neg (fun y => z (sg'.mp y))]
            exact leaf (fun y => z (eg.mp y).2)
end TESTM

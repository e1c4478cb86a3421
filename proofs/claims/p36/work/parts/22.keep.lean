/-! ===== writes keep the permanent shapes ===== -/
def okV : (Value ⊕ Nat) → Value → Prop
  | .inl u, v => v = u
  | .inr 0, v => ∃ x : Int32, v = .int x
  | .inr 1, v => ∃ x : Int64, v = .long x
  | .inr _, v => ∃ r : Option Nat, v = va_rf r
theorem cfs_ok {h : mm_H} {a ci : Nat} {vs : List Value} (e : h a = .inr (ci, vs)) : ∀ (fs : List (Value ⊕ Nat)) (k : Nat), (∀ (j : Nat) (s : Value ⊕ Nat), fs[j]? = some s → ∃ v, vs[k + j]? = some v ∧ okV s v) → vs.length = k + fs.length → mm_cfs h a k fs = vs.drop k
  | [], k, _, hl => (List.drop_eq_nil_of_le (by rw [hl]; exact Nat.le_refl _)).symm
  | s :: t, k, H, hl => by
    obtain ⟨v, hv, ok⟩ := H 0 s rfl
    rw [Nat.add_zero] at hv
    obtain ⟨hk, hk2⟩ := List.getElem?_eq_some_iff.mp hv
    have ih := cfs_ok e t (k + 1) (fun j s' q => by
      have := H (j + 1) s' (by rw [List.getElem?_cons_succ]; exact q)
      rw [show k + 1 + j = k + (j + 1) by omega]
      exact this) (by rw [hl, List.length_cons]; omega)
    rw [List.drop_eq_getElem_cons hk, hk2, ← ih]
    rcases s with u | _ | _ | m
    · show u :: _ = _
      rw [show v = u from ok]
    · obtain ⟨x, rfl⟩ := ok
      show Value.int (fI h a k) :: _ = _
      rw [show fI h a k = x from by unfold fI; rw [e]; show (match vs[k]? with | _ => _) = _; rw [hv]]
    · obtain ⟨x, rfl⟩ := ok
      show Value.long (fJ h a k) :: _ = _
      rw [show fJ h a k = x from by unfold fJ; rw [e]; show (match vs[k]? with | _ => _) = _; rw [hv]]
    · obtain ⟨r, rfl⟩ := ok
      show va_rf (fR h a k) :: _ = _
      rw [show fR h a k = r from by unfold fR; rw [e]; show (match vs[k]? with | _ => _) = _; rw [hv]; cases r <;> rfl]
theorem cfs_len (h : mm_H) (a : Nat) : ∀ (fs : List (Value ⊕ Nat)) (k : Nat), (mm_cfs h a k fs).length = fs.length
  | [], _ => rfl
  | .inl v :: t, k => by simp only [mm_cfs, List.length_cons]; rw [cfs_len h a t]
  | .inr 0 :: t, k => by simp only [mm_cfs, List.length_cons]; rw [cfs_len h a t]
  | .inr 1 :: t, k => by simp only [mm_cfs, List.length_cons]; rw [cfs_len h a t]
  | .inr (_ + 2) :: t, k => by simp only [mm_cfs, List.length_cons]; rw [cfs_len h a t]
theorem cfs_get (h : mm_H) (a : Nat) : ∀ (fs : List (Value ⊕ Nat)) (k j : Nat) (s : Value ⊕ Nat), fs[j]? = some s → ∃ v, (mm_cfs h a k fs)[j]? = some v ∧ okV s v
  | [], _, _, _, q => by cases q
  | .inl v :: t, k, 0, s, q => by cases q; exact ⟨v, rfl, rfl⟩
  | .inr 0 :: t, k, 0, s, q => by cases q; exact ⟨_, rfl, _, rfl⟩
  | .inr 1 :: t, k, 0, s, q => by cases q; exact ⟨_, rfl, _, rfl⟩
  | .inr (m + 2) :: t, k, 0, s, q => by cases q; exact ⟨_, rfl, _, rfl⟩
  | .inl v :: t, k, j + 1, s, q => cfs_get h a t (k + 1) j s q
  | .inr 0 :: t, k, j + 1, s, q => cfs_get h a t (k + 1) j s q
  | .inr 1 :: t, k, j + 1, s, q => cfs_get h a t (k + 1) j s q
  | .inr (m + 2) :: t, k, j + 1, s, q => cfs_get h a t (k + 1) j s q
/-- a write of a field of the right kind keeps the shapes -/
theorem PS.sf {h : mm_H} (c : PS h) {a k ci : Nat} {fs : List (Value ⊕ Nat)} {s : Value ⊕ Nat} {v : Value} (hs : mm_sh a = some (.inr (ci, fs))) (hk : fs[k]? = some s) (ok : okV s v) : PS (mm_sf h a k v) := by
  have e : h a = .inr (ci, mm_cfs h a 0 fs) := c a _ hs
  rw [← mm_sf_eq e]
  refine c.up (fun s' hs' => ?_)
  obtain rfl := Option.some.inj (hs'.symm.trans hs)
  show (Sum.inr (ci, (mm_cfs h a 0 fs).set k v) : mm_E) = Sum.inr (ci, mm_cfs _ a 0 fs)
  rw [cfs_ok (vs := (mm_cfs h a 0 fs).set k v) mm_up_s fs 0 (fun j s2 q => ?_) (by rw [List.length_set, cfs_len, Nat.zero_add]), List.drop_zero]
  rw [Nat.zero_add]
  by_cases hj : j = k
  · subst hj
    obtain rfl := Option.some.inj (q.symm.trans hk)
    exact ⟨v, by rw [List.getElem?_set_self (by rw [cfs_len]; exact (List.getElem?_eq_some_iff.mp hk).1)], ok⟩
  · obtain ⟨v2, h2, h3⟩ := cfs_get h a fs 0 j s2 q
    exact ⟨v2, by rw [List.getElem?_set_ne (Ne.symm hj)]; exact h2, h3⟩
theorem PS.si {h : mm_H} (c : PS h) {a N : Nat} {ty : FieldType} (hs : mm_sh a = some (.inl (ty, N))) (ht : ty = .int ∨ ty = .byte ∨ ty = .boolean) (i : Nat) (x : Int32) : PS (mm_si h a i x) := by
  have e : h a = .inl (ty, N, .inl (iA h a)) := by rcases ht with rfl | rfl | rfl <;> exact c a _ hs
  rw [← mm_si_eq e]
  refine c.up (fun s' hs' => ?_)
  obtain rfl := Option.some.inj (hs'.symm.trans hs)
  have e2 : iA (mm_up h a (.inl (ty, N, .inl (upd (iA h a) i x)))) a = upd (iA h a) i x := by
    unfold iA
    rw [mm_up_s]
  rcases ht with rfl | rfl | rfl <;> (show _ = (Sum.inl (_, N, .inl (iA (mm_up h a _) a)) : mm_E); rw [e2])
theorem PS.sj {h : mm_H} (c : PS h) {a N : Nat} (hs : mm_sh a = some (.inl (.long, N))) (i : Nat) (x : Int64) : PS (mm_sj h a i x) := by
  have e : h a = .inl (.long, N, .inr (.inl (jA h a))) := c a _ hs
  have e1 : mm_sj h a i x = mm_up h a (.inl (.long, N, .inr (.inl (vp_updL (jA h a) i x)))) := by
    unfold mm_sj
    rw [e]
  rw [e1]
  refine c.up (fun s' hs' => ?_)
  obtain rfl := Option.some.inj (hs'.symm.trans hs)
  have e2 : jA (mm_up h a (.inl (.long, N, .inr (.inl (vp_updL (jA h a) i x))))) a = vp_updL (jA h a) i x := by
    unfold jA
    rw [mm_up_s]
  show _ = (Sum.inl (_, N, .inr (.inl (jA (mm_up h a _) a))) : mm_E)
  rw [e2]
theorem PS.sr {h : mm_H} (c : PS h) {a N : Nat} {Cn : String} (hs : mm_sh a = some (.inl (.object Cn, N))) (i : Nat) (x : Option Nat) : PS (mm_sr h a i x) := by
  have e : h a = .inl (.object Cn, N, .inr (.inr (.inr (.inr (rA h a))))) := c a _ hs
  have e1 : mm_sr h a i x = mm_up h a (.inl (.object Cn, N, .inr (.inr (.inr (.inr (va_up (rA h a) i x)))))) := by
    unfold mm_sr
    rw [e]
  rw [e1]
  refine c.up (fun s' hs' => ?_)
  obtain rfl := Option.some.inj (hs'.symm.trans hs)
  have e2 : rA (mm_up h a (.inl (.object Cn, N, .inr (.inr (.inr (.inr (va_up (rA h a) i x))))))) a = va_up (rA h a) i x := by
    unfold rA
    rw [mm_up_s]
  show _ = (Sum.inl (_, N, .inr (.inr (.inr (.inr (rA (mm_up h a _) a))))) : mm_E)
  rw [e2]
theorem PS.top {h : mm_H} (c : PS h) {a : Nat} (ha : 159 ≤ a) (e : mm_E) : PS (mm_up h a e) := c.up (fun s q => by rw [mm_sh_top ha] at q; cases q)

section MEM
variable {h : mm_H}
theorem fI_sf_n {a b : Nat} (q : b ≠ a) (k : Nat) (v : Value) (j : Nat) : fI (mm_sf h a k v) b j = fI h b j := fI_c (mm_up_n q) j
theorem fJ_sf_n {a b : Nat} (q : b ≠ a) (k : Nat) (v : Value) (j : Nat) : fJ (mm_sf h a k v) b j = fJ h b j := fJ_c (mm_up_n q) j
theorem fR_sf_n {a b : Nat} (q : b ≠ a) (k : Nat) (v : Value) (j : Nat) : fR (mm_sf h a k v) b j = fR h b j := fR_c (mm_up_n q) j
theorem iA_sf (a b : Nat) (k : Nat) (v : Value) : iA (mm_sf h a k v) b = iA h b := by
  by_cases q : b = a
  · subst q
    unfold iA mm_sf
    rw [mm_up_s]
    rcases hb : h b with ⟨ty, N, f | f | f | f | f⟩ | p <;> rfl
  · exact iA_c (mm_up_n q)
theorem jA_sf (a b : Nat) (k : Nat) (v : Value) : jA (mm_sf h a k v) b = jA h b := by
  by_cases q : b = a
  · subst q
    unfold jA mm_sf
    rw [mm_up_s]
    rcases hb : h b with ⟨ty, N, f | f | f | f | f⟩ | p <;> rfl
  · exact jA_c (mm_up_n q)
theorem rA_sf (a b : Nat) (k : Nat) (v : Value) : rA (mm_sf h a k v) b = rA h b := by
  by_cases q : b = a
  · subst q
    unfold rA mm_sf
    rw [mm_up_s]
    rcases hb : h b with ⟨ty, N, f | f | f | f | f⟩ | p <;> rfl
  · exact rA_c (mm_up_n q)
theorem fI_si (a b : Nat) (i : Nat) (x : Int32) (j : Nat) : fI (mm_si h a i x) b j = fI h b j := by
  by_cases q : b = a
  · subst q
    unfold fI mm_si
    rw [mm_up_s]
    rcases hb : h b with ⟨ty, N, f | f | f | f | f⟩ | p <;> rfl
  · exact fI_c (mm_up_n q) j
theorem fJ_si (a b : Nat) (i : Nat) (x : Int32) (j : Nat) : fJ (mm_si h a i x) b j = fJ h b j := by
  by_cases q : b = a
  · subst q
    unfold fJ mm_si
    rw [mm_up_s]
    rcases hb : h b with ⟨ty, N, f | f | f | f | f⟩ | p <;> rfl
  · exact fJ_c (mm_up_n q) j
theorem fR_si (a b : Nat) (i : Nat) (x : Int32) (j : Nat) : fR (mm_si h a i x) b j = fR h b j := by
  by_cases q : b = a
  · subst q
    unfold fR mm_si
    rw [mm_up_s]
    rcases hb : h b with ⟨ty, N, f | f | f | f | f⟩ | p <;> rfl
  · exact fR_c (mm_up_n q) j
theorem iA_si_n {a b : Nat} (q : b ≠ a) (i : Nat) (x : Int32) : iA (mm_si h a i x) b = iA h b := iA_c (mm_up_n q)
theorem jA_si (a b : Nat) (i : Nat) (x : Int32) : jA (mm_si h a i x) b = jA h b := by
  by_cases q : b = a
  · subst q
    unfold jA mm_si
    rw [mm_up_s]
    rcases hb : h b with ⟨ty, N, f | f | f | f | f⟩ | p <;> rfl
  · exact jA_c (mm_up_n q)
theorem rA_si (a b : Nat) (i : Nat) (x : Int32) : rA (mm_si h a i x) b = rA h b := by
  by_cases q : b = a
  · subst q
    unfold rA mm_si
    rw [mm_up_s]
    rcases hb : h b with ⟨ty, N, f | f | f | f | f⟩ | p <;> rfl
  · exact rA_c (mm_up_n q)
theorem fI_sj (a b : Nat) (i : Nat) (x : Int64) (j : Nat) : fI (mm_sj h a i x) b j = fI h b j := by
  by_cases q : b = a
  · subst q
    unfold fI mm_sj
    rw [mm_up_s]
    rcases hb : h b with ⟨ty, N, f | f | f | f | f⟩ | p <;> rfl
  · exact fI_c (mm_up_n q) j
theorem fJ_sj (a b : Nat) (i : Nat) (x : Int64) (j : Nat) : fJ (mm_sj h a i x) b j = fJ h b j := by
  by_cases q : b = a
  · subst q
    unfold fJ mm_sj
    rw [mm_up_s]
    rcases hb : h b with ⟨ty, N, f | f | f | f | f⟩ | p <;> rfl
  · exact fJ_c (mm_up_n q) j
theorem fR_sj (a b : Nat) (i : Nat) (x : Int64) (j : Nat) : fR (mm_sj h a i x) b j = fR h b j := by
  by_cases q : b = a
  · subst q
    unfold fR mm_sj
    rw [mm_up_s]
    rcases hb : h b with ⟨ty, N, f | f | f | f | f⟩ | p <;> rfl
  · exact fR_c (mm_up_n q) j
theorem iA_sj (a b : Nat) (i : Nat) (x : Int64) : iA (mm_sj h a i x) b = iA h b := by
  by_cases q : b = a
  · subst q
    unfold iA mm_sj
    rw [mm_up_s]
    rcases hb : h b with ⟨ty, N, f | f | f | f | f⟩ | p <;> rfl
  · exact iA_c (mm_up_n q)
theorem jA_sj_n {a b : Nat} (q : b ≠ a) (i : Nat) (x : Int64) : jA (mm_sj h a i x) b = jA h b := jA_c (mm_up_n q)
theorem rA_sj (a b : Nat) (i : Nat) (x : Int64) : rA (mm_sj h a i x) b = rA h b := by
  by_cases q : b = a
  · subst q
    unfold rA mm_sj
    rw [mm_up_s]
    rcases hb : h b with ⟨ty, N, f | f | f | f | f⟩ | p <;> rfl
  · exact rA_c (mm_up_n q)
theorem fI_sr (a b : Nat) (i : Nat) (x : Option Nat) (j : Nat) : fI (mm_sr h a i x) b j = fI h b j := by
  by_cases q : b = a
  · subst q
    unfold fI mm_sr
    rw [mm_up_s]
    rcases hb : h b with ⟨ty, N, f | f | f | f | f⟩ | p <;> rfl
  · exact fI_c (mm_up_n q) j
theorem fJ_sr (a b : Nat) (i : Nat) (x : Option Nat) (j : Nat) : fJ (mm_sr h a i x) b j = fJ h b j := by
  by_cases q : b = a
  · subst q
    unfold fJ mm_sr
    rw [mm_up_s]
    rcases hb : h b with ⟨ty, N, f | f | f | f | f⟩ | p <;> rfl
  · exact fJ_c (mm_up_n q) j
theorem fR_sr (a b : Nat) (i : Nat) (x : Option Nat) (j : Nat) : fR (mm_sr h a i x) b j = fR h b j := by
  by_cases q : b = a
  · subst q
    unfold fR mm_sr
    rw [mm_up_s]
    rcases hb : h b with ⟨ty, N, f | f | f | f | f⟩ | p <;> rfl
  · exact fR_c (mm_up_n q) j
theorem iA_sr (a b : Nat) (i : Nat) (x : Option Nat) : iA (mm_sr h a i x) b = iA h b := by
  by_cases q : b = a
  · subst q
    unfold iA mm_sr
    rw [mm_up_s]
    rcases hb : h b with ⟨ty, N, f | f | f | f | f⟩ | p <;> rfl
  · exact iA_c (mm_up_n q)
theorem jA_sr (a b : Nat) (i : Nat) (x : Option Nat) : jA (mm_sr h a i x) b = jA h b := by
  by_cases q : b = a
  · subst q
    unfold jA mm_sr
    rw [mm_up_s]
    rcases hb : h b with ⟨ty, N, f | f | f | f | f⟩ | p <;> rfl
  · exact jA_c (mm_up_n q)
theorem rA_sr_n {a b : Nat} (q : b ≠ a) (i : Nat) (x : Option Nat) : rA (mm_sr h a i x) b = rA h b := rA_c (mm_up_n q)
theorem iA_si_s {a N : Nat} {ty : FieldType} {f : Nat → Int32} (e : h a = .inl (ty, N, .inl f)) (i : Nat) (x : Int32) : iA (mm_si h a i x) a = upd (iA h a) i x := by
  unfold iA mm_si
  rw [mm_up_s, e]
theorem jA_sj_s {a N : Nat} {ty : FieldType} {f : Nat → Int64} (e : h a = .inl (ty, N, .inr (.inl f))) (i : Nat) (x : Int64) : jA (mm_sj h a i x) a = vp_updL (jA h a) i x := by
  unfold jA mm_sj
  rw [mm_up_s, e]
theorem rA_sr_s {a N : Nat} {ty : FieldType} {f : Nat → Option Nat} (e : h a = .inl (ty, N, .inr (.inr (.inr (.inr f))))) (i : Nat) (x : Option Nat) : rA (mm_sr h a i x) a = va_up (rA h a) i x := by
  unfold rA mm_sr
  rw [mm_up_s, e]
theorem fI_sf_o {a k j : Nat} (q : j ≠ k) (v : Value) : fI (mm_sf h a k v) a j = fI h a j := by
  unfold fI mm_sf
  rw [mm_up_s]
  rcases hb : h a with y | p
  · rfl
  · show (match (p.2.set k v)[j]? with | _ => _) = _
    rw [List.getElem?_set_ne (Ne.symm q)]
theorem fJ_sf_o {a k j : Nat} (q : j ≠ k) (v : Value) : fJ (mm_sf h a k v) a j = fJ h a j := by
  unfold fJ mm_sf
  rw [mm_up_s]
  rcases hb : h a with y | p
  · rfl
  · show (match (p.2.set k v)[j]? with | _ => _) = _
    rw [List.getElem?_set_ne (Ne.symm q)]
theorem fR_sf_o {a k j : Nat} (q : j ≠ k) (v : Value) : fR (mm_sf h a k v) a j = fR h a j := by
  unfold fR mm_sf
  rw [mm_up_s]
  rcases hb : h a with y | p
  · rfl
  · show (match (p.2.set k v)[j]? with | _ => _) = _
    rw [List.getElem?_set_ne (Ne.symm q)]
theorem fI_sf_s {a k ci : Nat} {fs : List Value} (e : h a = .inr (ci, fs)) (hl : k < fs.length) (x : Int32) : fI (mm_sf h a k (.int x)) a k = x := by
  unfold fI
  rw [mm_sf_at e]
  show (match (fs.set k (.int x))[k]? with | _ => _) = _
  rw [List.getElem?_set_self hl]
theorem fJ_sf_s {a k ci : Nat} {fs : List Value} (e : h a = .inr (ci, fs)) (hl : k < fs.length) (x : Int64) : fJ (mm_sf h a k (.long x)) a k = x := by
  unfold fJ
  rw [mm_sf_at e]
  show (match (fs.set k (.long x))[k]? with | _ => _) = _
  rw [List.getElem?_set_self hl]
end MEM

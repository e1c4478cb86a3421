/-! ===== null into a row of references ===== -/
section MMNL
variable {w : mm_X} {G : mm_G} {cc : ByteArray} {own nm : String} {nL mc ms d pc n kc ks : Nat} {ret : Option FieldType} {Q : State → Prop} {L : List (Option Value)} {st : List Value} {h : mm_H}
theorem rr_aastN (C : mm_C w G cc own nL mc ms ret d nm) {a N t0 : Nat} {Cn : String} {f : Nat → Option Nat} {i : Int32} (hd : decode cc pc = .ok (.aastore, 1)) (ha : 48 ≤ a ∧ a < n) (he : h a = .inl (.object Cn, N, .inr (.inr (.inr (.inr f))))) (ht : mm_tys[t0]? = some (.object Cn)) (hin : vp_in i N)
    (kk : WW w G nL mc ms Q (pc + 1) L st (mm_up h a (.inl (.object Cn, N, .inr (.inr (.inr (.inr (va_up f i.toNatClampNeg none))))))) n kc ks) : WW w G nL mc ms Q pc L (.null :: .int i :: .ref a :: st) h n kc ks := by
  obtain ⟨p, l, e, R, s, m, args, below, meth, c⟩ := w
  intro ls H locs cells slots hL hR hS hc hs
  have h1 := hR.2.2.1 a ha.1 ha.2
  rw [he] at h1
  have ht' : (mm_T G)[t0]? = some (G.2.1 (.object Cn), .object Cn) := by unfold mm_T; rw [List.getElem?_map, ht]; rfl
  refine va_WaastN (C := Cn) C.1 C.2.1 (mm_one h1 0 _ rfl) ((C.2.2.2.2.2.1.2 t0 _ ht').1 N (fun j => va_rf ((f j).map (mm_a G)))) (fun h => by cases h) (by show ¬ (i < 0 ∨ (arrV _ _ _).slots.size ≤ _); rw [arrV_size]; exact hin) rfl rfl hd fun H1 e z oq => ?_
  refine kk ls H1 _ cells slots hL (hR.upd ha ?_ z oq) (hS.put z oq (mm_inA hR ha)) hc hs
  show H1[mm_a G a]? = some (vp_cell (G.2.1 (.object Cn)) (N, .inr (.inr (.inr (.inr _)))))
  rw [e]
  show some ((vp_cell (G.2.1 (.object Cn)) (N, .inr (.inr (.inr (.inr _))))).setSlot _ _) = _
  rw [vp_cell_q, vp_cell_q, arrV_store]
  congr 2
  funext q
  by_cases hq : q = i.toNatClampNeg
  · subst hq
    simp [updV, va_up, va_rf]
  · simp [updV, va_up, hq]
theorem rr_stRN (C : mm_C w G cc own nL mc ms ret d nm) {a t0 : Nat} {Cn : String} {i : Int32} {h1 : mm_H} (hd : decode cc pc = .ok (.aastore, 1)) (ht : mm_tys[t0]? = some (.object Cn)) (e : stRN h n a t0 i = some h1) (kk : WW w G nL mc ms Q (pc + 1) L st h1 n kc ks) : WW w G nL mc ms Q pc L (.null :: .int i :: .ref a :: st) h n kc ks := by
  unfold stRN at e
  split at e
  · rename_i ha
    split at e
    · rename_i c N f hx
      split at e
      · rename_i hi
        obtain rfl := Option.some.inj e
        have hc : c = Cn := FieldType.object.inj (Option.some.inj (hi.1.symm.trans ht))
        subst hc
        refine rr_aastN C hd ha hx ht (inb_vp hi.2) ?_
        have e1 : mm_sr h a i.toNatClampNeg none = mm_up h a (.inl (.object c, N, .inr (.inr (.inr (.inr (va_up f i.toNatClampNeg none)))))) := by
          unfold mm_sr
          rw [hx]
        rw [← e1]
        exact kk
      · cases e
    · cases e
  · cases e
end MMNL

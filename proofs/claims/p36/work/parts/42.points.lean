/-! ===== the calls points, moves ===== -/
section CALLP
variable {K n : Nat} {h : mm_H}
theorem SE_FB {g : mm_H} (s : SE h g) : FB h g :=
  ⟨fun a ha => s.1 a (by omega), fI_c (s.1 48 (by omega)) 7, fR_c (s.1 48 (by omega)) 8, fI_c (s.1 48 (by omega)) 10, fI_c (s.1 151 (by omega)) 5, fI_c (s.1 48 (by omega)) 5⟩
theorem SE_JF {g : mm_H} (s : SE h g) (j : JF h) : JF g := by
  unfold JF at j ⊢
  rw [fI_c (s.1 49 (by omega)), iA_c (s.1 50 (by omega))]
  exact j
theorem PtL_flt {g : mm_H} (u : JA g) {F fm hd r dr : Nat} (hF : F ≤ 11) (hhd : hd ≤ 3) (hdr : dr ≤ 2) (hr : r ≤ 2) {bt : Int32} : flt (-1) (PtL g F fm bt hd r dr) = PtL g F fm bt hd r dr := flt_none fun p hp => by
  have := (PtL_ok u hF hhd hdr hr p hp).1
  omega
end CALLP

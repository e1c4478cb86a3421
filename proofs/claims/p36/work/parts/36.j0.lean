/-! ===== the first heap has what stands between the calls ===== -/
section FIRST
theorem fI_of {h : mm_H} {a ci k : Nat} {fs : List Value} {x : Int32} (e : h a = .inr (ci, fs)) (q : fs[k]? = some (.int x)) : fI h a k = x := by
  unfold fI
  rw [e]
  show (match fs[k]? with | some (.int x) => x | _ => 0) = x
  rw [q]
theorem fR_of {h : mm_H} {a ci k : Nat} {fs : List Value} (e : h a = .inr (ci, fs)) (q : fs[k]? = some .null) : fR h a k = none := by
  unfold fR
  rw [e]
  show (match fs[k]? with | some (.ref x) => some x | _ => none) = none
  rw [q]
theorem iA_of {h : mm_H} {a N : Nat} {ty : FieldType} {f : Nat → Int32} (e : h a = .inl (ty, N, .inl f)) : iA h a = f := by
  unfold iA
  rw [e]
theorem jA_of {h : mm_H} {a N : Nat} {ty : FieldType} {f : Nat → Int64} (e : h a = .inl (ty, N, .inr (.inl f))) : jA h a = f := by
  unfold jA
  rw [e]
theorem B0_JR {h : mm_H} {L : Nat} {xs : Nat → Int32} (b : B0 h L xs) : JR h := by
  have e := b.2
  refine ⟨?_, ?_, ?_, ?_, ?_, ?_, ?_⟩
  · unfold JT
    rw [fI_of (x := 0) (e 1 _ rfl) rfl, iA_of (e 110 _ rfl)]
    exact ⟨⟨0, rfl, by omega⟩, rfl, rfl⟩
  · unfold JF
    rw [fI_of (x := 0) (e 1 _ rfl) rfl, iA_of (e 2 _ rfl)]
    exact ⟨⟨0, rfl, by omega⟩, rfl, fun i _ => rfl⟩
  · unfold JA
    rw [fI_of (x := 0) (e 3 _ rfl) rfl, iA_of (e 4 _ rfl), iA_of (e 5 _ rfl), iA_of (e 6 _ rfl), iA_of (e 7 _ rfl)]
    refine ⟨rfl, rfl, rfl, rfl, rfl, 0, rfl, by omega, fun i hi => by omega, fun k hk => Or.inl ?_⟩
    show (if k < 2805 then (-1 : Int32) else 0) = -1
    rw [if_pos hk]
  · unfold JW
    rw [fI_of (x := 0) (k := 4) (e 8 _ rfl) rfl, fI_of (x := 0) (k := 5) (e 8 _ rfl) rfl, iA_of (e 9 _ rfl), iA_of (e 10 _ rfl), iA_of (e 11 _ rfl), iA_of (e 12 _ rfl)]
    exact ⟨rfl, rfl, rfl, rfl, 0, rfl, by omega, rfl, fun i hi => by omega⟩
  · unfold JB
    rw [fI_of (x := 0) (e 13 _ rfl) rfl, iA_of (e 14 _ rfl), iA_of (e 15 _ rfl), iA_of (e 16 _ rfl), iA_of (e 17 _ rfl), iA_of (e 18 _ rfl)]
    exact ⟨rfl, rfl, rfl, rfl, rfl, rfl, 0, rfl, by omega, fun i hi => by omega⟩
  · unfold JL
    rw [fI_of (x := 0) (e 19 _ rfl) rfl, iA_of (e 20 _ rfl), iA_of (e 21 _ rfl), iA_of (e 22 _ rfl), iA_of (e 23 _ rfl), iA_of (e 24 _ rfl)]
    exact ⟨rfl, rfl, rfl, rfl, rfl, fun _ => rfl, 0, rfl, by omega⟩
  · unfold JP
    rw [fI_of (x := 0) (e 0 _ rfl) rfl, iA_of (e 107 _ rfl)]
    exact ⟨⟨0, rfl, by omega⟩, rfl, fun _ => (show (0 : Int32) = 0 &&& 255 by decide)⟩
theorem B0_JN {h : mm_H} {L : Nat} {xs : Nat → Int32} (b : B0 h L xs) : JN h := by
  have e := b.2
  unfold JN
  rw [fI_of (x := 0) (k := 7) (e 0 _ rfl) rfl, fR_of (k := 8) (e 0 _ rfl) rfl, fI_of (x := 0) (k := 10) (e 0 _ rfl) rfl]
  exact ⟨⟨0, rfl, by omega⟩, ⟨0, rfl, by omega⟩, rfl⟩
end FIRST

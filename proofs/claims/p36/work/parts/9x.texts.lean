/-! ===== the two texts are one ===== -/
section LAWX
variable {P : Nat → Nat} {le ti : Bool}
theorem big_1 (a0 a1 a2 a3 a4 a5 a6 a7 a8 a9 b0 b1 b2 b3 b4 b5 b6 b7 b8 b9 c0 c1 c2 c3 c4 c5 c6 c7 c8 c9 d0 : List Nat) : ((((((((((((((((((((((((((((((a0 ++ a1) ++ a2) ++ a3) ++ a4) ++ a5) ++ a6) ++ a7) ++ a8) ++ a9) ++ b0) ++ b1) ++ b2) ++ b3) ++ b4) ++ b5) ++ b6) ++ b7) ++ b8) ++ b9) ++ c0) ++ c1) ++ c2) ++ c3) ++ c4) ++ c5) ++ c6) ++ c7) ++ c8) ++ c9) ++ d0) = a0 ++ (a1 ++ (a2 ++ (a3 ++ (a4 ++ (a5 ++ (a6 ++ (a7 ++ (a8 ++ (a9 ++ (b0 ++ (b1 ++ (b2 ++ (b3 ++ (b4 ++ (b5 ++ (b6 ++ (b7 ++ (b8 ++ (b9 ++ (c0 ++ (c1 ++ (c2 ++ (c3 ++ (c4 ++ (c5 ++ (c6 ++ (c7 ++ (c8 ++ (c9 ++ d0))))))))))))))))))))))))))))) := by
  simp only [List.append_assoc]
theorem big_eq : bigT P le ti = lawR P (wLM le) ti := by
  cases le
  · cases ti
    · refine (big_1 [] (tlN 0) (dg (P 2)) (tlN 1) (dg (P 3)) (tlN 2) (dg (P 4)) (tlN 3) (dg (P 5)) (tlN 4) (tiT P false) (tlN 8) (dg (P 7)) (tlN 9) (dg (P 8)) (tlN 10) (dg (P 9)) (tlN 11) (dg (P 10)) (tlN 12) (tlN (if false = true then 13 else 14)) (dg (P 11)) (tlN 15) (dg (P 12)) (tlN 16) (dg (P 13)) (tlN 17) (dg (P 14)) (tlN 18) (dg (P 15)) (tlN 6)).trans ?_
      rw [List.nil_append, tA_0, tA_1, tA_2, tA_3, tA_4, ti_f, tA_7, tA_8, tA_9, tA_10, tA_11, tA_12, tA_m, tA_15, tA_16, tA_17, tA_18, tA_e]
      rfl
    · refine (big_1 [] (tlN 0) (dg (P 2)) (tlN 1) (dg (P 3)) (tlN 2) (dg (P 4)) (tlN 3) (dg (P 5)) (tlN 4) (tiT P true) (tlN 8) (dg (P 7)) (tlN 9) (dg (P 8)) (tlN 10) (dg (P 9)) (tlN 11) (dg (P 10)) (tlN 12) (tlN (if false = true then 13 else 14)) (dg (P 11)) (tlN 15) (dg (P 12)) (tlN 16) (dg (P 13)) (tlN 17) (dg (P 14)) (tlN 18) (dg (P 15)) (tlN 6)).trans ?_
      rw [List.nil_append, tA_0, tA_1, tA_2, tA_3, tA_4, ti_t, List.append_assoc (tlN 5), List.append_assoc (dg (P 6)), tA_5, tA_6, tA_8, tA_9, tA_10, tA_11, tA_12, tA_m, tA_15, tA_16, tA_17, tA_18, tA_e]
      rfl
  · cases ti
    · refine (big_1 [] (tlN 0) (dg (P 2)) (tlN 1) (dg (P 3)) (tlN 2) (dg (P 4)) (tlN 3) (dg (P 5)) (tlN 4) (tiT P false) (tlN 8) (dg (P 7)) (tlN 9) (dg (P 8)) (tlN 10) (dg (P 9)) (tlN 11) (dg (P 10)) (tlN 12) (tlN (if true = true then 13 else 14)) (dg (P 11)) (tlN 15) (dg (P 12)) (tlN 16) (dg (P 13)) (tlN 17) (dg (P 14)) (tlN 18) (dg (P 15)) (tlN 6)).trans ?_
      rw [List.nil_append, tA_0, tA_1, tA_2, tA_3, tA_4, ti_f, tA_7, tA_8, tA_9, tA_10, tA_11, tA_12, tA_l, tA_15, tA_16, tA_17, tA_18, tA_e]
      rfl
    · refine (big_1 [] (tlN 0) (dg (P 2)) (tlN 1) (dg (P 3)) (tlN 2) (dg (P 4)) (tlN 3) (dg (P 5)) (tlN 4) (tiT P true) (tlN 8) (dg (P 7)) (tlN 9) (dg (P 8)) (tlN 10) (dg (P 9)) (tlN 11) (dg (P 10)) (tlN 12) (tlN (if true = true then 13 else 14)) (dg (P 11)) (tlN 15) (dg (P 12)) (tlN 16) (dg (P 13)) (tlN 17) (dg (P 14)) (tlN 18) (dg (P 15)) (tlN 6)).trans ?_
      rw [List.nil_append, tA_0, tA_1, tA_2, tA_3, tA_4, ti_t, List.append_assoc (tlN 5), List.append_assoc (dg (P 6)), tA_5, tA_6, tA_8, tA_9, tA_10, tA_11, tA_12, tA_l, tA_15, tA_16, tA_17, tA_18, tA_e]
      rfl
end LAWX

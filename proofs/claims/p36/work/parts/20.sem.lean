section SEM
variable {h : mm_H} {n : Nat}
theorem gq_48 (c : PS h) (hn : 159 ≤ n) : ckq h n 48 9 = some () := by unfold ckq ckr; rw [cs_48 c]; simp; omega
theorem g_48_0 (c : PS h) (hn : 159 ≤ n) : rdR h n 48 9 0 = some (some 49) := by unfold rdR; rw [if_pos ⟨by decide, by omega⟩, cs_48 c]; rfl
theorem g_48_1 (c : PS h) (hn : 159 ≤ n) : rdR h n 48 9 1 = some (some 73) := by unfold rdR; rw [if_pos ⟨by decide, by omega⟩, cs_48 c]; rfl
theorem g_48_2 (c : PS h) (hn : 159 ≤ n) : rdR h n 48 9 2 = some (some 147) := by unfold rdR; rw [if_pos ⟨by decide, by omega⟩, cs_48 c]; rfl
theorem g_48_3 (c : PS h) (hn : 159 ≤ n) : rdR h n 48 9 3 = some (some 151) := by unfold rdR; rw [if_pos ⟨by decide, by omega⟩, cs_48 c]; rfl
theorem g_48_4 (c : PS h) (hn : 159 ≤ n) : rdR h n 48 9 4 = some (some 155) := by unfold rdR; rw [if_pos ⟨by decide, by omega⟩, cs_48 c]; rfl
theorem g_48_5 (c : PS h) (hn : 159 ≤ n) : rdI h n 48 9 5 = some (fI h 48 5) := by unfold rdI; rw [if_pos ⟨by decide, by omega⟩, cs_48 c]; rfl
theorem p_48_5 (c : PS h) (hn : 159 ≤ n) (v : Value) : wrF h n 48 9 5 v = some (mm_sf h 48 5 v) := by unfold wrF; rw [if_pos ⟨by decide, by omega⟩, cs_48 c]; rfl
theorem g_48_6 (c : PS h) (hn : 159 ≤ n) : rdR h n 48 9 6 = some (some 156) := by unfold rdR; rw [if_pos ⟨by decide, by omega⟩, cs_48 c]; rfl
theorem g_48_7 (c : PS h) (hn : 159 ≤ n) : rdI h n 48 9 7 = some (fI h 48 7) := by unfold rdI; rw [if_pos ⟨by decide, by omega⟩, cs_48 c]; rfl
theorem p_48_7 (c : PS h) (hn : 159 ≤ n) (v : Value) : wrF h n 48 9 7 v = some (mm_sf h 48 7 v) := by unfold wrF; rw [if_pos ⟨by decide, by omega⟩, cs_48 c]; rfl
theorem g_48_8 (c : PS h) (hn : 159 ≤ n) : rdR h n 48 9 8 = some (fR h 48 8) := by unfold rdR; rw [if_pos ⟨by decide, by omega⟩, cs_48 c]; cases fR h 48 8 <;> rfl
theorem p_48_8 (c : PS h) (hn : 159 ≤ n) (v : Value) : wrF h n 48 9 8 v = some (mm_sf h 48 8 v) := by unfold wrF; rw [if_pos ⟨by decide, by omega⟩, cs_48 c]; rfl
theorem g_48_9 (c : PS h) (hn : 159 ≤ n) : rdR h n 48 9 9 = some (some 157) := by unfold rdR; rw [if_pos ⟨by decide, by omega⟩, cs_48 c]; rfl
theorem g_48_10 (c : PS h) (hn : 159 ≤ n) : rdI h n 48 9 10 = some (fI h 48 10) := by unfold rdI; rw [if_pos ⟨by decide, by omega⟩, cs_48 c]; rfl
theorem p_48_10 (c : PS h) (hn : 159 ≤ n) (v : Value) : wrF h n 48 9 10 v = some (mm_sf h 48 10 v) := by unfold wrF; rw [if_pos ⟨by decide, by omega⟩, cs_48 c]; rfl
theorem g_48_11 (c : PS h) (hn : 159 ≤ n) : rdR h n 48 9 11 = some (some 158) := by unfold rdR; rw [if_pos ⟨by decide, by omega⟩, cs_48 c]; rfl
theorem gq_49 (c : PS h) (hn : 159 ≤ n) : ckq h n 49 4 = some () := by unfold ckq ckr; rw [cs_49 c]; simp; omega
theorem g_49_0 (c : PS h) (hn : 159 ≤ n) : rdR h n 49 4 0 = some (some 50) := by unfold rdR; rw [if_pos ⟨by decide, by omega⟩, cs_49 c]; rfl
theorem g_49_1 (c : PS h) (hn : 159 ≤ n) : rdR h n 49 4 1 = some (some 51) := by unfold rdR; rw [if_pos ⟨by decide, by omega⟩, cs_49 c]; rfl
theorem g_49_2 (c : PS h) (hn : 159 ≤ n) : rdR h n 49 4 2 = some (some 56) := by unfold rdR; rw [if_pos ⟨by decide, by omega⟩, cs_49 c]; rfl
theorem g_49_3 (c : PS h) (hn : 159 ≤ n) : rdR h n 49 4 3 = some (some 61) := by unfold rdR; rw [if_pos ⟨by decide, by omega⟩, cs_49 c]; rfl
theorem g_49_4 (c : PS h) (hn : 159 ≤ n) : rdR h n 49 4 4 = some (some 67) := by unfold rdR; rw [if_pos ⟨by decide, by omega⟩, cs_49 c]; rfl
theorem g_49_5 (c : PS h) (hn : 159 ≤ n) : rdI h n 49 4 5 = some (fI h 49 5) := by unfold rdI; rw [if_pos ⟨by decide, by omega⟩, cs_49 c]; rfl
theorem p_49_5 (c : PS h) (hn : 159 ≤ n) (v : Value) : wrF h n 49 4 5 v = some (mm_sf h 49 5 v) := by unfold wrF; rw [if_pos ⟨by decide, by omega⟩, cs_49 c]; rfl
theorem g_49_6 (c : PS h) (hn : 159 ≤ n) : rdI h n 49 4 6 = some (fI h 49 6) := by unfold rdI; rw [if_pos ⟨by decide, by omega⟩, cs_49 c]; rfl
theorem p_49_6 (c : PS h) (hn : 159 ≤ n) (v : Value) : wrF h n 49 4 6 v = some (mm_sf h 49 6 v) := by unfold wrF; rw [if_pos ⟨by decide, by omega⟩, cs_49 c]; rfl
theorem gl_50 (c : PS h) (hn : 159 ≤ n) : lenA h n 50 0 = some 11 := by unfold lenA; rw [if_pos ⟨by decide, by omega⟩, cs_50 c]; rfl
theorem ge_50 (c : PS h) (hn : 159 ≤ n) (i : Int32) : ldI h n 50 i = if inb i 11 = true then some (iA h 50 i.toNatClampNeg) else none := by unfold ldI; rw [if_pos (by omega), cs_50 c]
theorem pe_50 (c : PS h) (hn : 159 ≤ n) (i x : Int32) : stI h n 50 i x = if inb i 11 = true then some (mm_si h 50 i.toNatClampNeg x) else none := by unfold stI; rw [if_pos ⟨by decide, by omega⟩, cs_50 c]
theorem gq_51 (c : PS h) (hn : 159 ≤ n) : ckq h n 51 0 = some () := by unfold ckq ckr; rw [cs_51 c]; simp; omega
theorem g_51_0 (c : PS h) (hn : 159 ≤ n) : rdR h n 51 0 0 = some (some 52) := by unfold rdR; rw [if_pos ⟨by decide, by omega⟩, cs_51 c]; rfl
theorem g_51_1 (c : PS h) (hn : 159 ≤ n) : rdR h n 51 0 1 = some (some 53) := by unfold rdR; rw [if_pos ⟨by decide, by omega⟩, cs_51 c]; rfl
theorem g_51_2 (c : PS h) (hn : 159 ≤ n) : rdR h n 51 0 2 = some (some 54) := by unfold rdR; rw [if_pos ⟨by decide, by omega⟩, cs_51 c]; rfl
theorem g_51_3 (c : PS h) (hn : 159 ≤ n) : rdR h n 51 0 3 = some (some 55) := by unfold rdR; rw [if_pos ⟨by decide, by omega⟩, cs_51 c]; rfl
theorem g_51_4 (c : PS h) (hn : 159 ≤ n) : rdI h n 51 0 4 = some (fI h 51 4) := by unfold rdI; rw [if_pos ⟨by decide, by omega⟩, cs_51 c]; rfl
theorem p_51_4 (c : PS h) (hn : 159 ≤ n) (v : Value) : wrF h n 51 0 4 v = some (mm_sf h 51 4 v) := by unfold wrF; rw [if_pos ⟨by decide, by omega⟩, cs_51 c]; rfl
theorem gl_52 (c : PS h) (hn : 159 ≤ n) : lenA h n 52 0 = some 500 := by unfold lenA; rw [if_pos ⟨by decide, by omega⟩, cs_52 c]; rfl
theorem ge_52 (c : PS h) (hn : 159 ≤ n) (i : Int32) : ldI h n 52 i = if inb i 500 = true then some (iA h 52 i.toNatClampNeg) else none := by unfold ldI; rw [if_pos (by omega), cs_52 c]
theorem pe_52 (c : PS h) (hn : 159 ≤ n) (i x : Int32) : stI h n 52 i x = if inb i 500 = true then some (mm_si h 52 i.toNatClampNeg x) else none := by unfold stI; rw [if_pos ⟨by decide, by omega⟩, cs_52 c]
theorem gl_53 (c : PS h) (hn : 159 ≤ n) : lenA h n 53 0 = some 500 := by unfold lenA; rw [if_pos ⟨by decide, by omega⟩, cs_53 c]; rfl
theorem ge_53 (c : PS h) (hn : 159 ≤ n) (i : Int32) : ldI h n 53 i = if inb i 500 = true then some (iA h 53 i.toNatClampNeg) else none := by unfold ldI; rw [if_pos (by omega), cs_53 c]
theorem pe_53 (c : PS h) (hn : 159 ≤ n) (i x : Int32) : stI h n 53 i x = if inb i 500 = true then some (mm_si h 53 i.toNatClampNeg x) else none := by unfold stI; rw [if_pos ⟨by decide, by omega⟩, cs_53 c]
theorem gl_54 (c : PS h) (hn : 159 ≤ n) : lenA h n 54 0 = some 500 := by unfold lenA; rw [if_pos ⟨by decide, by omega⟩, cs_54 c]; rfl
theorem ge_54 (c : PS h) (hn : 159 ≤ n) (i : Int32) : ldI h n 54 i = if inb i 500 = true then some (iA h 54 i.toNatClampNeg) else none := by unfold ldI; rw [if_pos (by omega), cs_54 c]
theorem pe_54 (c : PS h) (hn : 159 ≤ n) (i x : Int32) : stI h n 54 i x = if inb i 500 = true then some (mm_si h 54 i.toNatClampNeg x) else none := by unfold stI; rw [if_pos ⟨by decide, by omega⟩, cs_54 c]
theorem gl_55 (c : PS h) (hn : 159 ≤ n) : lenA h n 55 0 = some 2805 := by unfold lenA; rw [if_pos ⟨by decide, by omega⟩, cs_55 c]; rfl
theorem ge_55 (c : PS h) (hn : 159 ≤ n) (i : Int32) : ldI h n 55 i = if inb i 2805 = true then some (iA h 55 i.toNatClampNeg) else none := by unfold ldI; rw [if_pos (by omega), cs_55 c]
theorem pe_55 (c : PS h) (hn : 159 ≤ n) (i x : Int32) : stI h n 55 i x = if inb i 2805 = true then some (mm_si h 55 i.toNatClampNeg x) else none := by unfold stI; rw [if_pos ⟨by decide, by omega⟩, cs_55 c]
theorem gq_56 (c : PS h) (hn : 159 ≤ n) : ckq h n 56 8 = some () := by unfold ckq ckr; rw [cs_56 c]; simp; omega
theorem g_56_0 (c : PS h) (hn : 159 ≤ n) : rdR h n 56 8 0 = some (some 57) := by unfold rdR; rw [if_pos ⟨by decide, by omega⟩, cs_56 c]; rfl
theorem g_56_1 (c : PS h) (hn : 159 ≤ n) : rdR h n 56 8 1 = some (some 58) := by unfold rdR; rw [if_pos ⟨by decide, by omega⟩, cs_56 c]; rfl
theorem g_56_2 (c : PS h) (hn : 159 ≤ n) : rdR h n 56 8 2 = some (some 59) := by unfold rdR; rw [if_pos ⟨by decide, by omega⟩, cs_56 c]; rfl
theorem g_56_3 (c : PS h) (hn : 159 ≤ n) : rdR h n 56 8 3 = some (some 60) := by unfold rdR; rw [if_pos ⟨by decide, by omega⟩, cs_56 c]; rfl
theorem g_56_4 (c : PS h) (hn : 159 ≤ n) : rdI h n 56 8 4 = some (fI h 56 4) := by unfold rdI; rw [if_pos ⟨by decide, by omega⟩, cs_56 c]; rfl
theorem p_56_4 (c : PS h) (hn : 159 ≤ n) (v : Value) : wrF h n 56 8 4 v = some (mm_sf h 56 4 v) := by unfold wrF; rw [if_pos ⟨by decide, by omega⟩, cs_56 c]; rfl
theorem g_56_5 (c : PS h) (hn : 159 ≤ n) : rdI h n 56 8 5 = some (fI h 56 5) := by unfold rdI; rw [if_pos ⟨by decide, by omega⟩, cs_56 c]; rfl
theorem p_56_5 (c : PS h) (hn : 159 ≤ n) (v : Value) : wrF h n 56 8 5 v = some (mm_sf h 56 5 v) := by unfold wrF; rw [if_pos ⟨by decide, by omega⟩, cs_56 c]; rfl
theorem gl_57 (c : PS h) (hn : 159 ≤ n) : lenA h n 57 0 = some 40 := by unfold lenA; rw [if_pos ⟨by decide, by omega⟩, cs_57 c]; rfl
theorem ge_57 (c : PS h) (hn : 159 ≤ n) (i : Int32) : ldI h n 57 i = if inb i 40 = true then some (iA h 57 i.toNatClampNeg) else none := by unfold ldI; rw [if_pos (by omega), cs_57 c]
theorem pe_57 (c : PS h) (hn : 159 ≤ n) (i x : Int32) : stI h n 57 i x = if inb i 40 = true then some (mm_si h 57 i.toNatClampNeg x) else none := by unfold stI; rw [if_pos ⟨by decide, by omega⟩, cs_57 c]
theorem gl_58 (c : PS h) (hn : 159 ≤ n) : lenA h n 58 0 = some 40 := by unfold lenA; rw [if_pos ⟨by decide, by omega⟩, cs_58 c]; rfl
theorem ge_58 (c : PS h) (hn : 159 ≤ n) (i : Int32) : ldI h n 58 i = if inb i 40 = true then some (iA h 58 i.toNatClampNeg) else none := by unfold ldI; rw [if_pos (by omega), cs_58 c]
theorem pe_58 (c : PS h) (hn : 159 ≤ n) (i x : Int32) : stI h n 58 i x = if inb i 40 = true then some (mm_si h 58 i.toNatClampNeg x) else none := by unfold stI; rw [if_pos ⟨by decide, by omega⟩, cs_58 c]
theorem gl_59 (c : PS h) (hn : 159 ≤ n) : lenA h n 59 0 = some 40 := by unfold lenA; rw [if_pos ⟨by decide, by omega⟩, cs_59 c]; rfl
theorem ge_59 (c : PS h) (hn : 159 ≤ n) (i : Int32) : ldI h n 59 i = if inb i 40 = true then some (iA h 59 i.toNatClampNeg) else none := by unfold ldI; rw [if_pos (by omega), cs_59 c]
theorem pe_59 (c : PS h) (hn : 159 ≤ n) (i x : Int32) : stI h n 59 i x = if inb i 40 = true then some (mm_si h 59 i.toNatClampNeg x) else none := by unfold stI; rw [if_pos ⟨by decide, by omega⟩, cs_59 c]
theorem gl_60 (c : PS h) (hn : 159 ≤ n) : lenA h n 60 0 = some 40 := by unfold lenA; rw [if_pos ⟨by decide, by omega⟩, cs_60 c]; rfl
theorem ge_60 (c : PS h) (hn : 159 ≤ n) (i : Int32) : ldI h n 60 i = if inb i 40 = true then some (iA h 60 i.toNatClampNeg) else none := by unfold ldI; rw [if_pos (by omega), cs_60 c]
theorem pe_60 (c : PS h) (hn : 159 ≤ n) (i x : Int32) : stI h n 60 i x = if inb i 40 = true then some (mm_si h 60 i.toNatClampNeg x) else none := by unfold stI; rw [if_pos ⟨by decide, by omega⟩, cs_60 c]
theorem gq_61 (c : PS h) (hn : 159 ≤ n) : ckq h n 61 1 = some () := by unfold ckq ckr; rw [cs_61 c]; simp; omega
theorem g_61_0 (c : PS h) (hn : 159 ≤ n) : rdR h n 61 1 0 = some (some 62) := by unfold rdR; rw [if_pos ⟨by decide, by omega⟩, cs_61 c]; rfl
theorem g_61_1 (c : PS h) (hn : 159 ≤ n) : rdR h n 61 1 1 = some (some 63) := by unfold rdR; rw [if_pos ⟨by decide, by omega⟩, cs_61 c]; rfl
theorem g_61_2 (c : PS h) (hn : 159 ≤ n) : rdR h n 61 1 2 = some (some 64) := by unfold rdR; rw [if_pos ⟨by decide, by omega⟩, cs_61 c]; rfl
theorem g_61_3 (c : PS h) (hn : 159 ≤ n) : rdR h n 61 1 3 = some (some 65) := by unfold rdR; rw [if_pos ⟨by decide, by omega⟩, cs_61 c]; rfl
theorem g_61_4 (c : PS h) (hn : 159 ≤ n) : rdR h n 61 1 4 = some (some 66) := by unfold rdR; rw [if_pos ⟨by decide, by omega⟩, cs_61 c]; rfl
theorem g_61_5 (c : PS h) (hn : 159 ≤ n) : rdI h n 61 1 5 = some (fI h 61 5) := by unfold rdI; rw [if_pos ⟨by decide, by omega⟩, cs_61 c]; rfl
theorem p_61_5 (c : PS h) (hn : 159 ≤ n) (v : Value) : wrF h n 61 1 5 v = some (mm_sf h 61 5 v) := by unfold wrF; rw [if_pos ⟨by decide, by omega⟩, cs_61 c]; rfl
theorem gl_62 (c : PS h) (hn : 159 ≤ n) : lenA h n 62 0 = some 20 := by unfold lenA; rw [if_pos ⟨by decide, by omega⟩, cs_62 c]; rfl
theorem ge_62 (c : PS h) (hn : 159 ≤ n) (i : Int32) : ldI h n 62 i = if inb i 20 = true then some (iA h 62 i.toNatClampNeg) else none := by unfold ldI; rw [if_pos (by omega), cs_62 c]
theorem pe_62 (c : PS h) (hn : 159 ≤ n) (i x : Int32) : stI h n 62 i x = if inb i 20 = true then some (mm_si h 62 i.toNatClampNeg x) else none := by unfold stI; rw [if_pos ⟨by decide, by omega⟩, cs_62 c]
theorem gl_63 (c : PS h) (hn : 159 ≤ n) : lenA h n 63 0 = some 20 := by unfold lenA; rw [if_pos ⟨by decide, by omega⟩, cs_63 c]; rfl
theorem ge_63 (c : PS h) (hn : 159 ≤ n) (i : Int32) : ldI h n 63 i = if inb i 20 = true then some (iA h 63 i.toNatClampNeg) else none := by unfold ldI; rw [if_pos (by omega), cs_63 c]
theorem pe_63 (c : PS h) (hn : 159 ≤ n) (i x : Int32) : stI h n 63 i x = if inb i 20 = true then some (mm_si h 63 i.toNatClampNeg x) else none := by unfold stI; rw [if_pos ⟨by decide, by omega⟩, cs_63 c]
theorem gl_64 (c : PS h) (hn : 159 ≤ n) : lenA h n 64 0 = some 20 := by unfold lenA; rw [if_pos ⟨by decide, by omega⟩, cs_64 c]; rfl
theorem ge_64 (c : PS h) (hn : 159 ≤ n) (i : Int32) : ldI h n 64 i = if inb i 20 = true then some (iA h 64 i.toNatClampNeg) else none := by unfold ldI; rw [if_pos (by omega), cs_64 c]
theorem pe_64 (c : PS h) (hn : 159 ≤ n) (i x : Int32) : stI h n 64 i x = if inb i 20 = true then some (mm_si h 64 i.toNatClampNeg x) else none := by unfold stI; rw [if_pos ⟨by decide, by omega⟩, cs_64 c]
theorem gl_65 (c : PS h) (hn : 159 ≤ n) : lenA h n 65 0 = some 20 := by unfold lenA; rw [if_pos ⟨by decide, by omega⟩, cs_65 c]; rfl
theorem ge_65 (c : PS h) (hn : 159 ≤ n) (i : Int32) : ldI h n 65 i = if inb i 20 = true then some (iA h 65 i.toNatClampNeg) else none := by unfold ldI; rw [if_pos (by omega), cs_65 c]
theorem pe_65 (c : PS h) (hn : 159 ≤ n) (i x : Int32) : stI h n 65 i x = if inb i 20 = true then some (mm_si h 65 i.toNatClampNeg x) else none := by unfold stI; rw [if_pos ⟨by decide, by omega⟩, cs_65 c]
theorem gl_66 (c : PS h) (hn : 159 ≤ n) : lenA h n 66 0 = some 20 := by unfold lenA; rw [if_pos ⟨by decide, by omega⟩, cs_66 c]; rfl
theorem ge_66 (c : PS h) (hn : 159 ≤ n) (i : Int32) : ldI h n 66 i = if inb i 20 = true then some (iA h 66 i.toNatClampNeg) else none := by unfold ldI; rw [if_pos (by omega), cs_66 c]
theorem pe_66 (c : PS h) (hn : 159 ≤ n) (i x : Int32) : stI h n 66 i x = if inb i 20 = true then some (mm_si h 66 i.toNatClampNeg x) else none := by unfold stI; rw [if_pos ⟨by decide, by omega⟩, cs_66 c]
theorem gq_67 (c : PS h) (hn : 159 ≤ n) : ckq h n 67 1 = some () := by unfold ckq ckr; rw [cs_67 c]; simp; omega
theorem g_67_0 (c : PS h) (hn : 159 ≤ n) : rdR h n 67 1 0 = some (some 68) := by unfold rdR; rw [if_pos ⟨by decide, by omega⟩, cs_67 c]; rfl
theorem g_67_1 (c : PS h) (hn : 159 ≤ n) : rdR h n 67 1 1 = some (some 69) := by unfold rdR; rw [if_pos ⟨by decide, by omega⟩, cs_67 c]; rfl
theorem g_67_2 (c : PS h) (hn : 159 ≤ n) : rdR h n 67 1 2 = some (some 70) := by unfold rdR; rw [if_pos ⟨by decide, by omega⟩, cs_67 c]; rfl
theorem g_67_3 (c : PS h) (hn : 159 ≤ n) : rdR h n 67 1 3 = some (some 71) := by unfold rdR; rw [if_pos ⟨by decide, by omega⟩, cs_67 c]; rfl
theorem g_67_4 (c : PS h) (hn : 159 ≤ n) : rdR h n 67 1 4 = some (some 72) := by unfold rdR; rw [if_pos ⟨by decide, by omega⟩, cs_67 c]; rfl
theorem g_67_5 (c : PS h) (hn : 159 ≤ n) : rdI h n 67 1 5 = some (fI h 67 5) := by unfold rdI; rw [if_pos ⟨by decide, by omega⟩, cs_67 c]; rfl
theorem p_67_5 (c : PS h) (hn : 159 ≤ n) (v : Value) : wrF h n 67 1 5 v = some (mm_sf h 67 5 v) := by unfold wrF; rw [if_pos ⟨by decide, by omega⟩, cs_67 c]; rfl
theorem gl_68 (c : PS h) (hn : 159 ≤ n) : lenA h n 68 0 = some 20 := by unfold lenA; rw [if_pos ⟨by decide, by omega⟩, cs_68 c]; rfl
theorem ge_68 (c : PS h) (hn : 159 ≤ n) (i : Int32) : ldI h n 68 i = if inb i 20 = true then some (iA h 68 i.toNatClampNeg) else none := by unfold ldI; rw [if_pos (by omega), cs_68 c]
theorem pe_68 (c : PS h) (hn : 159 ≤ n) (i x : Int32) : stI h n 68 i x = if inb i 20 = true then some (mm_si h 68 i.toNatClampNeg x) else none := by unfold stI; rw [if_pos ⟨by decide, by omega⟩, cs_68 c]
theorem gl_69 (c : PS h) (hn : 159 ≤ n) : lenA h n 69 0 = some 20 := by unfold lenA; rw [if_pos ⟨by decide, by omega⟩, cs_69 c]; rfl
theorem ge_69 (c : PS h) (hn : 159 ≤ n) (i : Int32) : ldI h n 69 i = if inb i 20 = true then some (iA h 69 i.toNatClampNeg) else none := by unfold ldI; rw [if_pos (by omega), cs_69 c]
theorem pe_69 (c : PS h) (hn : 159 ≤ n) (i x : Int32) : stI h n 69 i x = if inb i 20 = true then some (mm_si h 69 i.toNatClampNeg x) else none := by unfold stI; rw [if_pos ⟨by decide, by omega⟩, cs_69 c]
theorem gl_70 (c : PS h) (hn : 159 ≤ n) : lenA h n 70 0 = some 20 := by unfold lenA; rw [if_pos ⟨by decide, by omega⟩, cs_70 c]; rfl
theorem ge_70 (c : PS h) (hn : 159 ≤ n) (i : Int32) : ldI h n 70 i = if inb i 20 = true then some (iA h 70 i.toNatClampNeg) else none := by unfold ldI; rw [if_pos (by omega), cs_70 c]
theorem pe_70 (c : PS h) (hn : 159 ≤ n) (i x : Int32) : stI h n 70 i x = if inb i 20 = true then some (mm_si h 70 i.toNatClampNeg x) else none := by unfold stI; rw [if_pos ⟨by decide, by omega⟩, cs_70 c]
theorem gl_71 (c : PS h) (hn : 159 ≤ n) : lenA h n 71 0 = some 20 := by unfold lenA; rw [if_pos ⟨by decide, by omega⟩, cs_71 c]; rfl
theorem ge_71 (c : PS h) (hn : 159 ≤ n) (i : Int32) : ldI h n 71 i = if inb i 20 = true then some (iA h 71 i.toNatClampNeg) else none := by unfold ldI; rw [if_pos (by omega), cs_71 c]
theorem pe_71 (c : PS h) (hn : 159 ≤ n) (i x : Int32) : stI h n 71 i x = if inb i 20 = true then some (mm_si h 71 i.toNatClampNeg x) else none := by unfold stI; rw [if_pos ⟨by decide, by omega⟩, cs_71 c]
theorem gl_72 (c : PS h) (hn : 159 ≤ n) : lenA h n 72 0 = some 20 := by unfold lenA; rw [if_pos ⟨by decide, by omega⟩, cs_72 c]; rfl
theorem ge_72 (c : PS h) (hn : 159 ≤ n) (i : Int32) : ldI h n 72 i = if inb i 20 = true then some (iA h 72 i.toNatClampNeg) else none := by unfold ldI; rw [if_pos (by omega), cs_72 c]
theorem pe_72 (c : PS h) (hn : 159 ≤ n) (i x : Int32) : stI h n 72 i x = if inb i 20 = true then some (mm_si h 72 i.toNatClampNeg x) else none := by unfold stI; rw [if_pos ⟨by decide, by omega⟩, cs_72 c]
theorem gq_73 (c : PS h) (hn : 159 ≤ n) : ckq h n 73 7 = some () := by unfold ckq ckr; rw [cs_73 c]; simp; omega
theorem g_73_0 (c : PS h) (hn : 159 ≤ n) : rdR h n 73 7 0 = some (some 49) := by unfold rdR; rw [if_pos ⟨by decide, by omega⟩, cs_73 c]; rfl
theorem g_73_1 (c : PS h) (hn : 159 ≤ n) : rdR h n 73 7 1 = some (some 143) := by unfold rdR; rw [if_pos ⟨by decide, by omega⟩, cs_73 c]; rfl
theorem g_73_2 (c : PS h) (hn : 159 ≤ n) : rdR h n 73 7 2 = some (some 74) := by unfold rdR; rw [if_pos ⟨by decide, by omega⟩, cs_73 c]; rfl
theorem g_73_3 (c : PS h) (hn : 159 ≤ n) : rdR h n 73 7 3 = some (some 75) := by unfold rdR; rw [if_pos ⟨by decide, by omega⟩, cs_73 c]; rfl
theorem g_73_4 (c : PS h) (hn : 159 ≤ n) : rdR h n 73 7 4 = some (some 91) := by unfold rdR; rw [if_pos ⟨by decide, by omega⟩, cs_73 c]; rfl
theorem g_73_5 (c : PS h) (hn : 159 ≤ n) : rdR h n 73 7 5 = some (some 107) := by unfold rdR; rw [if_pos ⟨by decide, by omega⟩, cs_73 c]; rfl
theorem g_73_6 (c : PS h) (hn : 159 ≤ n) : rdR h n 73 7 6 = some (some 108) := by unfold rdR; rw [if_pos ⟨by decide, by omega⟩, cs_73 c]; rfl
theorem g_73_7 (c : PS h) (hn : 159 ≤ n) : rdR h n 73 7 7 = some (some 124) := by unfold rdR; rw [if_pos ⟨by decide, by omega⟩, cs_73 c]; rfl
theorem g_73_8 (c : PS h) (hn : 159 ≤ n) : rdR h n 73 7 8 = some (some 140) := by unfold rdR; rw [if_pos ⟨by decide, by omega⟩, cs_73 c]; rfl
theorem g_73_9 (c : PS h) (hn : 159 ≤ n) : rdR h n 73 7 9 = some (some 141) := by unfold rdR; rw [if_pos ⟨by decide, by omega⟩, cs_73 c]; rfl
theorem g_73_10 (c : PS h) (hn : 159 ≤ n) : rdR h n 73 7 10 = some (some 142) := by unfold rdR; rw [if_pos ⟨by decide, by omega⟩, cs_73 c]; rfl
theorem g_73_11 (c : PS h) (hn : 159 ≤ n) : rdI h n 73 7 11 = some (fI h 73 11) := by unfold rdI; rw [if_pos ⟨by decide, by omega⟩, cs_73 c]; rfl
theorem p_73_11 (c : PS h) (hn : 159 ≤ n) (v : Value) : wrF h n 73 7 11 v = some (mm_sf h 73 11 v) := by unfold wrF; rw [if_pos ⟨by decide, by omega⟩, cs_73 c]; rfl
theorem g_73_12 (c : PS h) (hn : 159 ≤ n) : rdI h n 73 7 12 = some (fI h 73 12) := by unfold rdI; rw [if_pos ⟨by decide, by omega⟩, cs_73 c]; rfl
theorem p_73_12 (c : PS h) (hn : 159 ≤ n) (v : Value) : wrF h n 73 7 12 v = some (mm_sf h 73 12 v) := by unfold wrF; rw [if_pos ⟨by decide, by omega⟩, cs_73 c]; rfl
theorem gl_74 (c : PS h) (hn : 159 ≤ n) : lenA h n 74 5 = some 3 := by unfold lenA; rw [if_pos ⟨by decide, by omega⟩, cs_74 c]; rfl
theorem ge_74 (c : PS h) (hn : 159 ≤ n) (i : Int32) : ldR h n 74 5 i = if inb i 3 = true then some (rA h 74 i.toNatClampNeg) else none := by unfold ldR; rw [if_pos ⟨by decide, by omega⟩, cs_74 c]; simp only [show mm_tys[5]? = some (.object "WaterReview$RuleBook") from rfl, show FieldType.isReference (.object "WaterReview$RuleBook") = true from rfl, true_and]
theorem gl_75 (c : PS h) (hn : 159 ≤ n) : lenA h n 75 6 = some 15 := by unfold lenA; rw [if_pos ⟨by decide, by omega⟩, cs_75 c]; rfl
theorem ge_75 (c : PS h) (hn : 159 ≤ n) (i : Int32) : ldR h n 75 6 i = if inb i 15 = true then some (if i.toNatClampNeg < 15 then some (75 + 1 + i.toNatClampNeg) else none) else none := by unfold ldR; rw [if_pos ⟨by decide, by omega⟩, cs_75 c]; simp only [show mm_tys[6]? = some (.array .int) from rfl, show FieldType.isReference (.array .int) = true from rfl, true_and]
theorem gl_76 (c : PS h) (hn : 159 ≤ n) : lenA h n 76 0 = some 17 := by unfold lenA; rw [if_pos ⟨by decide, by omega⟩, cs_76 c]; rfl
theorem ge_76 (c : PS h) (hn : 159 ≤ n) (i : Int32) : ldI h n 76 i = if inb i 17 = true then some (iA h 76 i.toNatClampNeg) else none := by unfold ldI; rw [if_pos (by omega), cs_76 c]
theorem pe_76 (c : PS h) (hn : 159 ≤ n) (i x : Int32) : stI h n 76 i x = if inb i 17 = true then some (mm_si h 76 i.toNatClampNeg x) else none := by unfold stI; rw [if_pos ⟨by decide, by omega⟩, cs_76 c]
theorem gl_77 (c : PS h) (hn : 159 ≤ n) : lenA h n 77 0 = some 17 := by unfold lenA; rw [if_pos ⟨by decide, by omega⟩, cs_77 c]; rfl
theorem ge_77 (c : PS h) (hn : 159 ≤ n) (i : Int32) : ldI h n 77 i = if inb i 17 = true then some (iA h 77 i.toNatClampNeg) else none := by unfold ldI; rw [if_pos (by omega), cs_77 c]
theorem pe_77 (c : PS h) (hn : 159 ≤ n) (i x : Int32) : stI h n 77 i x = if inb i 17 = true then some (mm_si h 77 i.toNatClampNeg x) else none := by unfold stI; rw [if_pos ⟨by decide, by omega⟩, cs_77 c]
theorem gl_78 (c : PS h) (hn : 159 ≤ n) : lenA h n 78 0 = some 17 := by unfold lenA; rw [if_pos ⟨by decide, by omega⟩, cs_78 c]; rfl
theorem ge_78 (c : PS h) (hn : 159 ≤ n) (i : Int32) : ldI h n 78 i = if inb i 17 = true then some (iA h 78 i.toNatClampNeg) else none := by unfold ldI; rw [if_pos (by omega), cs_78 c]
theorem pe_78 (c : PS h) (hn : 159 ≤ n) (i x : Int32) : stI h n 78 i x = if inb i 17 = true then some (mm_si h 78 i.toNatClampNeg x) else none := by unfold stI; rw [if_pos ⟨by decide, by omega⟩, cs_78 c]
theorem gl_79 (c : PS h) (hn : 159 ≤ n) : lenA h n 79 0 = some 17 := by unfold lenA; rw [if_pos ⟨by decide, by omega⟩, cs_79 c]; rfl
theorem ge_79 (c : PS h) (hn : 159 ≤ n) (i : Int32) : ldI h n 79 i = if inb i 17 = true then some (iA h 79 i.toNatClampNeg) else none := by unfold ldI; rw [if_pos (by omega), cs_79 c]
theorem pe_79 (c : PS h) (hn : 159 ≤ n) (i x : Int32) : stI h n 79 i x = if inb i 17 = true then some (mm_si h 79 i.toNatClampNeg x) else none := by unfold stI; rw [if_pos ⟨by decide, by omega⟩, cs_79 c]
theorem gl_80 (c : PS h) (hn : 159 ≤ n) : lenA h n 80 0 = some 17 := by unfold lenA; rw [if_pos ⟨by decide, by omega⟩, cs_80 c]; rfl
theorem ge_80 (c : PS h) (hn : 159 ≤ n) (i : Int32) : ldI h n 80 i = if inb i 17 = true then some (iA h 80 i.toNatClampNeg) else none := by unfold ldI; rw [if_pos (by omega), cs_80 c]
theorem pe_80 (c : PS h) (hn : 159 ≤ n) (i x : Int32) : stI h n 80 i x = if inb i 17 = true then some (mm_si h 80 i.toNatClampNeg x) else none := by unfold stI; rw [if_pos ⟨by decide, by omega⟩, cs_80 c]
theorem gl_81 (c : PS h) (hn : 159 ≤ n) : lenA h n 81 0 = some 17 := by unfold lenA; rw [if_pos ⟨by decide, by omega⟩, cs_81 c]; rfl
theorem ge_81 (c : PS h) (hn : 159 ≤ n) (i : Int32) : ldI h n 81 i = if inb i 17 = true then some (iA h 81 i.toNatClampNeg) else none := by unfold ldI; rw [if_pos (by omega), cs_81 c]
theorem pe_81 (c : PS h) (hn : 159 ≤ n) (i x : Int32) : stI h n 81 i x = if inb i 17 = true then some (mm_si h 81 i.toNatClampNeg x) else none := by unfold stI; rw [if_pos ⟨by decide, by omega⟩, cs_81 c]
theorem gl_82 (c : PS h) (hn : 159 ≤ n) : lenA h n 82 0 = some 17 := by unfold lenA; rw [if_pos ⟨by decide, by omega⟩, cs_82 c]; rfl
theorem ge_82 (c : PS h) (hn : 159 ≤ n) (i : Int32) : ldI h n 82 i = if inb i 17 = true then some (iA h 82 i.toNatClampNeg) else none := by unfold ldI; rw [if_pos (by omega), cs_82 c]
theorem pe_82 (c : PS h) (hn : 159 ≤ n) (i x : Int32) : stI h n 82 i x = if inb i 17 = true then some (mm_si h 82 i.toNatClampNeg x) else none := by unfold stI; rw [if_pos ⟨by decide, by omega⟩, cs_82 c]
theorem gl_83 (c : PS h) (hn : 159 ≤ n) : lenA h n 83 0 = some 17 := by unfold lenA; rw [if_pos ⟨by decide, by omega⟩, cs_83 c]; rfl
theorem ge_83 (c : PS h) (hn : 159 ≤ n) (i : Int32) : ldI h n 83 i = if inb i 17 = true then some (iA h 83 i.toNatClampNeg) else none := by unfold ldI; rw [if_pos (by omega), cs_83 c]
theorem pe_83 (c : PS h) (hn : 159 ≤ n) (i x : Int32) : stI h n 83 i x = if inb i 17 = true then some (mm_si h 83 i.toNatClampNeg x) else none := by unfold stI; rw [if_pos ⟨by decide, by omega⟩, cs_83 c]
theorem gl_84 (c : PS h) (hn : 159 ≤ n) : lenA h n 84 0 = some 17 := by unfold lenA; rw [if_pos ⟨by decide, by omega⟩, cs_84 c]; rfl
theorem ge_84 (c : PS h) (hn : 159 ≤ n) (i : Int32) : ldI h n 84 i = if inb i 17 = true then some (iA h 84 i.toNatClampNeg) else none := by unfold ldI; rw [if_pos (by omega), cs_84 c]
theorem pe_84 (c : PS h) (hn : 159 ≤ n) (i x : Int32) : stI h n 84 i x = if inb i 17 = true then some (mm_si h 84 i.toNatClampNeg x) else none := by unfold stI; rw [if_pos ⟨by decide, by omega⟩, cs_84 c]
theorem gl_85 (c : PS h) (hn : 159 ≤ n) : lenA h n 85 0 = some 17 := by unfold lenA; rw [if_pos ⟨by decide, by omega⟩, cs_85 c]; rfl
theorem ge_85 (c : PS h) (hn : 159 ≤ n) (i : Int32) : ldI h n 85 i = if inb i 17 = true then some (iA h 85 i.toNatClampNeg) else none := by unfold ldI; rw [if_pos (by omega), cs_85 c]
theorem pe_85 (c : PS h) (hn : 159 ≤ n) (i x : Int32) : stI h n 85 i x = if inb i 17 = true then some (mm_si h 85 i.toNatClampNeg x) else none := by unfold stI; rw [if_pos ⟨by decide, by omega⟩, cs_85 c]
theorem gl_86 (c : PS h) (hn : 159 ≤ n) : lenA h n 86 0 = some 17 := by unfold lenA; rw [if_pos ⟨by decide, by omega⟩, cs_86 c]; rfl
theorem ge_86 (c : PS h) (hn : 159 ≤ n) (i : Int32) : ldI h n 86 i = if inb i 17 = true then some (iA h 86 i.toNatClampNeg) else none := by unfold ldI; rw [if_pos (by omega), cs_86 c]
theorem pe_86 (c : PS h) (hn : 159 ≤ n) (i x : Int32) : stI h n 86 i x = if inb i 17 = true then some (mm_si h 86 i.toNatClampNeg x) else none := by unfold stI; rw [if_pos ⟨by decide, by omega⟩, cs_86 c]
theorem gl_87 (c : PS h) (hn : 159 ≤ n) : lenA h n 87 0 = some 17 := by unfold lenA; rw [if_pos ⟨by decide, by omega⟩, cs_87 c]; rfl
theorem ge_87 (c : PS h) (hn : 159 ≤ n) (i : Int32) : ldI h n 87 i = if inb i 17 = true then some (iA h 87 i.toNatClampNeg) else none := by unfold ldI; rw [if_pos (by omega), cs_87 c]
theorem pe_87 (c : PS h) (hn : 159 ≤ n) (i x : Int32) : stI h n 87 i x = if inb i 17 = true then some (mm_si h 87 i.toNatClampNeg x) else none := by unfold stI; rw [if_pos ⟨by decide, by omega⟩, cs_87 c]
theorem gl_88 (c : PS h) (hn : 159 ≤ n) : lenA h n 88 0 = some 17 := by unfold lenA; rw [if_pos ⟨by decide, by omega⟩, cs_88 c]; rfl
theorem ge_88 (c : PS h) (hn : 159 ≤ n) (i : Int32) : ldI h n 88 i = if inb i 17 = true then some (iA h 88 i.toNatClampNeg) else none := by unfold ldI; rw [if_pos (by omega), cs_88 c]
theorem pe_88 (c : PS h) (hn : 159 ≤ n) (i x : Int32) : stI h n 88 i x = if inb i 17 = true then some (mm_si h 88 i.toNatClampNeg x) else none := by unfold stI; rw [if_pos ⟨by decide, by omega⟩, cs_88 c]
theorem gl_89 (c : PS h) (hn : 159 ≤ n) : lenA h n 89 0 = some 17 := by unfold lenA; rw [if_pos ⟨by decide, by omega⟩, cs_89 c]; rfl
theorem ge_89 (c : PS h) (hn : 159 ≤ n) (i : Int32) : ldI h n 89 i = if inb i 17 = true then some (iA h 89 i.toNatClampNeg) else none := by unfold ldI; rw [if_pos (by omega), cs_89 c]
theorem pe_89 (c : PS h) (hn : 159 ≤ n) (i x : Int32) : stI h n 89 i x = if inb i 17 = true then some (mm_si h 89 i.toNatClampNeg x) else none := by unfold stI; rw [if_pos ⟨by decide, by omega⟩, cs_89 c]
theorem gl_90 (c : PS h) (hn : 159 ≤ n) : lenA h n 90 0 = some 17 := by unfold lenA; rw [if_pos ⟨by decide, by omega⟩, cs_90 c]; rfl
theorem ge_90 (c : PS h) (hn : 159 ≤ n) (i : Int32) : ldI h n 90 i = if inb i 17 = true then some (iA h 90 i.toNatClampNeg) else none := by unfold ldI; rw [if_pos (by omega), cs_90 c]
theorem pe_90 (c : PS h) (hn : 159 ≤ n) (i x : Int32) : stI h n 90 i x = if inb i 17 = true then some (mm_si h 90 i.toNatClampNeg x) else none := by unfold stI; rw [if_pos ⟨by decide, by omega⟩, cs_90 c]
theorem gl_91 (c : PS h) (hn : 159 ≤ n) : lenA h n 91 6 = some 15 := by unfold lenA; rw [if_pos ⟨by decide, by omega⟩, cs_91 c]; rfl
theorem ge_91 (c : PS h) (hn : 159 ≤ n) (i : Int32) : ldR h n 91 6 i = if inb i 15 = true then some (if i.toNatClampNeg < 15 then some (91 + 1 + i.toNatClampNeg) else none) else none := by unfold ldR; rw [if_pos ⟨by decide, by omega⟩, cs_91 c]; simp only [show mm_tys[6]? = some (.array .int) from rfl, show FieldType.isReference (.array .int) = true from rfl, true_and]
theorem gl_92 (c : PS h) (hn : 159 ≤ n) : lenA h n 92 0 = some 9 := by unfold lenA; rw [if_pos ⟨by decide, by omega⟩, cs_92 c]; rfl
theorem ge_92 (c : PS h) (hn : 159 ≤ n) (i : Int32) : ldI h n 92 i = if inb i 9 = true then some (iA h 92 i.toNatClampNeg) else none := by unfold ldI; rw [if_pos (by omega), cs_92 c]
theorem pe_92 (c : PS h) (hn : 159 ≤ n) (i x : Int32) : stI h n 92 i x = if inb i 9 = true then some (mm_si h 92 i.toNatClampNeg x) else none := by unfold stI; rw [if_pos ⟨by decide, by omega⟩, cs_92 c]
theorem gl_93 (c : PS h) (hn : 159 ≤ n) : lenA h n 93 0 = some 9 := by unfold lenA; rw [if_pos ⟨by decide, by omega⟩, cs_93 c]; rfl
theorem ge_93 (c : PS h) (hn : 159 ≤ n) (i : Int32) : ldI h n 93 i = if inb i 9 = true then some (iA h 93 i.toNatClampNeg) else none := by unfold ldI; rw [if_pos (by omega), cs_93 c]
theorem pe_93 (c : PS h) (hn : 159 ≤ n) (i x : Int32) : stI h n 93 i x = if inb i 9 = true then some (mm_si h 93 i.toNatClampNeg x) else none := by unfold stI; rw [if_pos ⟨by decide, by omega⟩, cs_93 c]
theorem gl_94 (c : PS h) (hn : 159 ≤ n) : lenA h n 94 0 = some 9 := by unfold lenA; rw [if_pos ⟨by decide, by omega⟩, cs_94 c]; rfl
theorem ge_94 (c : PS h) (hn : 159 ≤ n) (i : Int32) : ldI h n 94 i = if inb i 9 = true then some (iA h 94 i.toNatClampNeg) else none := by unfold ldI; rw [if_pos (by omega), cs_94 c]
theorem pe_94 (c : PS h) (hn : 159 ≤ n) (i x : Int32) : stI h n 94 i x = if inb i 9 = true then some (mm_si h 94 i.toNatClampNeg x) else none := by unfold stI; rw [if_pos ⟨by decide, by omega⟩, cs_94 c]
theorem gl_95 (c : PS h) (hn : 159 ≤ n) : lenA h n 95 0 = some 9 := by unfold lenA; rw [if_pos ⟨by decide, by omega⟩, cs_95 c]; rfl
theorem ge_95 (c : PS h) (hn : 159 ≤ n) (i : Int32) : ldI h n 95 i = if inb i 9 = true then some (iA h 95 i.toNatClampNeg) else none := by unfold ldI; rw [if_pos (by omega), cs_95 c]
theorem pe_95 (c : PS h) (hn : 159 ≤ n) (i x : Int32) : stI h n 95 i x = if inb i 9 = true then some (mm_si h 95 i.toNatClampNeg x) else none := by unfold stI; rw [if_pos ⟨by decide, by omega⟩, cs_95 c]
theorem gl_96 (c : PS h) (hn : 159 ≤ n) : lenA h n 96 0 = some 9 := by unfold lenA; rw [if_pos ⟨by decide, by omega⟩, cs_96 c]; rfl
theorem ge_96 (c : PS h) (hn : 159 ≤ n) (i : Int32) : ldI h n 96 i = if inb i 9 = true then some (iA h 96 i.toNatClampNeg) else none := by unfold ldI; rw [if_pos (by omega), cs_96 c]
theorem pe_96 (c : PS h) (hn : 159 ≤ n) (i x : Int32) : stI h n 96 i x = if inb i 9 = true then some (mm_si h 96 i.toNatClampNeg x) else none := by unfold stI; rw [if_pos ⟨by decide, by omega⟩, cs_96 c]
theorem gl_97 (c : PS h) (hn : 159 ≤ n) : lenA h n 97 0 = some 9 := by unfold lenA; rw [if_pos ⟨by decide, by omega⟩, cs_97 c]; rfl
theorem ge_97 (c : PS h) (hn : 159 ≤ n) (i : Int32) : ldI h n 97 i = if inb i 9 = true then some (iA h 97 i.toNatClampNeg) else none := by unfold ldI; rw [if_pos (by omega), cs_97 c]
theorem pe_97 (c : PS h) (hn : 159 ≤ n) (i x : Int32) : stI h n 97 i x = if inb i 9 = true then some (mm_si h 97 i.toNatClampNeg x) else none := by unfold stI; rw [if_pos ⟨by decide, by omega⟩, cs_97 c]
theorem gl_98 (c : PS h) (hn : 159 ≤ n) : lenA h n 98 0 = some 9 := by unfold lenA; rw [if_pos ⟨by decide, by omega⟩, cs_98 c]; rfl
theorem ge_98 (c : PS h) (hn : 159 ≤ n) (i : Int32) : ldI h n 98 i = if inb i 9 = true then some (iA h 98 i.toNatClampNeg) else none := by unfold ldI; rw [if_pos (by omega), cs_98 c]
theorem pe_98 (c : PS h) (hn : 159 ≤ n) (i x : Int32) : stI h n 98 i x = if inb i 9 = true then some (mm_si h 98 i.toNatClampNeg x) else none := by unfold stI; rw [if_pos ⟨by decide, by omega⟩, cs_98 c]
theorem gl_99 (c : PS h) (hn : 159 ≤ n) : lenA h n 99 0 = some 9 := by unfold lenA; rw [if_pos ⟨by decide, by omega⟩, cs_99 c]; rfl
theorem ge_99 (c : PS h) (hn : 159 ≤ n) (i : Int32) : ldI h n 99 i = if inb i 9 = true then some (iA h 99 i.toNatClampNeg) else none := by unfold ldI; rw [if_pos (by omega), cs_99 c]
theorem pe_99 (c : PS h) (hn : 159 ≤ n) (i x : Int32) : stI h n 99 i x = if inb i 9 = true then some (mm_si h 99 i.toNatClampNeg x) else none := by unfold stI; rw [if_pos ⟨by decide, by omega⟩, cs_99 c]
theorem gl_100 (c : PS h) (hn : 159 ≤ n) : lenA h n 100 0 = some 9 := by unfold lenA; rw [if_pos ⟨by decide, by omega⟩, cs_100 c]; rfl
theorem ge_100 (c : PS h) (hn : 159 ≤ n) (i : Int32) : ldI h n 100 i = if inb i 9 = true then some (iA h 100 i.toNatClampNeg) else none := by unfold ldI; rw [if_pos (by omega), cs_100 c]
theorem pe_100 (c : PS h) (hn : 159 ≤ n) (i x : Int32) : stI h n 100 i x = if inb i 9 = true then some (mm_si h 100 i.toNatClampNeg x) else none := by unfold stI; rw [if_pos ⟨by decide, by omega⟩, cs_100 c]
theorem gl_101 (c : PS h) (hn : 159 ≤ n) : lenA h n 101 0 = some 9 := by unfold lenA; rw [if_pos ⟨by decide, by omega⟩, cs_101 c]; rfl
theorem ge_101 (c : PS h) (hn : 159 ≤ n) (i : Int32) : ldI h n 101 i = if inb i 9 = true then some (iA h 101 i.toNatClampNeg) else none := by unfold ldI; rw [if_pos (by omega), cs_101 c]
theorem pe_101 (c : PS h) (hn : 159 ≤ n) (i x : Int32) : stI h n 101 i x = if inb i 9 = true then some (mm_si h 101 i.toNatClampNeg x) else none := by unfold stI; rw [if_pos ⟨by decide, by omega⟩, cs_101 c]
theorem gl_102 (c : PS h) (hn : 159 ≤ n) : lenA h n 102 0 = some 9 := by unfold lenA; rw [if_pos ⟨by decide, by omega⟩, cs_102 c]; rfl
theorem ge_102 (c : PS h) (hn : 159 ≤ n) (i : Int32) : ldI h n 102 i = if inb i 9 = true then some (iA h 102 i.toNatClampNeg) else none := by unfold ldI; rw [if_pos (by omega), cs_102 c]
theorem pe_102 (c : PS h) (hn : 159 ≤ n) (i x : Int32) : stI h n 102 i x = if inb i 9 = true then some (mm_si h 102 i.toNatClampNeg x) else none := by unfold stI; rw [if_pos ⟨by decide, by omega⟩, cs_102 c]
theorem gl_103 (c : PS h) (hn : 159 ≤ n) : lenA h n 103 0 = some 9 := by unfold lenA; rw [if_pos ⟨by decide, by omega⟩, cs_103 c]; rfl
theorem ge_103 (c : PS h) (hn : 159 ≤ n) (i : Int32) : ldI h n 103 i = if inb i 9 = true then some (iA h 103 i.toNatClampNeg) else none := by unfold ldI; rw [if_pos (by omega), cs_103 c]
theorem pe_103 (c : PS h) (hn : 159 ≤ n) (i x : Int32) : stI h n 103 i x = if inb i 9 = true then some (mm_si h 103 i.toNatClampNeg x) else none := by unfold stI; rw [if_pos ⟨by decide, by omega⟩, cs_103 c]
theorem gl_104 (c : PS h) (hn : 159 ≤ n) : lenA h n 104 0 = some 9 := by unfold lenA; rw [if_pos ⟨by decide, by omega⟩, cs_104 c]; rfl
theorem ge_104 (c : PS h) (hn : 159 ≤ n) (i : Int32) : ldI h n 104 i = if inb i 9 = true then some (iA h 104 i.toNatClampNeg) else none := by unfold ldI; rw [if_pos (by omega), cs_104 c]
theorem pe_104 (c : PS h) (hn : 159 ≤ n) (i x : Int32) : stI h n 104 i x = if inb i 9 = true then some (mm_si h 104 i.toNatClampNeg x) else none := by unfold stI; rw [if_pos ⟨by decide, by omega⟩, cs_104 c]
theorem gl_105 (c : PS h) (hn : 159 ≤ n) : lenA h n 105 0 = some 9 := by unfold lenA; rw [if_pos ⟨by decide, by omega⟩, cs_105 c]; rfl
theorem ge_105 (c : PS h) (hn : 159 ≤ n) (i : Int32) : ldI h n 105 i = if inb i 9 = true then some (iA h 105 i.toNatClampNeg) else none := by unfold ldI; rw [if_pos (by omega), cs_105 c]
theorem pe_105 (c : PS h) (hn : 159 ≤ n) (i x : Int32) : stI h n 105 i x = if inb i 9 = true then some (mm_si h 105 i.toNatClampNeg x) else none := by unfold stI; rw [if_pos ⟨by decide, by omega⟩, cs_105 c]
theorem gl_106 (c : PS h) (hn : 159 ≤ n) : lenA h n 106 0 = some 9 := by unfold lenA; rw [if_pos ⟨by decide, by omega⟩, cs_106 c]; rfl
theorem ge_106 (c : PS h) (hn : 159 ≤ n) (i : Int32) : ldI h n 106 i = if inb i 9 = true then some (iA h 106 i.toNatClampNeg) else none := by unfold ldI; rw [if_pos (by omega), cs_106 c]
theorem pe_106 (c : PS h) (hn : 159 ≤ n) (i x : Int32) : stI h n 106 i x = if inb i 9 = true then some (mm_si h 106 i.toNatClampNeg x) else none := by unfold stI; rw [if_pos ⟨by decide, by omega⟩, cs_106 c]
theorem gl_107 (c : PS h) (hn : 159 ≤ n) : lenA h n 107 1 = some 16 := by unfold lenA; rw [if_pos ⟨by decide, by omega⟩, cs_107 c]; rfl
theorem ge_107 (c : PS h) (hn : 159 ≤ n) (i : Int32) : ldJ h n 107 i = if inb i 16 = true then some (jA h 107 i.toNatClampNeg) else none := by unfold ldJ; rw [if_pos ⟨by decide, by omega⟩, cs_107 c]
theorem pe_107 (c : PS h) (hn : 159 ≤ n) (i : Int32) (x : Int64) : stJ h n 107 i x = if inb i 16 = true then some (mm_sj h 107 i.toNatClampNeg x) else none := by unfold stJ; rw [if_pos ⟨by decide, by omega⟩, cs_107 c]
theorem gl_108 (c : PS h) (hn : 159 ≤ n) : lenA h n 108 7 = some 15 := by unfold lenA; rw [if_pos ⟨by decide, by omega⟩, cs_108 c]; rfl
theorem ge_108 (c : PS h) (hn : 159 ≤ n) (i : Int32) : ldR h n 108 7 i = if inb i 15 = true then some (if i.toNatClampNeg < 15 then some (108 + 1 + i.toNatClampNeg) else none) else none := by unfold ldR; rw [if_pos ⟨by decide, by omega⟩, cs_108 c]; simp only [show mm_tys[7]? = some (.array .long) from rfl, show FieldType.isReference (.array .long) = true from rfl, true_and]
theorem gl_109 (c : PS h) (hn : 159 ≤ n) : lenA h n 109 1 = some 4 := by unfold lenA; rw [if_pos ⟨by decide, by omega⟩, cs_109 c]; rfl
theorem ge_109 (c : PS h) (hn : 159 ≤ n) (i : Int32) : ldJ h n 109 i = if inb i 4 = true then some (jA h 109 i.toNatClampNeg) else none := by unfold ldJ; rw [if_pos ⟨by decide, by omega⟩, cs_109 c]
theorem pe_109 (c : PS h) (hn : 159 ≤ n) (i : Int32) (x : Int64) : stJ h n 109 i x = if inb i 4 = true then some (mm_sj h 109 i.toNatClampNeg x) else none := by unfold stJ; rw [if_pos ⟨by decide, by omega⟩, cs_109 c]
theorem gl_110 (c : PS h) (hn : 159 ≤ n) : lenA h n 110 1 = some 4 := by unfold lenA; rw [if_pos ⟨by decide, by omega⟩, cs_110 c]; rfl
theorem ge_110 (c : PS h) (hn : 159 ≤ n) (i : Int32) : ldJ h n 110 i = if inb i 4 = true then some (jA h 110 i.toNatClampNeg) else none := by unfold ldJ; rw [if_pos ⟨by decide, by omega⟩, cs_110 c]
theorem pe_110 (c : PS h) (hn : 159 ≤ n) (i : Int32) (x : Int64) : stJ h n 110 i x = if inb i 4 = true then some (mm_sj h 110 i.toNatClampNeg x) else none := by unfold stJ; rw [if_pos ⟨by decide, by omega⟩, cs_110 c]
theorem gl_111 (c : PS h) (hn : 159 ≤ n) : lenA h n 111 1 = some 4 := by unfold lenA; rw [if_pos ⟨by decide, by omega⟩, cs_111 c]; rfl
theorem ge_111 (c : PS h) (hn : 159 ≤ n) (i : Int32) : ldJ h n 111 i = if inb i 4 = true then some (jA h 111 i.toNatClampNeg) else none := by unfold ldJ; rw [if_pos ⟨by decide, by omega⟩, cs_111 c]
theorem pe_111 (c : PS h) (hn : 159 ≤ n) (i : Int32) (x : Int64) : stJ h n 111 i x = if inb i 4 = true then some (mm_sj h 111 i.toNatClampNeg x) else none := by unfold stJ; rw [if_pos ⟨by decide, by omega⟩, cs_111 c]
theorem gl_112 (c : PS h) (hn : 159 ≤ n) : lenA h n 112 1 = some 4 := by unfold lenA; rw [if_pos ⟨by decide, by omega⟩, cs_112 c]; rfl
theorem ge_112 (c : PS h) (hn : 159 ≤ n) (i : Int32) : ldJ h n 112 i = if inb i 4 = true then some (jA h 112 i.toNatClampNeg) else none := by unfold ldJ; rw [if_pos ⟨by decide, by omega⟩, cs_112 c]
theorem pe_112 (c : PS h) (hn : 159 ≤ n) (i : Int32) (x : Int64) : stJ h n 112 i x = if inb i 4 = true then some (mm_sj h 112 i.toNatClampNeg x) else none := by unfold stJ; rw [if_pos ⟨by decide, by omega⟩, cs_112 c]
theorem gl_113 (c : PS h) (hn : 159 ≤ n) : lenA h n 113 1 = some 4 := by unfold lenA; rw [if_pos ⟨by decide, by omega⟩, cs_113 c]; rfl
theorem ge_113 (c : PS h) (hn : 159 ≤ n) (i : Int32) : ldJ h n 113 i = if inb i 4 = true then some (jA h 113 i.toNatClampNeg) else none := by unfold ldJ; rw [if_pos ⟨by decide, by omega⟩, cs_113 c]
theorem pe_113 (c : PS h) (hn : 159 ≤ n) (i : Int32) (x : Int64) : stJ h n 113 i x = if inb i 4 = true then some (mm_sj h 113 i.toNatClampNeg x) else none := by unfold stJ; rw [if_pos ⟨by decide, by omega⟩, cs_113 c]
theorem gl_114 (c : PS h) (hn : 159 ≤ n) : lenA h n 114 1 = some 4 := by unfold lenA; rw [if_pos ⟨by decide, by omega⟩, cs_114 c]; rfl
theorem ge_114 (c : PS h) (hn : 159 ≤ n) (i : Int32) : ldJ h n 114 i = if inb i 4 = true then some (jA h 114 i.toNatClampNeg) else none := by unfold ldJ; rw [if_pos ⟨by decide, by omega⟩, cs_114 c]
theorem pe_114 (c : PS h) (hn : 159 ≤ n) (i : Int32) (x : Int64) : stJ h n 114 i x = if inb i 4 = true then some (mm_sj h 114 i.toNatClampNeg x) else none := by unfold stJ; rw [if_pos ⟨by decide, by omega⟩, cs_114 c]
theorem gl_115 (c : PS h) (hn : 159 ≤ n) : lenA h n 115 1 = some 4 := by unfold lenA; rw [if_pos ⟨by decide, by omega⟩, cs_115 c]; rfl
theorem ge_115 (c : PS h) (hn : 159 ≤ n) (i : Int32) : ldJ h n 115 i = if inb i 4 = true then some (jA h 115 i.toNatClampNeg) else none := by unfold ldJ; rw [if_pos ⟨by decide, by omega⟩, cs_115 c]
theorem pe_115 (c : PS h) (hn : 159 ≤ n) (i : Int32) (x : Int64) : stJ h n 115 i x = if inb i 4 = true then some (mm_sj h 115 i.toNatClampNeg x) else none := by unfold stJ; rw [if_pos ⟨by decide, by omega⟩, cs_115 c]
theorem gl_116 (c : PS h) (hn : 159 ≤ n) : lenA h n 116 1 = some 4 := by unfold lenA; rw [if_pos ⟨by decide, by omega⟩, cs_116 c]; rfl
theorem ge_116 (c : PS h) (hn : 159 ≤ n) (i : Int32) : ldJ h n 116 i = if inb i 4 = true then some (jA h 116 i.toNatClampNeg) else none := by unfold ldJ; rw [if_pos ⟨by decide, by omega⟩, cs_116 c]
theorem pe_116 (c : PS h) (hn : 159 ≤ n) (i : Int32) (x : Int64) : stJ h n 116 i x = if inb i 4 = true then some (mm_sj h 116 i.toNatClampNeg x) else none := by unfold stJ; rw [if_pos ⟨by decide, by omega⟩, cs_116 c]
theorem gl_117 (c : PS h) (hn : 159 ≤ n) : lenA h n 117 1 = some 4 := by unfold lenA; rw [if_pos ⟨by decide, by omega⟩, cs_117 c]; rfl
theorem ge_117 (c : PS h) (hn : 159 ≤ n) (i : Int32) : ldJ h n 117 i = if inb i 4 = true then some (jA h 117 i.toNatClampNeg) else none := by unfold ldJ; rw [if_pos ⟨by decide, by omega⟩, cs_117 c]
theorem pe_117 (c : PS h) (hn : 159 ≤ n) (i : Int32) (x : Int64) : stJ h n 117 i x = if inb i 4 = true then some (mm_sj h 117 i.toNatClampNeg x) else none := by unfold stJ; rw [if_pos ⟨by decide, by omega⟩, cs_117 c]
theorem gl_118 (c : PS h) (hn : 159 ≤ n) : lenA h n 118 1 = some 4 := by unfold lenA; rw [if_pos ⟨by decide, by omega⟩, cs_118 c]; rfl
theorem ge_118 (c : PS h) (hn : 159 ≤ n) (i : Int32) : ldJ h n 118 i = if inb i 4 = true then some (jA h 118 i.toNatClampNeg) else none := by unfold ldJ; rw [if_pos ⟨by decide, by omega⟩, cs_118 c]
theorem pe_118 (c : PS h) (hn : 159 ≤ n) (i : Int32) (x : Int64) : stJ h n 118 i x = if inb i 4 = true then some (mm_sj h 118 i.toNatClampNeg x) else none := by unfold stJ; rw [if_pos ⟨by decide, by omega⟩, cs_118 c]
theorem gl_119 (c : PS h) (hn : 159 ≤ n) : lenA h n 119 1 = some 4 := by unfold lenA; rw [if_pos ⟨by decide, by omega⟩, cs_119 c]; rfl
theorem ge_119 (c : PS h) (hn : 159 ≤ n) (i : Int32) : ldJ h n 119 i = if inb i 4 = true then some (jA h 119 i.toNatClampNeg) else none := by unfold ldJ; rw [if_pos ⟨by decide, by omega⟩, cs_119 c]
theorem pe_119 (c : PS h) (hn : 159 ≤ n) (i : Int32) (x : Int64) : stJ h n 119 i x = if inb i 4 = true then some (mm_sj h 119 i.toNatClampNeg x) else none := by unfold stJ; rw [if_pos ⟨by decide, by omega⟩, cs_119 c]
theorem gl_120 (c : PS h) (hn : 159 ≤ n) : lenA h n 120 1 = some 4 := by unfold lenA; rw [if_pos ⟨by decide, by omega⟩, cs_120 c]; rfl
theorem ge_120 (c : PS h) (hn : 159 ≤ n) (i : Int32) : ldJ h n 120 i = if inb i 4 = true then some (jA h 120 i.toNatClampNeg) else none := by unfold ldJ; rw [if_pos ⟨by decide, by omega⟩, cs_120 c]
theorem pe_120 (c : PS h) (hn : 159 ≤ n) (i : Int32) (x : Int64) : stJ h n 120 i x = if inb i 4 = true then some (mm_sj h 120 i.toNatClampNeg x) else none := by unfold stJ; rw [if_pos ⟨by decide, by omega⟩, cs_120 c]
theorem gl_121 (c : PS h) (hn : 159 ≤ n) : lenA h n 121 1 = some 4 := by unfold lenA; rw [if_pos ⟨by decide, by omega⟩, cs_121 c]; rfl
theorem ge_121 (c : PS h) (hn : 159 ≤ n) (i : Int32) : ldJ h n 121 i = if inb i 4 = true then some (jA h 121 i.toNatClampNeg) else none := by unfold ldJ; rw [if_pos ⟨by decide, by omega⟩, cs_121 c]
theorem pe_121 (c : PS h) (hn : 159 ≤ n) (i : Int32) (x : Int64) : stJ h n 121 i x = if inb i 4 = true then some (mm_sj h 121 i.toNatClampNeg x) else none := by unfold stJ; rw [if_pos ⟨by decide, by omega⟩, cs_121 c]
theorem gl_122 (c : PS h) (hn : 159 ≤ n) : lenA h n 122 1 = some 4 := by unfold lenA; rw [if_pos ⟨by decide, by omega⟩, cs_122 c]; rfl
theorem ge_122 (c : PS h) (hn : 159 ≤ n) (i : Int32) : ldJ h n 122 i = if inb i 4 = true then some (jA h 122 i.toNatClampNeg) else none := by unfold ldJ; rw [if_pos ⟨by decide, by omega⟩, cs_122 c]
theorem pe_122 (c : PS h) (hn : 159 ≤ n) (i : Int32) (x : Int64) : stJ h n 122 i x = if inb i 4 = true then some (mm_sj h 122 i.toNatClampNeg x) else none := by unfold stJ; rw [if_pos ⟨by decide, by omega⟩, cs_122 c]
theorem gl_123 (c : PS h) (hn : 159 ≤ n) : lenA h n 123 1 = some 4 := by unfold lenA; rw [if_pos ⟨by decide, by omega⟩, cs_123 c]; rfl
theorem ge_123 (c : PS h) (hn : 159 ≤ n) (i : Int32) : ldJ h n 123 i = if inb i 4 = true then some (jA h 123 i.toNatClampNeg) else none := by unfold ldJ; rw [if_pos ⟨by decide, by omega⟩, cs_123 c]
theorem pe_123 (c : PS h) (hn : 159 ≤ n) (i : Int32) (x : Int64) : stJ h n 123 i x = if inb i 4 = true then some (mm_sj h 123 i.toNatClampNeg x) else none := by unfold stJ; rw [if_pos ⟨by decide, by omega⟩, cs_123 c]
theorem gl_124 (c : PS h) (hn : 159 ≤ n) : lenA h n 124 7 = some 15 := by unfold lenA; rw [if_pos ⟨by decide, by omega⟩, cs_124 c]; rfl
theorem ge_124 (c : PS h) (hn : 159 ≤ n) (i : Int32) : ldR h n 124 7 i = if inb i 15 = true then some (if i.toNatClampNeg < 15 then some (124 + 1 + i.toNatClampNeg) else none) else none := by unfold ldR; rw [if_pos ⟨by decide, by omega⟩, cs_124 c]; simp only [show mm_tys[7]? = some (.array .long) from rfl, show FieldType.isReference (.array .long) = true from rfl, true_and]
theorem gl_125 (c : PS h) (hn : 159 ≤ n) : lenA h n 125 1 = some 15 := by unfold lenA; rw [if_pos ⟨by decide, by omega⟩, cs_125 c]; rfl
theorem ge_125 (c : PS h) (hn : 159 ≤ n) (i : Int32) : ldJ h n 125 i = if inb i 15 = true then some (jA h 125 i.toNatClampNeg) else none := by unfold ldJ; rw [if_pos ⟨by decide, by omega⟩, cs_125 c]
theorem pe_125 (c : PS h) (hn : 159 ≤ n) (i : Int32) (x : Int64) : stJ h n 125 i x = if inb i 15 = true then some (mm_sj h 125 i.toNatClampNeg x) else none := by unfold stJ; rw [if_pos ⟨by decide, by omega⟩, cs_125 c]
theorem gl_126 (c : PS h) (hn : 159 ≤ n) : lenA h n 126 1 = some 15 := by unfold lenA; rw [if_pos ⟨by decide, by omega⟩, cs_126 c]; rfl
theorem ge_126 (c : PS h) (hn : 159 ≤ n) (i : Int32) : ldJ h n 126 i = if inb i 15 = true then some (jA h 126 i.toNatClampNeg) else none := by unfold ldJ; rw [if_pos ⟨by decide, by omega⟩, cs_126 c]
theorem pe_126 (c : PS h) (hn : 159 ≤ n) (i : Int32) (x : Int64) : stJ h n 126 i x = if inb i 15 = true then some (mm_sj h 126 i.toNatClampNeg x) else none := by unfold stJ; rw [if_pos ⟨by decide, by omega⟩, cs_126 c]
theorem gl_127 (c : PS h) (hn : 159 ≤ n) : lenA h n 127 1 = some 15 := by unfold lenA; rw [if_pos ⟨by decide, by omega⟩, cs_127 c]; rfl
theorem ge_127 (c : PS h) (hn : 159 ≤ n) (i : Int32) : ldJ h n 127 i = if inb i 15 = true then some (jA h 127 i.toNatClampNeg) else none := by unfold ldJ; rw [if_pos ⟨by decide, by omega⟩, cs_127 c]
theorem pe_127 (c : PS h) (hn : 159 ≤ n) (i : Int32) (x : Int64) : stJ h n 127 i x = if inb i 15 = true then some (mm_sj h 127 i.toNatClampNeg x) else none := by unfold stJ; rw [if_pos ⟨by decide, by omega⟩, cs_127 c]
theorem gl_128 (c : PS h) (hn : 159 ≤ n) : lenA h n 128 1 = some 15 := by unfold lenA; rw [if_pos ⟨by decide, by omega⟩, cs_128 c]; rfl
theorem ge_128 (c : PS h) (hn : 159 ≤ n) (i : Int32) : ldJ h n 128 i = if inb i 15 = true then some (jA h 128 i.toNatClampNeg) else none := by unfold ldJ; rw [if_pos ⟨by decide, by omega⟩, cs_128 c]
theorem pe_128 (c : PS h) (hn : 159 ≤ n) (i : Int32) (x : Int64) : stJ h n 128 i x = if inb i 15 = true then some (mm_sj h 128 i.toNatClampNeg x) else none := by unfold stJ; rw [if_pos ⟨by decide, by omega⟩, cs_128 c]
theorem gl_129 (c : PS h) (hn : 159 ≤ n) : lenA h n 129 1 = some 15 := by unfold lenA; rw [if_pos ⟨by decide, by omega⟩, cs_129 c]; rfl
theorem ge_129 (c : PS h) (hn : 159 ≤ n) (i : Int32) : ldJ h n 129 i = if inb i 15 = true then some (jA h 129 i.toNatClampNeg) else none := by unfold ldJ; rw [if_pos ⟨by decide, by omega⟩, cs_129 c]
theorem pe_129 (c : PS h) (hn : 159 ≤ n) (i : Int32) (x : Int64) : stJ h n 129 i x = if inb i 15 = true then some (mm_sj h 129 i.toNatClampNeg x) else none := by unfold stJ; rw [if_pos ⟨by decide, by omega⟩, cs_129 c]
theorem gl_130 (c : PS h) (hn : 159 ≤ n) : lenA h n 130 1 = some 15 := by unfold lenA; rw [if_pos ⟨by decide, by omega⟩, cs_130 c]; rfl
theorem ge_130 (c : PS h) (hn : 159 ≤ n) (i : Int32) : ldJ h n 130 i = if inb i 15 = true then some (jA h 130 i.toNatClampNeg) else none := by unfold ldJ; rw [if_pos ⟨by decide, by omega⟩, cs_130 c]
theorem pe_130 (c : PS h) (hn : 159 ≤ n) (i : Int32) (x : Int64) : stJ h n 130 i x = if inb i 15 = true then some (mm_sj h 130 i.toNatClampNeg x) else none := by unfold stJ; rw [if_pos ⟨by decide, by omega⟩, cs_130 c]
theorem gl_131 (c : PS h) (hn : 159 ≤ n) : lenA h n 131 1 = some 15 := by unfold lenA; rw [if_pos ⟨by decide, by omega⟩, cs_131 c]; rfl
theorem ge_131 (c : PS h) (hn : 159 ≤ n) (i : Int32) : ldJ h n 131 i = if inb i 15 = true then some (jA h 131 i.toNatClampNeg) else none := by unfold ldJ; rw [if_pos ⟨by decide, by omega⟩, cs_131 c]
theorem pe_131 (c : PS h) (hn : 159 ≤ n) (i : Int32) (x : Int64) : stJ h n 131 i x = if inb i 15 = true then some (mm_sj h 131 i.toNatClampNeg x) else none := by unfold stJ; rw [if_pos ⟨by decide, by omega⟩, cs_131 c]
theorem gl_132 (c : PS h) (hn : 159 ≤ n) : lenA h n 132 1 = some 15 := by unfold lenA; rw [if_pos ⟨by decide, by omega⟩, cs_132 c]; rfl
theorem ge_132 (c : PS h) (hn : 159 ≤ n) (i : Int32) : ldJ h n 132 i = if inb i 15 = true then some (jA h 132 i.toNatClampNeg) else none := by unfold ldJ; rw [if_pos ⟨by decide, by omega⟩, cs_132 c]
theorem pe_132 (c : PS h) (hn : 159 ≤ n) (i : Int32) (x : Int64) : stJ h n 132 i x = if inb i 15 = true then some (mm_sj h 132 i.toNatClampNeg x) else none := by unfold stJ; rw [if_pos ⟨by decide, by omega⟩, cs_132 c]
theorem gl_133 (c : PS h) (hn : 159 ≤ n) : lenA h n 133 1 = some 15 := by unfold lenA; rw [if_pos ⟨by decide, by omega⟩, cs_133 c]; rfl
theorem ge_133 (c : PS h) (hn : 159 ≤ n) (i : Int32) : ldJ h n 133 i = if inb i 15 = true then some (jA h 133 i.toNatClampNeg) else none := by unfold ldJ; rw [if_pos ⟨by decide, by omega⟩, cs_133 c]
theorem pe_133 (c : PS h) (hn : 159 ≤ n) (i : Int32) (x : Int64) : stJ h n 133 i x = if inb i 15 = true then some (mm_sj h 133 i.toNatClampNeg x) else none := by unfold stJ; rw [if_pos ⟨by decide, by omega⟩, cs_133 c]
theorem gl_134 (c : PS h) (hn : 159 ≤ n) : lenA h n 134 1 = some 15 := by unfold lenA; rw [if_pos ⟨by decide, by omega⟩, cs_134 c]; rfl
theorem ge_134 (c : PS h) (hn : 159 ≤ n) (i : Int32) : ldJ h n 134 i = if inb i 15 = true then some (jA h 134 i.toNatClampNeg) else none := by unfold ldJ; rw [if_pos ⟨by decide, by omega⟩, cs_134 c]
theorem pe_134 (c : PS h) (hn : 159 ≤ n) (i : Int32) (x : Int64) : stJ h n 134 i x = if inb i 15 = true then some (mm_sj h 134 i.toNatClampNeg x) else none := by unfold stJ; rw [if_pos ⟨by decide, by omega⟩, cs_134 c]
theorem gl_135 (c : PS h) (hn : 159 ≤ n) : lenA h n 135 1 = some 15 := by unfold lenA; rw [if_pos ⟨by decide, by omega⟩, cs_135 c]; rfl
theorem ge_135 (c : PS h) (hn : 159 ≤ n) (i : Int32) : ldJ h n 135 i = if inb i 15 = true then some (jA h 135 i.toNatClampNeg) else none := by unfold ldJ; rw [if_pos ⟨by decide, by omega⟩, cs_135 c]
theorem pe_135 (c : PS h) (hn : 159 ≤ n) (i : Int32) (x : Int64) : stJ h n 135 i x = if inb i 15 = true then some (mm_sj h 135 i.toNatClampNeg x) else none := by unfold stJ; rw [if_pos ⟨by decide, by omega⟩, cs_135 c]
theorem gl_136 (c : PS h) (hn : 159 ≤ n) : lenA h n 136 1 = some 15 := by unfold lenA; rw [if_pos ⟨by decide, by omega⟩, cs_136 c]; rfl
theorem ge_136 (c : PS h) (hn : 159 ≤ n) (i : Int32) : ldJ h n 136 i = if inb i 15 = true then some (jA h 136 i.toNatClampNeg) else none := by unfold ldJ; rw [if_pos ⟨by decide, by omega⟩, cs_136 c]
theorem pe_136 (c : PS h) (hn : 159 ≤ n) (i : Int32) (x : Int64) : stJ h n 136 i x = if inb i 15 = true then some (mm_sj h 136 i.toNatClampNeg x) else none := by unfold stJ; rw [if_pos ⟨by decide, by omega⟩, cs_136 c]
theorem gl_137 (c : PS h) (hn : 159 ≤ n) : lenA h n 137 1 = some 15 := by unfold lenA; rw [if_pos ⟨by decide, by omega⟩, cs_137 c]; rfl
theorem ge_137 (c : PS h) (hn : 159 ≤ n) (i : Int32) : ldJ h n 137 i = if inb i 15 = true then some (jA h 137 i.toNatClampNeg) else none := by unfold ldJ; rw [if_pos ⟨by decide, by omega⟩, cs_137 c]
theorem pe_137 (c : PS h) (hn : 159 ≤ n) (i : Int32) (x : Int64) : stJ h n 137 i x = if inb i 15 = true then some (mm_sj h 137 i.toNatClampNeg x) else none := by unfold stJ; rw [if_pos ⟨by decide, by omega⟩, cs_137 c]
theorem gl_138 (c : PS h) (hn : 159 ≤ n) : lenA h n 138 1 = some 15 := by unfold lenA; rw [if_pos ⟨by decide, by omega⟩, cs_138 c]; rfl
theorem ge_138 (c : PS h) (hn : 159 ≤ n) (i : Int32) : ldJ h n 138 i = if inb i 15 = true then some (jA h 138 i.toNatClampNeg) else none := by unfold ldJ; rw [if_pos ⟨by decide, by omega⟩, cs_138 c]
theorem pe_138 (c : PS h) (hn : 159 ≤ n) (i : Int32) (x : Int64) : stJ h n 138 i x = if inb i 15 = true then some (mm_sj h 138 i.toNatClampNeg x) else none := by unfold stJ; rw [if_pos ⟨by decide, by omega⟩, cs_138 c]
theorem gl_139 (c : PS h) (hn : 159 ≤ n) : lenA h n 139 1 = some 15 := by unfold lenA; rw [if_pos ⟨by decide, by omega⟩, cs_139 c]; rfl
theorem ge_139 (c : PS h) (hn : 159 ≤ n) (i : Int32) : ldJ h n 139 i = if inb i 15 = true then some (jA h 139 i.toNatClampNeg) else none := by unfold ldJ; rw [if_pos ⟨by decide, by omega⟩, cs_139 c]
theorem pe_139 (c : PS h) (hn : 159 ≤ n) (i : Int32) (x : Int64) : stJ h n 139 i x = if inb i 15 = true then some (mm_sj h 139 i.toNatClampNeg x) else none := by unfold stJ; rw [if_pos ⟨by decide, by omega⟩, cs_139 c]
theorem gl_140 (c : PS h) (hn : 159 ≤ n) : lenA h n 140 1 = some 15 := by unfold lenA; rw [if_pos ⟨by decide, by omega⟩, cs_140 c]; rfl
theorem ge_140 (c : PS h) (hn : 159 ≤ n) (i : Int32) : ldJ h n 140 i = if inb i 15 = true then some (jA h 140 i.toNatClampNeg) else none := by unfold ldJ; rw [if_pos ⟨by decide, by omega⟩, cs_140 c]
theorem pe_140 (c : PS h) (hn : 159 ≤ n) (i : Int32) (x : Int64) : stJ h n 140 i x = if inb i 15 = true then some (mm_sj h 140 i.toNatClampNeg x) else none := by unfold stJ; rw [if_pos ⟨by decide, by omega⟩, cs_140 c]
theorem gl_141 (c : PS h) (hn : 159 ≤ n) : lenA h n 141 1 = some 15 := by unfold lenA; rw [if_pos ⟨by decide, by omega⟩, cs_141 c]; rfl
theorem ge_141 (c : PS h) (hn : 159 ≤ n) (i : Int32) : ldJ h n 141 i = if inb i 15 = true then some (jA h 141 i.toNatClampNeg) else none := by unfold ldJ; rw [if_pos ⟨by decide, by omega⟩, cs_141 c]
theorem pe_141 (c : PS h) (hn : 159 ≤ n) (i : Int32) (x : Int64) : stJ h n 141 i x = if inb i 15 = true then some (mm_sj h 141 i.toNatClampNeg x) else none := by unfold stJ; rw [if_pos ⟨by decide, by omega⟩, cs_141 c]
theorem gl_142 (c : PS h) (hn : 159 ≤ n) : lenA h n 142 1 = some 5 := by unfold lenA; rw [if_pos ⟨by decide, by omega⟩, cs_142 c]; rfl
theorem ge_142 (c : PS h) (hn : 159 ≤ n) (i : Int32) : ldJ h n 142 i = if inb i 5 = true then some (jA h 142 i.toNatClampNeg) else none := by unfold ldJ; rw [if_pos ⟨by decide, by omega⟩, cs_142 c]
theorem pe_142 (c : PS h) (hn : 159 ≤ n) (i : Int32) (x : Int64) : stJ h n 142 i x = if inb i 5 = true then some (mm_sj h 142 i.toNatClampNeg x) else none := by unfold stJ; rw [if_pos ⟨by decide, by omega⟩, cs_142 c]
theorem gq_143 (c : PS h) (hn : 159 ≤ n) : ckq h n 143 2 = some () := by unfold ckq ckr; rw [cs_143 c]; simp; omega
theorem g_143_0 (c : PS h) (hn : 159 ≤ n) : rdR h n 143 2 0 = some (some 49) := by unfold rdR; rw [if_pos ⟨by decide, by omega⟩, cs_143 c]; rfl
theorem g_143_1 (c : PS h) (hn : 159 ≤ n) : rdR h n 143 2 1 = some (some 144) := by unfold rdR; rw [if_pos ⟨by decide, by omega⟩, cs_143 c]; rfl
theorem g_143_2 (c : PS h) (hn : 159 ≤ n) : rdR h n 143 2 2 = some (some 145) := by unfold rdR; rw [if_pos ⟨by decide, by omega⟩, cs_143 c]; rfl
theorem g_143_3 (c : PS h) (hn : 159 ≤ n) : rdR h n 143 2 3 = some (some 146) := by unfold rdR; rw [if_pos ⟨by decide, by omega⟩, cs_143 c]; rfl
theorem g_143_4 (c : PS h) (hn : 159 ≤ n) : rdI h n 143 2 4 = some (fI h 143 4) := by unfold rdI; rw [if_pos ⟨by decide, by omega⟩, cs_143 c]; rfl
theorem p_143_4 (c : PS h) (hn : 159 ≤ n) (v : Value) : wrF h n 143 2 4 v = some (mm_sf h 143 4 v) := by unfold wrF; rw [if_pos ⟨by decide, by omega⟩, cs_143 c]; rfl
theorem g_143_5 (c : PS h) (hn : 159 ≤ n) : rdJ h n 143 2 5 = some (fJ h 143 5) := by unfold rdJ; rw [if_pos ⟨by decide, by omega⟩, cs_143 c]; rfl
theorem p_143_5 (c : PS h) (hn : 159 ≤ n) (v : Value) : wrF h n 143 2 5 v = some (mm_sf h 143 5 v) := by unfold wrF; rw [if_pos ⟨by decide, by omega⟩, cs_143 c]; rfl
theorem g_143_6 (c : PS h) (hn : 159 ≤ n) : rdJ h n 143 2 6 = some (fJ h 143 6) := by unfold rdJ; rw [if_pos ⟨by decide, by omega⟩, cs_143 c]; rfl
theorem p_143_6 (c : PS h) (hn : 159 ≤ n) (v : Value) : wrF h n 143 2 6 v = some (mm_sf h 143 6 v) := by unfold wrF; rw [if_pos ⟨by decide, by omega⟩, cs_143 c]; rfl
theorem g_143_7 (c : PS h) (hn : 159 ≤ n) : rdJ h n 143 2 7 = some (fJ h 143 7) := by unfold rdJ; rw [if_pos ⟨by decide, by omega⟩, cs_143 c]; rfl
theorem p_143_7 (c : PS h) (hn : 159 ≤ n) (v : Value) : wrF h n 143 2 7 v = some (mm_sf h 143 7 v) := by unfold wrF; rw [if_pos ⟨by decide, by omega⟩, cs_143 c]; rfl
theorem g_143_8 (c : PS h) (hn : 159 ≤ n) : rdJ h n 143 2 8 = some (fJ h 143 8) := by unfold rdJ; rw [if_pos ⟨by decide, by omega⟩, cs_143 c]; rfl
theorem p_143_8 (c : PS h) (hn : 159 ≤ n) (v : Value) : wrF h n 143 2 8 v = some (mm_sf h 143 8 v) := by unfold wrF; rw [if_pos ⟨by decide, by omega⟩, cs_143 c]; rfl
theorem g_143_9 (c : PS h) (hn : 159 ≤ n) : rdJ h n 143 2 9 = some (fJ h 143 9) := by unfold rdJ; rw [if_pos ⟨by decide, by omega⟩, cs_143 c]; rfl
theorem p_143_9 (c : PS h) (hn : 159 ≤ n) (v : Value) : wrF h n 143 2 9 v = some (mm_sf h 143 9 v) := by unfold wrF; rw [if_pos ⟨by decide, by omega⟩, cs_143 c]; rfl
theorem gl_144 (c : PS h) (hn : 159 ≤ n) : lenA h n 144 0 = some 50 := by unfold lenA; rw [if_pos ⟨by decide, by omega⟩, cs_144 c]; rfl
theorem ge_144 (c : PS h) (hn : 159 ≤ n) (i : Int32) : ldI h n 144 i = if inb i 50 = true then some (iA h 144 i.toNatClampNeg) else none := by unfold ldI; rw [if_pos (by omega), cs_144 c]
theorem pe_144 (c : PS h) (hn : 159 ≤ n) (i x : Int32) : stI h n 144 i x = if inb i 50 = true then some (mm_si h 144 i.toNatClampNeg x) else none := by unfold stI; rw [if_pos ⟨by decide, by omega⟩, cs_144 c]
theorem gl_145 (c : PS h) (hn : 159 ≤ n) : lenA h n 145 0 = some 50 := by unfold lenA; rw [if_pos ⟨by decide, by omega⟩, cs_145 c]; rfl
theorem ge_145 (c : PS h) (hn : 159 ≤ n) (i : Int32) : ldI h n 145 i = if inb i 50 = true then some (iA h 145 i.toNatClampNeg) else none := by unfold ldI; rw [if_pos (by omega), cs_145 c]
theorem pe_145 (c : PS h) (hn : 159 ≤ n) (i x : Int32) : stI h n 145 i x = if inb i 50 = true then some (mm_si h 145 i.toNatClampNeg x) else none := by unfold stI; rw [if_pos ⟨by decide, by omega⟩, cs_145 c]
theorem gl_146 (c : PS h) (hn : 159 ≤ n) : lenA h n 146 0 = some 50 := by unfold lenA; rw [if_pos ⟨by decide, by omega⟩, cs_146 c]; rfl
theorem ge_146 (c : PS h) (hn : 159 ≤ n) (i : Int32) : ldI h n 146 i = if inb i 50 = true then some (iA h 146 i.toNatClampNeg) else none := by unfold ldI; rw [if_pos (by omega), cs_146 c]
theorem pe_146 (c : PS h) (hn : 159 ≤ n) (i x : Int32) : stI h n 146 i x = if inb i 50 = true then some (mm_si h 146 i.toNatClampNeg x) else none := by unfold stI; rw [if_pos ⟨by decide, by omega⟩, cs_146 c]
theorem gq_147 (c : PS h) (hn : 159 ≤ n) : ckq h n 147 2 = some () := by unfold ckq ckr; rw [cs_147 c]; simp; omega
theorem g_147_0 (c : PS h) (hn : 159 ≤ n) : rdR h n 147 2 0 = some (some 49) := by unfold rdR; rw [if_pos ⟨by decide, by omega⟩, cs_147 c]; rfl
theorem g_147_1 (c : PS h) (hn : 159 ≤ n) : rdR h n 147 2 1 = some (some 148) := by unfold rdR; rw [if_pos ⟨by decide, by omega⟩, cs_147 c]; rfl
theorem g_147_2 (c : PS h) (hn : 159 ≤ n) : rdR h n 147 2 2 = some (some 149) := by unfold rdR; rw [if_pos ⟨by decide, by omega⟩, cs_147 c]; rfl
theorem g_147_3 (c : PS h) (hn : 159 ≤ n) : rdR h n 147 2 3 = some (some 150) := by unfold rdR; rw [if_pos ⟨by decide, by omega⟩, cs_147 c]; rfl
theorem g_147_4 (c : PS h) (hn : 159 ≤ n) : rdI h n 147 2 4 = some (fI h 147 4) := by unfold rdI; rw [if_pos ⟨by decide, by omega⟩, cs_147 c]; rfl
theorem p_147_4 (c : PS h) (hn : 159 ≤ n) (v : Value) : wrF h n 147 2 4 v = some (mm_sf h 147 4 v) := by unfold wrF; rw [if_pos ⟨by decide, by omega⟩, cs_147 c]; rfl
theorem g_147_5 (c : PS h) (hn : 159 ≤ n) : rdJ h n 147 2 5 = some (fJ h 147 5) := by unfold rdJ; rw [if_pos ⟨by decide, by omega⟩, cs_147 c]; rfl
theorem p_147_5 (c : PS h) (hn : 159 ≤ n) (v : Value) : wrF h n 147 2 5 v = some (mm_sf h 147 5 v) := by unfold wrF; rw [if_pos ⟨by decide, by omega⟩, cs_147 c]; rfl
theorem g_147_6 (c : PS h) (hn : 159 ≤ n) : rdJ h n 147 2 6 = some (fJ h 147 6) := by unfold rdJ; rw [if_pos ⟨by decide, by omega⟩, cs_147 c]; rfl
theorem p_147_6 (c : PS h) (hn : 159 ≤ n) (v : Value) : wrF h n 147 2 6 v = some (mm_sf h 147 6 v) := by unfold wrF; rw [if_pos ⟨by decide, by omega⟩, cs_147 c]; rfl
theorem g_147_7 (c : PS h) (hn : 159 ≤ n) : rdJ h n 147 2 7 = some (fJ h 147 7) := by unfold rdJ; rw [if_pos ⟨by decide, by omega⟩, cs_147 c]; rfl
theorem p_147_7 (c : PS h) (hn : 159 ≤ n) (v : Value) : wrF h n 147 2 7 v = some (mm_sf h 147 7 v) := by unfold wrF; rw [if_pos ⟨by decide, by omega⟩, cs_147 c]; rfl
theorem g_147_8 (c : PS h) (hn : 159 ≤ n) : rdJ h n 147 2 8 = some (fJ h 147 8) := by unfold rdJ; rw [if_pos ⟨by decide, by omega⟩, cs_147 c]; rfl
theorem p_147_8 (c : PS h) (hn : 159 ≤ n) (v : Value) : wrF h n 147 2 8 v = some (mm_sf h 147 8 v) := by unfold wrF; rw [if_pos ⟨by decide, by omega⟩, cs_147 c]; rfl
theorem g_147_9 (c : PS h) (hn : 159 ≤ n) : rdJ h n 147 2 9 = some (fJ h 147 9) := by unfold rdJ; rw [if_pos ⟨by decide, by omega⟩, cs_147 c]; rfl
theorem p_147_9 (c : PS h) (hn : 159 ≤ n) (v : Value) : wrF h n 147 2 9 v = some (mm_sf h 147 9 v) := by unfold wrF; rw [if_pos ⟨by decide, by omega⟩, cs_147 c]; rfl
theorem gl_148 (c : PS h) (hn : 159 ≤ n) : lenA h n 148 0 = some 50 := by unfold lenA; rw [if_pos ⟨by decide, by omega⟩, cs_148 c]; rfl
theorem ge_148 (c : PS h) (hn : 159 ≤ n) (i : Int32) : ldI h n 148 i = if inb i 50 = true then some (iA h 148 i.toNatClampNeg) else none := by unfold ldI; rw [if_pos (by omega), cs_148 c]
theorem pe_148 (c : PS h) (hn : 159 ≤ n) (i x : Int32) : stI h n 148 i x = if inb i 50 = true then some (mm_si h 148 i.toNatClampNeg x) else none := by unfold stI; rw [if_pos ⟨by decide, by omega⟩, cs_148 c]
theorem gl_149 (c : PS h) (hn : 159 ≤ n) : lenA h n 149 0 = some 50 := by unfold lenA; rw [if_pos ⟨by decide, by omega⟩, cs_149 c]; rfl
theorem ge_149 (c : PS h) (hn : 159 ≤ n) (i : Int32) : ldI h n 149 i = if inb i 50 = true then some (iA h 149 i.toNatClampNeg) else none := by unfold ldI; rw [if_pos (by omega), cs_149 c]
theorem pe_149 (c : PS h) (hn : 159 ≤ n) (i x : Int32) : stI h n 149 i x = if inb i 50 = true then some (mm_si h 149 i.toNatClampNeg x) else none := by unfold stI; rw [if_pos ⟨by decide, by omega⟩, cs_149 c]
theorem gl_150 (c : PS h) (hn : 159 ≤ n) : lenA h n 150 0 = some 50 := by unfold lenA; rw [if_pos ⟨by decide, by omega⟩, cs_150 c]; rfl
theorem ge_150 (c : PS h) (hn : 159 ≤ n) (i : Int32) : ldI h n 150 i = if inb i 50 = true then some (iA h 150 i.toNatClampNeg) else none := by unfold ldI; rw [if_pos (by omega), cs_150 c]
theorem pe_150 (c : PS h) (hn : 159 ≤ n) (i x : Int32) : stI h n 150 i x = if inb i 50 = true then some (mm_si h 150 i.toNatClampNeg x) else none := by unfold stI; rw [if_pos ⟨by decide, by omega⟩, cs_150 c]
theorem gq_151 (c : PS h) (hn : 159 ≤ n) : ckq h n 151 3 = some () := by unfold ckq ckr; rw [cs_151 c]; simp; omega
theorem g_151_0 (c : PS h) (hn : 159 ≤ n) : rdR h n 151 3 0 = some (fR h 151 0) := by unfold rdR; rw [if_pos ⟨by decide, by omega⟩, cs_151 c]; cases fR h 151 0 <;> rfl
theorem p_151_0 (c : PS h) (hn : 159 ≤ n) (v : Value) : wrF h n 151 3 0 v = some (mm_sf h 151 0 v) := by unfold wrF; rw [if_pos ⟨by decide, by omega⟩, cs_151 c]; rfl
theorem g_151_1 (c : PS h) (hn : 159 ≤ n) : rdI h n 151 3 1 = some (fI h 151 1) := by unfold rdI; rw [if_pos ⟨by decide, by omega⟩, cs_151 c]; rfl
theorem p_151_1 (c : PS h) (hn : 159 ≤ n) (v : Value) : wrF h n 151 3 1 v = some (mm_sf h 151 1 v) := by unfold wrF; rw [if_pos ⟨by decide, by omega⟩, cs_151 c]; rfl
theorem g_151_2 (c : PS h) (hn : 159 ≤ n) : rdI h n 151 3 2 = some (fI h 151 2) := by unfold rdI; rw [if_pos ⟨by decide, by omega⟩, cs_151 c]; rfl
theorem p_151_2 (c : PS h) (hn : 159 ≤ n) (v : Value) : wrF h n 151 3 2 v = some (mm_sf h 151 2 v) := by unfold wrF; rw [if_pos ⟨by decide, by omega⟩, cs_151 c]; rfl
theorem g_151_3 (c : PS h) (hn : 159 ≤ n) : rdI h n 151 3 3 = some (fI h 151 3) := by unfold rdI; rw [if_pos ⟨by decide, by omega⟩, cs_151 c]; rfl
theorem p_151_3 (c : PS h) (hn : 159 ≤ n) (v : Value) : wrF h n 151 3 3 v = some (mm_sf h 151 3 v) := by unfold wrF; rw [if_pos ⟨by decide, by omega⟩, cs_151 c]; rfl
theorem g_151_4 (c : PS h) (hn : 159 ≤ n) : rdI h n 151 3 4 = some (fI h 151 4) := by unfold rdI; rw [if_pos ⟨by decide, by omega⟩, cs_151 c]; rfl
theorem p_151_4 (c : PS h) (hn : 159 ≤ n) (v : Value) : wrF h n 151 3 4 v = some (mm_sf h 151 4 v) := by unfold wrF; rw [if_pos ⟨by decide, by omega⟩, cs_151 c]; rfl
theorem g_151_5 (c : PS h) (hn : 159 ≤ n) : rdI h n 151 3 5 = some (fI h 151 5) := by unfold rdI; rw [if_pos ⟨by decide, by omega⟩, cs_151 c]; rfl
theorem p_151_5 (c : PS h) (hn : 159 ≤ n) (v : Value) : wrF h n 151 3 5 v = some (mm_sf h 151 5 v) := by unfold wrF; rw [if_pos ⟨by decide, by omega⟩, cs_151 c]; rfl
theorem g_151_6 (c : PS h) (hn : 159 ≤ n) : rdR h n 151 3 6 = some (some 152) := by unfold rdR; rw [if_pos ⟨by decide, by omega⟩, cs_151 c]; rfl
theorem g_151_7 (c : PS h) (hn : 159 ≤ n) : rdI h n 151 3 7 = some (fI h 151 7) := by unfold rdI; rw [if_pos ⟨by decide, by omega⟩, cs_151 c]; rfl
theorem p_151_7 (c : PS h) (hn : 159 ≤ n) (v : Value) : wrF h n 151 3 7 v = some (mm_sf h 151 7 v) := by unfold wrF; rw [if_pos ⟨by decide, by omega⟩, cs_151 c]; rfl
theorem g_151_8 (c : PS h) (hn : 159 ≤ n) : rdR h n 151 3 8 = some (some 153) := by unfold rdR; rw [if_pos ⟨by decide, by omega⟩, cs_151 c]; rfl
theorem g_151_9 (c : PS h) (hn : 159 ≤ n) : rdI h n 151 3 9 = some (fI h 151 9) := by unfold rdI; rw [if_pos ⟨by decide, by omega⟩, cs_151 c]; rfl
theorem p_151_9 (c : PS h) (hn : 159 ≤ n) (v : Value) : wrF h n 151 3 9 v = some (mm_sf h 151 9 v) := by unfold wrF; rw [if_pos ⟨by decide, by omega⟩, cs_151 c]; rfl
theorem g_151_10 (c : PS h) (hn : 159 ≤ n) : rdR h n 151 3 10 = some (some 154) := by unfold rdR; rw [if_pos ⟨by decide, by omega⟩, cs_151 c]; rfl
theorem g_151_11 (c : PS h) (hn : 159 ≤ n) : rdI h n 151 3 11 = some (fI h 151 11) := by unfold rdI; rw [if_pos ⟨by decide, by omega⟩, cs_151 c]; rfl
theorem p_151_11 (c : PS h) (hn : 159 ≤ n) (v : Value) : wrF h n 151 3 11 v = some (mm_sf h 151 11 v) := by unfold wrF; rw [if_pos ⟨by decide, by omega⟩, cs_151 c]; rfl
theorem gl_152 (c : PS h) (hn : 159 ≤ n) : lenA h n 152 0 = some 270 := by unfold lenA; rw [if_pos ⟨by decide, by omega⟩, cs_152 c]; rfl
theorem ge_152 (c : PS h) (hn : 159 ≤ n) (i : Int32) : ldI h n 152 i = if inb i 270 = true then some (iA h 152 i.toNatClampNeg) else none := by unfold ldI; rw [if_pos (by omega), cs_152 c]
theorem pe_152 (c : PS h) (hn : 159 ≤ n) (i x : Int32) : stI h n 152 i x = if inb i 270 = true then some (mm_si h 152 i.toNatClampNeg x) else none := by unfold stI; rw [if_pos ⟨by decide, by omega⟩, cs_152 c]
theorem gl_153 (c : PS h) (hn : 159 ≤ n) : lenA h n 153 4 = some 30 := by unfold lenA; rw [if_pos ⟨by decide, by omega⟩, cs_153 c]; rfl
theorem ge_153 (c : PS h) (hn : 159 ≤ n) (i : Int32) : ldR h n 153 4 i = if inb i 30 = true then some (rA h 153 i.toNatClampNeg) else none := by unfold ldR; rw [if_pos ⟨by decide, by omega⟩, cs_153 c]; simp only [show mm_tys[4]? = some (.object "WaterReview$Rule") from rfl, show FieldType.isReference (.object "WaterReview$Rule") = true from rfl, true_and]
theorem gl_154 (c : PS h) (hn : 159 ≤ n) : lenA h n 154 0 = some 900 := by unfold lenA; rw [if_pos ⟨by decide, by omega⟩, cs_154 c]; rfl
theorem ge_154 (c : PS h) (hn : 159 ≤ n) (i : Int32) : ldI h n 154 i = if inb i 900 = true then some (iA h 154 i.toNatClampNeg) else none := by unfold ldI; rw [if_pos (by omega), cs_154 c]
theorem pe_154 (c : PS h) (hn : 159 ≤ n) (i x : Int32) : stI h n 154 i x = if inb i 900 = true then some (mm_si h 154 i.toNatClampNeg x) else none := by unfold stI; rw [if_pos ⟨by decide, by omega⟩, cs_154 c]
theorem gl_155 (c : PS h) (hn : 159 ≤ n) : lenA h n 155 0 = some 900 := by unfold lenA; rw [if_pos ⟨by decide, by omega⟩, cs_155 c]; rfl
theorem ge_155 (c : PS h) (hn : 159 ≤ n) (i : Int32) : ldI h n 155 i = if inb i 900 = true then some (iA h 155 i.toNatClampNeg) else none := by unfold ldI; rw [if_pos (by omega), cs_155 c]
theorem pe_155 (c : PS h) (hn : 159 ≤ n) (i x : Int32) : stI h n 155 i x = if inb i 900 = true then some (mm_si h 155 i.toNatClampNeg x) else none := by unfold stI; rw [if_pos ⟨by decide, by omega⟩, cs_155 c]
theorem gl_156 (c : PS h) (hn : 159 ≤ n) : lenA h n 156 5 = some 8 := by unfold lenA; rw [if_pos ⟨by decide, by omega⟩, cs_156 c]; rfl
theorem ge_156 (c : PS h) (hn : 159 ≤ n) (i : Int32) : ldR h n 156 5 i = if inb i 8 = true then some (rA h 156 i.toNatClampNeg) else none := by unfold ldR; rw [if_pos ⟨by decide, by omega⟩, cs_156 c]; simp only [show mm_tys[5]? = some (.object "WaterReview$RuleBook") from rfl, show FieldType.isReference (.object "WaterReview$RuleBook") = true from rfl, true_and]
theorem gl_157 (c : PS h) (hn : 159 ≤ n) : lenA h n 157 5 = some 4 := by unfold lenA; rw [if_pos ⟨by decide, by omega⟩, cs_157 c]; rfl
theorem ge_157 (c : PS h) (hn : 159 ≤ n) (i : Int32) : ldR h n 157 5 i = if inb i 4 = true then some (rA h 157 i.toNatClampNeg) else none := by unfold ldR; rw [if_pos ⟨by decide, by omega⟩, cs_157 c]; simp only [show mm_tys[5]? = some (.object "WaterReview$RuleBook") from rfl, show FieldType.isReference (.object "WaterReview$RuleBook") = true from rfl, true_and]
theorem gl_158 (c : PS h) (hn : 159 ≤ n) : lenA h n 158 0 = some 15 := by unfold lenA; rw [if_pos ⟨by decide, by omega⟩, cs_158 c]; rfl
theorem ge_158 (c : PS h) (hn : 159 ≤ n) (i : Int32) : ldI h n 158 i = if inb i 15 = true then some (iA h 158 i.toNatClampNeg) else none := by unfold ldI; rw [if_pos (by omega), cs_158 c]
theorem pe_158 (c : PS h) (hn : 159 ≤ n) (i x : Int32) : stI h n 158 i x = if inb i 15 = true then some (mm_si h 158 i.toNatClampNeg x) else none := by unfold stI; rw [if_pos ⟨by decide, by omega⟩, cs_158 c]
end SEM

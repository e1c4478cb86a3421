/-! ===== writes of the permanent cells ===== -/
section PSW
variable {h : mm_H}
theorem ps_48_5 (c : PS h) (x : Int32) : PS (mm_sf h 48 5 (.int x)) := c.sf (s := .inr 0) rfl rfl ⟨x, rfl⟩
theorem fs_48_5 (c : PS h) (x : Int32) : fI (mm_sf h 48 5 (.int x)) 48 5 = x := fI_sf_s (cs_48 c) (Nat.le_of_ble_eq_true rfl) x
theorem ps_48_7 (c : PS h) (x : Int32) : PS (mm_sf h 48 7 (.int x)) := c.sf (s := .inr 0) rfl rfl ⟨x, rfl⟩
theorem fs_48_7 (c : PS h) (x : Int32) : fI (mm_sf h 48 7 (.int x)) 48 7 = x := fI_sf_s (cs_48 c) (Nat.le_of_ble_eq_true rfl) x
theorem ps_48_8 (c : PS h) (x : Option Nat) : PS (mm_sf h 48 8 (va_rf x)) := c.sf (s := .inr 2) rfl rfl ⟨x, rfl⟩
theorem fs_48_8 (c : PS h) (x : Option Nat) : fR (mm_sf h 48 8 (va_rf x)) 48 8 = x := by unfold fR mm_sf; rw [mm_up_s, cs_48 c]; cases x <;> rfl
theorem ps_48_10 (c : PS h) (x : Int32) : PS (mm_sf h 48 10 (.int x)) := c.sf (s := .inr 0) rfl rfl ⟨x, rfl⟩
theorem fs_48_10 (c : PS h) (x : Int32) : fI (mm_sf h 48 10 (.int x)) 48 10 = x := fI_sf_s (cs_48 c) (Nat.le_of_ble_eq_true rfl) x
theorem ps_49_5 (c : PS h) (x : Int32) : PS (mm_sf h 49 5 (.int x)) := c.sf (s := .inr 0) rfl rfl ⟨x, rfl⟩
theorem fs_49_5 (c : PS h) (x : Int32) : fI (mm_sf h 49 5 (.int x)) 49 5 = x := fI_sf_s (cs_49 c) (Nat.le_of_ble_eq_true rfl) x
theorem ps_49_6 (c : PS h) (x : Int32) : PS (mm_sf h 49 6 (.int x)) := c.sf (s := .inr 0) rfl rfl ⟨x, rfl⟩
theorem fs_49_6 (c : PS h) (x : Int32) : fI (mm_sf h 49 6 (.int x)) 49 6 = x := fI_sf_s (cs_49 c) (Nat.le_of_ble_eq_true rfl) x
theorem ps_50 (c : PS h) (i : Nat) (x : Int32) : PS (mm_si h 50 i x) := c.si rfl (Or.inl rfl) i x
theorem is_50 (c : PS h) (i : Nat) (x : Int32) : iA (mm_si h 50 i x) 50 = upd (iA h 50) i x := iA_si_s (cs_50 c) i x
theorem ps_51_4 (c : PS h) (x : Int32) : PS (mm_sf h 51 4 (.int x)) := c.sf (s := .inr 0) rfl rfl ⟨x, rfl⟩
theorem fs_51_4 (c : PS h) (x : Int32) : fI (mm_sf h 51 4 (.int x)) 51 4 = x := fI_sf_s (cs_51 c) (Nat.le_of_ble_eq_true rfl) x
theorem ps_52 (c : PS h) (i : Nat) (x : Int32) : PS (mm_si h 52 i x) := c.si rfl (Or.inl rfl) i x
theorem is_52 (c : PS h) (i : Nat) (x : Int32) : iA (mm_si h 52 i x) 52 = upd (iA h 52) i x := iA_si_s (cs_52 c) i x
theorem ps_53 (c : PS h) (i : Nat) (x : Int32) : PS (mm_si h 53 i x) := c.si rfl (Or.inl rfl) i x
theorem is_53 (c : PS h) (i : Nat) (x : Int32) : iA (mm_si h 53 i x) 53 = upd (iA h 53) i x := iA_si_s (cs_53 c) i x
theorem ps_54 (c : PS h) (i : Nat) (x : Int32) : PS (mm_si h 54 i x) := c.si rfl (Or.inl rfl) i x
theorem is_54 (c : PS h) (i : Nat) (x : Int32) : iA (mm_si h 54 i x) 54 = upd (iA h 54) i x := iA_si_s (cs_54 c) i x
theorem ps_55 (c : PS h) (i : Nat) (x : Int32) : PS (mm_si h 55 i x) := c.si rfl (Or.inl rfl) i x
theorem is_55 (c : PS h) (i : Nat) (x : Int32) : iA (mm_si h 55 i x) 55 = upd (iA h 55) i x := iA_si_s (cs_55 c) i x
theorem ps_56_4 (c : PS h) (x : Int32) : PS (mm_sf h 56 4 (.int x)) := c.sf (s := .inr 0) rfl rfl ⟨x, rfl⟩
theorem fs_56_4 (c : PS h) (x : Int32) : fI (mm_sf h 56 4 (.int x)) 56 4 = x := fI_sf_s (cs_56 c) (Nat.le_of_ble_eq_true rfl) x
theorem ps_56_5 (c : PS h) (x : Int32) : PS (mm_sf h 56 5 (.int x)) := c.sf (s := .inr 0) rfl rfl ⟨x, rfl⟩
theorem fs_56_5 (c : PS h) (x : Int32) : fI (mm_sf h 56 5 (.int x)) 56 5 = x := fI_sf_s (cs_56 c) (Nat.le_of_ble_eq_true rfl) x
theorem ps_57 (c : PS h) (i : Nat) (x : Int32) : PS (mm_si h 57 i x) := c.si rfl (Or.inl rfl) i x
theorem is_57 (c : PS h) (i : Nat) (x : Int32) : iA (mm_si h 57 i x) 57 = upd (iA h 57) i x := iA_si_s (cs_57 c) i x
theorem ps_58 (c : PS h) (i : Nat) (x : Int32) : PS (mm_si h 58 i x) := c.si rfl (Or.inl rfl) i x
theorem is_58 (c : PS h) (i : Nat) (x : Int32) : iA (mm_si h 58 i x) 58 = upd (iA h 58) i x := iA_si_s (cs_58 c) i x
theorem ps_59 (c : PS h) (i : Nat) (x : Int32) : PS (mm_si h 59 i x) := c.si rfl (Or.inl rfl) i x
theorem is_59 (c : PS h) (i : Nat) (x : Int32) : iA (mm_si h 59 i x) 59 = upd (iA h 59) i x := iA_si_s (cs_59 c) i x
theorem ps_60 (c : PS h) (i : Nat) (x : Int32) : PS (mm_si h 60 i x) := c.si rfl (Or.inl rfl) i x
theorem is_60 (c : PS h) (i : Nat) (x : Int32) : iA (mm_si h 60 i x) 60 = upd (iA h 60) i x := iA_si_s (cs_60 c) i x
theorem ps_61_5 (c : PS h) (x : Int32) : PS (mm_sf h 61 5 (.int x)) := c.sf (s := .inr 0) rfl rfl ⟨x, rfl⟩
theorem fs_61_5 (c : PS h) (x : Int32) : fI (mm_sf h 61 5 (.int x)) 61 5 = x := fI_sf_s (cs_61 c) (Nat.le_of_ble_eq_true rfl) x
theorem ps_62 (c : PS h) (i : Nat) (x : Int32) : PS (mm_si h 62 i x) := c.si rfl (Or.inl rfl) i x
theorem is_62 (c : PS h) (i : Nat) (x : Int32) : iA (mm_si h 62 i x) 62 = upd (iA h 62) i x := iA_si_s (cs_62 c) i x
theorem ps_63 (c : PS h) (i : Nat) (x : Int32) : PS (mm_si h 63 i x) := c.si rfl (Or.inl rfl) i x
theorem is_63 (c : PS h) (i : Nat) (x : Int32) : iA (mm_si h 63 i x) 63 = upd (iA h 63) i x := iA_si_s (cs_63 c) i x
theorem ps_64 (c : PS h) (i : Nat) (x : Int32) : PS (mm_si h 64 i x) := c.si rfl (Or.inl rfl) i x
theorem is_64 (c : PS h) (i : Nat) (x : Int32) : iA (mm_si h 64 i x) 64 = upd (iA h 64) i x := iA_si_s (cs_64 c) i x
theorem ps_65 (c : PS h) (i : Nat) (x : Int32) : PS (mm_si h 65 i x) := c.si rfl (Or.inl rfl) i x
theorem is_65 (c : PS h) (i : Nat) (x : Int32) : iA (mm_si h 65 i x) 65 = upd (iA h 65) i x := iA_si_s (cs_65 c) i x
theorem ps_66 (c : PS h) (i : Nat) (x : Int32) : PS (mm_si h 66 i x) := c.si rfl (Or.inl rfl) i x
theorem is_66 (c : PS h) (i : Nat) (x : Int32) : iA (mm_si h 66 i x) 66 = upd (iA h 66) i x := iA_si_s (cs_66 c) i x
theorem ps_67_5 (c : PS h) (x : Int32) : PS (mm_sf h 67 5 (.int x)) := c.sf (s := .inr 0) rfl rfl ⟨x, rfl⟩
theorem fs_67_5 (c : PS h) (x : Int32) : fI (mm_sf h 67 5 (.int x)) 67 5 = x := fI_sf_s (cs_67 c) (Nat.le_of_ble_eq_true rfl) x
theorem ps_68 (c : PS h) (i : Nat) (x : Int32) : PS (mm_si h 68 i x) := c.si rfl (Or.inl rfl) i x
theorem is_68 (c : PS h) (i : Nat) (x : Int32) : iA (mm_si h 68 i x) 68 = upd (iA h 68) i x := iA_si_s (cs_68 c) i x
theorem ps_69 (c : PS h) (i : Nat) (x : Int32) : PS (mm_si h 69 i x) := c.si rfl (Or.inl rfl) i x
theorem is_69 (c : PS h) (i : Nat) (x : Int32) : iA (mm_si h 69 i x) 69 = upd (iA h 69) i x := iA_si_s (cs_69 c) i x
theorem ps_70 (c : PS h) (i : Nat) (x : Int32) : PS (mm_si h 70 i x) := c.si rfl (Or.inl rfl) i x
theorem is_70 (c : PS h) (i : Nat) (x : Int32) : iA (mm_si h 70 i x) 70 = upd (iA h 70) i x := iA_si_s (cs_70 c) i x
theorem ps_71 (c : PS h) (i : Nat) (x : Int32) : PS (mm_si h 71 i x) := c.si rfl (Or.inl rfl) i x
theorem is_71 (c : PS h) (i : Nat) (x : Int32) : iA (mm_si h 71 i x) 71 = upd (iA h 71) i x := iA_si_s (cs_71 c) i x
theorem ps_72 (c : PS h) (i : Nat) (x : Int32) : PS (mm_si h 72 i x) := c.si rfl (Or.inl rfl) i x
theorem is_72 (c : PS h) (i : Nat) (x : Int32) : iA (mm_si h 72 i x) 72 = upd (iA h 72) i x := iA_si_s (cs_72 c) i x
theorem ps_73_11 (c : PS h) (x : Int32) : PS (mm_sf h 73 11 (.int x)) := c.sf (s := .inr 0) rfl rfl ⟨x, rfl⟩
theorem fs_73_11 (c : PS h) (x : Int32) : fI (mm_sf h 73 11 (.int x)) 73 11 = x := fI_sf_s (cs_73 c) (Nat.le_of_ble_eq_true rfl) x
theorem ps_73_12 (c : PS h) (x : Int32) : PS (mm_sf h 73 12 (.int x)) := c.sf (s := .inr 0) rfl rfl ⟨x, rfl⟩
theorem fs_73_12 (c : PS h) (x : Int32) : fI (mm_sf h 73 12 (.int x)) 73 12 = x := fI_sf_s (cs_73 c) (Nat.le_of_ble_eq_true rfl) x
theorem ps_74 (c : PS h) (i : Nat) (x : Option Nat) : PS (mm_sr h 74 i x) := c.sr rfl i x
theorem is_74 (c : PS h) (i : Nat) (x : Option Nat) : rA (mm_sr h 74 i x) 74 = va_up (rA h 74) i x := rA_sr_s (cs_74 c) i x
theorem ps_76 (c : PS h) (i : Nat) (x : Int32) : PS (mm_si h 76 i x) := c.si rfl (Or.inl rfl) i x
theorem is_76 (c : PS h) (i : Nat) (x : Int32) : iA (mm_si h 76 i x) 76 = upd (iA h 76) i x := iA_si_s (cs_76 c) i x
theorem ps_77 (c : PS h) (i : Nat) (x : Int32) : PS (mm_si h 77 i x) := c.si rfl (Or.inl rfl) i x
theorem is_77 (c : PS h) (i : Nat) (x : Int32) : iA (mm_si h 77 i x) 77 = upd (iA h 77) i x := iA_si_s (cs_77 c) i x
theorem ps_78 (c : PS h) (i : Nat) (x : Int32) : PS (mm_si h 78 i x) := c.si rfl (Or.inl rfl) i x
theorem is_78 (c : PS h) (i : Nat) (x : Int32) : iA (mm_si h 78 i x) 78 = upd (iA h 78) i x := iA_si_s (cs_78 c) i x
theorem ps_79 (c : PS h) (i : Nat) (x : Int32) : PS (mm_si h 79 i x) := c.si rfl (Or.inl rfl) i x
theorem is_79 (c : PS h) (i : Nat) (x : Int32) : iA (mm_si h 79 i x) 79 = upd (iA h 79) i x := iA_si_s (cs_79 c) i x
theorem ps_80 (c : PS h) (i : Nat) (x : Int32) : PS (mm_si h 80 i x) := c.si rfl (Or.inl rfl) i x
theorem is_80 (c : PS h) (i : Nat) (x : Int32) : iA (mm_si h 80 i x) 80 = upd (iA h 80) i x := iA_si_s (cs_80 c) i x
theorem ps_81 (c : PS h) (i : Nat) (x : Int32) : PS (mm_si h 81 i x) := c.si rfl (Or.inl rfl) i x
theorem is_81 (c : PS h) (i : Nat) (x : Int32) : iA (mm_si h 81 i x) 81 = upd (iA h 81) i x := iA_si_s (cs_81 c) i x
theorem ps_82 (c : PS h) (i : Nat) (x : Int32) : PS (mm_si h 82 i x) := c.si rfl (Or.inl rfl) i x
theorem is_82 (c : PS h) (i : Nat) (x : Int32) : iA (mm_si h 82 i x) 82 = upd (iA h 82) i x := iA_si_s (cs_82 c) i x
theorem ps_83 (c : PS h) (i : Nat) (x : Int32) : PS (mm_si h 83 i x) := c.si rfl (Or.inl rfl) i x
theorem is_83 (c : PS h) (i : Nat) (x : Int32) : iA (mm_si h 83 i x) 83 = upd (iA h 83) i x := iA_si_s (cs_83 c) i x
theorem ps_84 (c : PS h) (i : Nat) (x : Int32) : PS (mm_si h 84 i x) := c.si rfl (Or.inl rfl) i x
theorem is_84 (c : PS h) (i : Nat) (x : Int32) : iA (mm_si h 84 i x) 84 = upd (iA h 84) i x := iA_si_s (cs_84 c) i x
theorem ps_85 (c : PS h) (i : Nat) (x : Int32) : PS (mm_si h 85 i x) := c.si rfl (Or.inl rfl) i x
theorem is_85 (c : PS h) (i : Nat) (x : Int32) : iA (mm_si h 85 i x) 85 = upd (iA h 85) i x := iA_si_s (cs_85 c) i x
theorem ps_86 (c : PS h) (i : Nat) (x : Int32) : PS (mm_si h 86 i x) := c.si rfl (Or.inl rfl) i x
theorem is_86 (c : PS h) (i : Nat) (x : Int32) : iA (mm_si h 86 i x) 86 = upd (iA h 86) i x := iA_si_s (cs_86 c) i x
theorem ps_87 (c : PS h) (i : Nat) (x : Int32) : PS (mm_si h 87 i x) := c.si rfl (Or.inl rfl) i x
theorem is_87 (c : PS h) (i : Nat) (x : Int32) : iA (mm_si h 87 i x) 87 = upd (iA h 87) i x := iA_si_s (cs_87 c) i x
theorem ps_88 (c : PS h) (i : Nat) (x : Int32) : PS (mm_si h 88 i x) := c.si rfl (Or.inl rfl) i x
theorem is_88 (c : PS h) (i : Nat) (x : Int32) : iA (mm_si h 88 i x) 88 = upd (iA h 88) i x := iA_si_s (cs_88 c) i x
theorem ps_89 (c : PS h) (i : Nat) (x : Int32) : PS (mm_si h 89 i x) := c.si rfl (Or.inl rfl) i x
theorem is_89 (c : PS h) (i : Nat) (x : Int32) : iA (mm_si h 89 i x) 89 = upd (iA h 89) i x := iA_si_s (cs_89 c) i x
theorem ps_90 (c : PS h) (i : Nat) (x : Int32) : PS (mm_si h 90 i x) := c.si rfl (Or.inl rfl) i x
theorem is_90 (c : PS h) (i : Nat) (x : Int32) : iA (mm_si h 90 i x) 90 = upd (iA h 90) i x := iA_si_s (cs_90 c) i x
theorem ps_92 (c : PS h) (i : Nat) (x : Int32) : PS (mm_si h 92 i x) := c.si rfl (Or.inl rfl) i x
theorem is_92 (c : PS h) (i : Nat) (x : Int32) : iA (mm_si h 92 i x) 92 = upd (iA h 92) i x := iA_si_s (cs_92 c) i x
theorem ps_93 (c : PS h) (i : Nat) (x : Int32) : PS (mm_si h 93 i x) := c.si rfl (Or.inl rfl) i x
theorem is_93 (c : PS h) (i : Nat) (x : Int32) : iA (mm_si h 93 i x) 93 = upd (iA h 93) i x := iA_si_s (cs_93 c) i x
theorem ps_94 (c : PS h) (i : Nat) (x : Int32) : PS (mm_si h 94 i x) := c.si rfl (Or.inl rfl) i x
theorem is_94 (c : PS h) (i : Nat) (x : Int32) : iA (mm_si h 94 i x) 94 = upd (iA h 94) i x := iA_si_s (cs_94 c) i x
theorem ps_95 (c : PS h) (i : Nat) (x : Int32) : PS (mm_si h 95 i x) := c.si rfl (Or.inl rfl) i x
theorem is_95 (c : PS h) (i : Nat) (x : Int32) : iA (mm_si h 95 i x) 95 = upd (iA h 95) i x := iA_si_s (cs_95 c) i x
theorem ps_96 (c : PS h) (i : Nat) (x : Int32) : PS (mm_si h 96 i x) := c.si rfl (Or.inl rfl) i x
theorem is_96 (c : PS h) (i : Nat) (x : Int32) : iA (mm_si h 96 i x) 96 = upd (iA h 96) i x := iA_si_s (cs_96 c) i x
theorem ps_97 (c : PS h) (i : Nat) (x : Int32) : PS (mm_si h 97 i x) := c.si rfl (Or.inl rfl) i x
theorem is_97 (c : PS h) (i : Nat) (x : Int32) : iA (mm_si h 97 i x) 97 = upd (iA h 97) i x := iA_si_s (cs_97 c) i x
theorem ps_98 (c : PS h) (i : Nat) (x : Int32) : PS (mm_si h 98 i x) := c.si rfl (Or.inl rfl) i x
theorem is_98 (c : PS h) (i : Nat) (x : Int32) : iA (mm_si h 98 i x) 98 = upd (iA h 98) i x := iA_si_s (cs_98 c) i x
theorem ps_99 (c : PS h) (i : Nat) (x : Int32) : PS (mm_si h 99 i x) := c.si rfl (Or.inl rfl) i x
theorem is_99 (c : PS h) (i : Nat) (x : Int32) : iA (mm_si h 99 i x) 99 = upd (iA h 99) i x := iA_si_s (cs_99 c) i x
theorem ps_100 (c : PS h) (i : Nat) (x : Int32) : PS (mm_si h 100 i x) := c.si rfl (Or.inl rfl) i x
theorem is_100 (c : PS h) (i : Nat) (x : Int32) : iA (mm_si h 100 i x) 100 = upd (iA h 100) i x := iA_si_s (cs_100 c) i x
theorem ps_101 (c : PS h) (i : Nat) (x : Int32) : PS (mm_si h 101 i x) := c.si rfl (Or.inl rfl) i x
theorem is_101 (c : PS h) (i : Nat) (x : Int32) : iA (mm_si h 101 i x) 101 = upd (iA h 101) i x := iA_si_s (cs_101 c) i x
theorem ps_102 (c : PS h) (i : Nat) (x : Int32) : PS (mm_si h 102 i x) := c.si rfl (Or.inl rfl) i x
theorem is_102 (c : PS h) (i : Nat) (x : Int32) : iA (mm_si h 102 i x) 102 = upd (iA h 102) i x := iA_si_s (cs_102 c) i x
theorem ps_103 (c : PS h) (i : Nat) (x : Int32) : PS (mm_si h 103 i x) := c.si rfl (Or.inl rfl) i x
theorem is_103 (c : PS h) (i : Nat) (x : Int32) : iA (mm_si h 103 i x) 103 = upd (iA h 103) i x := iA_si_s (cs_103 c) i x
theorem ps_104 (c : PS h) (i : Nat) (x : Int32) : PS (mm_si h 104 i x) := c.si rfl (Or.inl rfl) i x
theorem is_104 (c : PS h) (i : Nat) (x : Int32) : iA (mm_si h 104 i x) 104 = upd (iA h 104) i x := iA_si_s (cs_104 c) i x
theorem ps_105 (c : PS h) (i : Nat) (x : Int32) : PS (mm_si h 105 i x) := c.si rfl (Or.inl rfl) i x
theorem is_105 (c : PS h) (i : Nat) (x : Int32) : iA (mm_si h 105 i x) 105 = upd (iA h 105) i x := iA_si_s (cs_105 c) i x
theorem ps_106 (c : PS h) (i : Nat) (x : Int32) : PS (mm_si h 106 i x) := c.si rfl (Or.inl rfl) i x
theorem is_106 (c : PS h) (i : Nat) (x : Int32) : iA (mm_si h 106 i x) 106 = upd (iA h 106) i x := iA_si_s (cs_106 c) i x
theorem ps_107 (c : PS h) (i : Nat) (x : Int64) : PS (mm_sj h 107 i x) := c.sj rfl i x
theorem is_107 (c : PS h) (i : Nat) (x : Int64) : jA (mm_sj h 107 i x) 107 = vp_updL (jA h 107) i x := jA_sj_s (cs_107 c) i x
theorem ps_109 (c : PS h) (i : Nat) (x : Int64) : PS (mm_sj h 109 i x) := c.sj rfl i x
theorem is_109 (c : PS h) (i : Nat) (x : Int64) : jA (mm_sj h 109 i x) 109 = vp_updL (jA h 109) i x := jA_sj_s (cs_109 c) i x
theorem ps_110 (c : PS h) (i : Nat) (x : Int64) : PS (mm_sj h 110 i x) := c.sj rfl i x
theorem is_110 (c : PS h) (i : Nat) (x : Int64) : jA (mm_sj h 110 i x) 110 = vp_updL (jA h 110) i x := jA_sj_s (cs_110 c) i x
theorem ps_111 (c : PS h) (i : Nat) (x : Int64) : PS (mm_sj h 111 i x) := c.sj rfl i x
theorem is_111 (c : PS h) (i : Nat) (x : Int64) : jA (mm_sj h 111 i x) 111 = vp_updL (jA h 111) i x := jA_sj_s (cs_111 c) i x
theorem ps_112 (c : PS h) (i : Nat) (x : Int64) : PS (mm_sj h 112 i x) := c.sj rfl i x
theorem is_112 (c : PS h) (i : Nat) (x : Int64) : jA (mm_sj h 112 i x) 112 = vp_updL (jA h 112) i x := jA_sj_s (cs_112 c) i x
theorem ps_113 (c : PS h) (i : Nat) (x : Int64) : PS (mm_sj h 113 i x) := c.sj rfl i x
theorem is_113 (c : PS h) (i : Nat) (x : Int64) : jA (mm_sj h 113 i x) 113 = vp_updL (jA h 113) i x := jA_sj_s (cs_113 c) i x
theorem ps_114 (c : PS h) (i : Nat) (x : Int64) : PS (mm_sj h 114 i x) := c.sj rfl i x
theorem is_114 (c : PS h) (i : Nat) (x : Int64) : jA (mm_sj h 114 i x) 114 = vp_updL (jA h 114) i x := jA_sj_s (cs_114 c) i x
theorem ps_115 (c : PS h) (i : Nat) (x : Int64) : PS (mm_sj h 115 i x) := c.sj rfl i x
theorem is_115 (c : PS h) (i : Nat) (x : Int64) : jA (mm_sj h 115 i x) 115 = vp_updL (jA h 115) i x := jA_sj_s (cs_115 c) i x
theorem ps_116 (c : PS h) (i : Nat) (x : Int64) : PS (mm_sj h 116 i x) := c.sj rfl i x
theorem is_116 (c : PS h) (i : Nat) (x : Int64) : jA (mm_sj h 116 i x) 116 = vp_updL (jA h 116) i x := jA_sj_s (cs_116 c) i x
theorem ps_117 (c : PS h) (i : Nat) (x : Int64) : PS (mm_sj h 117 i x) := c.sj rfl i x
theorem is_117 (c : PS h) (i : Nat) (x : Int64) : jA (mm_sj h 117 i x) 117 = vp_updL (jA h 117) i x := jA_sj_s (cs_117 c) i x
theorem ps_118 (c : PS h) (i : Nat) (x : Int64) : PS (mm_sj h 118 i x) := c.sj rfl i x
theorem is_118 (c : PS h) (i : Nat) (x : Int64) : jA (mm_sj h 118 i x) 118 = vp_updL (jA h 118) i x := jA_sj_s (cs_118 c) i x
theorem ps_119 (c : PS h) (i : Nat) (x : Int64) : PS (mm_sj h 119 i x) := c.sj rfl i x
theorem is_119 (c : PS h) (i : Nat) (x : Int64) : jA (mm_sj h 119 i x) 119 = vp_updL (jA h 119) i x := jA_sj_s (cs_119 c) i x
theorem ps_120 (c : PS h) (i : Nat) (x : Int64) : PS (mm_sj h 120 i x) := c.sj rfl i x
theorem is_120 (c : PS h) (i : Nat) (x : Int64) : jA (mm_sj h 120 i x) 120 = vp_updL (jA h 120) i x := jA_sj_s (cs_120 c) i x
theorem ps_121 (c : PS h) (i : Nat) (x : Int64) : PS (mm_sj h 121 i x) := c.sj rfl i x
theorem is_121 (c : PS h) (i : Nat) (x : Int64) : jA (mm_sj h 121 i x) 121 = vp_updL (jA h 121) i x := jA_sj_s (cs_121 c) i x
theorem ps_122 (c : PS h) (i : Nat) (x : Int64) : PS (mm_sj h 122 i x) := c.sj rfl i x
theorem is_122 (c : PS h) (i : Nat) (x : Int64) : jA (mm_sj h 122 i x) 122 = vp_updL (jA h 122) i x := jA_sj_s (cs_122 c) i x
theorem ps_123 (c : PS h) (i : Nat) (x : Int64) : PS (mm_sj h 123 i x) := c.sj rfl i x
theorem is_123 (c : PS h) (i : Nat) (x : Int64) : jA (mm_sj h 123 i x) 123 = vp_updL (jA h 123) i x := jA_sj_s (cs_123 c) i x
theorem ps_125 (c : PS h) (i : Nat) (x : Int64) : PS (mm_sj h 125 i x) := c.sj rfl i x
theorem is_125 (c : PS h) (i : Nat) (x : Int64) : jA (mm_sj h 125 i x) 125 = vp_updL (jA h 125) i x := jA_sj_s (cs_125 c) i x
theorem ps_126 (c : PS h) (i : Nat) (x : Int64) : PS (mm_sj h 126 i x) := c.sj rfl i x
theorem is_126 (c : PS h) (i : Nat) (x : Int64) : jA (mm_sj h 126 i x) 126 = vp_updL (jA h 126) i x := jA_sj_s (cs_126 c) i x
theorem ps_127 (c : PS h) (i : Nat) (x : Int64) : PS (mm_sj h 127 i x) := c.sj rfl i x
theorem is_127 (c : PS h) (i : Nat) (x : Int64) : jA (mm_sj h 127 i x) 127 = vp_updL (jA h 127) i x := jA_sj_s (cs_127 c) i x
theorem ps_128 (c : PS h) (i : Nat) (x : Int64) : PS (mm_sj h 128 i x) := c.sj rfl i x
theorem is_128 (c : PS h) (i : Nat) (x : Int64) : jA (mm_sj h 128 i x) 128 = vp_updL (jA h 128) i x := jA_sj_s (cs_128 c) i x
theorem ps_129 (c : PS h) (i : Nat) (x : Int64) : PS (mm_sj h 129 i x) := c.sj rfl i x
theorem is_129 (c : PS h) (i : Nat) (x : Int64) : jA (mm_sj h 129 i x) 129 = vp_updL (jA h 129) i x := jA_sj_s (cs_129 c) i x
theorem ps_130 (c : PS h) (i : Nat) (x : Int64) : PS (mm_sj h 130 i x) := c.sj rfl i x
theorem is_130 (c : PS h) (i : Nat) (x : Int64) : jA (mm_sj h 130 i x) 130 = vp_updL (jA h 130) i x := jA_sj_s (cs_130 c) i x
theorem ps_131 (c : PS h) (i : Nat) (x : Int64) : PS (mm_sj h 131 i x) := c.sj rfl i x
theorem is_131 (c : PS h) (i : Nat) (x : Int64) : jA (mm_sj h 131 i x) 131 = vp_updL (jA h 131) i x := jA_sj_s (cs_131 c) i x
theorem ps_132 (c : PS h) (i : Nat) (x : Int64) : PS (mm_sj h 132 i x) := c.sj rfl i x
theorem is_132 (c : PS h) (i : Nat) (x : Int64) : jA (mm_sj h 132 i x) 132 = vp_updL (jA h 132) i x := jA_sj_s (cs_132 c) i x
theorem ps_133 (c : PS h) (i : Nat) (x : Int64) : PS (mm_sj h 133 i x) := c.sj rfl i x
theorem is_133 (c : PS h) (i : Nat) (x : Int64) : jA (mm_sj h 133 i x) 133 = vp_updL (jA h 133) i x := jA_sj_s (cs_133 c) i x
theorem ps_134 (c : PS h) (i : Nat) (x : Int64) : PS (mm_sj h 134 i x) := c.sj rfl i x
theorem is_134 (c : PS h) (i : Nat) (x : Int64) : jA (mm_sj h 134 i x) 134 = vp_updL (jA h 134) i x := jA_sj_s (cs_134 c) i x
theorem ps_135 (c : PS h) (i : Nat) (x : Int64) : PS (mm_sj h 135 i x) := c.sj rfl i x
theorem is_135 (c : PS h) (i : Nat) (x : Int64) : jA (mm_sj h 135 i x) 135 = vp_updL (jA h 135) i x := jA_sj_s (cs_135 c) i x
theorem ps_136 (c : PS h) (i : Nat) (x : Int64) : PS (mm_sj h 136 i x) := c.sj rfl i x
theorem is_136 (c : PS h) (i : Nat) (x : Int64) : jA (mm_sj h 136 i x) 136 = vp_updL (jA h 136) i x := jA_sj_s (cs_136 c) i x
theorem ps_137 (c : PS h) (i : Nat) (x : Int64) : PS (mm_sj h 137 i x) := c.sj rfl i x
theorem is_137 (c : PS h) (i : Nat) (x : Int64) : jA (mm_sj h 137 i x) 137 = vp_updL (jA h 137) i x := jA_sj_s (cs_137 c) i x
theorem ps_138 (c : PS h) (i : Nat) (x : Int64) : PS (mm_sj h 138 i x) := c.sj rfl i x
theorem is_138 (c : PS h) (i : Nat) (x : Int64) : jA (mm_sj h 138 i x) 138 = vp_updL (jA h 138) i x := jA_sj_s (cs_138 c) i x
theorem ps_139 (c : PS h) (i : Nat) (x : Int64) : PS (mm_sj h 139 i x) := c.sj rfl i x
theorem is_139 (c : PS h) (i : Nat) (x : Int64) : jA (mm_sj h 139 i x) 139 = vp_updL (jA h 139) i x := jA_sj_s (cs_139 c) i x
theorem ps_140 (c : PS h) (i : Nat) (x : Int64) : PS (mm_sj h 140 i x) := c.sj rfl i x
theorem is_140 (c : PS h) (i : Nat) (x : Int64) : jA (mm_sj h 140 i x) 140 = vp_updL (jA h 140) i x := jA_sj_s (cs_140 c) i x
theorem ps_141 (c : PS h) (i : Nat) (x : Int64) : PS (mm_sj h 141 i x) := c.sj rfl i x
theorem is_141 (c : PS h) (i : Nat) (x : Int64) : jA (mm_sj h 141 i x) 141 = vp_updL (jA h 141) i x := jA_sj_s (cs_141 c) i x
theorem ps_142 (c : PS h) (i : Nat) (x : Int64) : PS (mm_sj h 142 i x) := c.sj rfl i x
theorem is_142 (c : PS h) (i : Nat) (x : Int64) : jA (mm_sj h 142 i x) 142 = vp_updL (jA h 142) i x := jA_sj_s (cs_142 c) i x
theorem ps_143_4 (c : PS h) (x : Int32) : PS (mm_sf h 143 4 (.int x)) := c.sf (s := .inr 0) rfl rfl ⟨x, rfl⟩
theorem fs_143_4 (c : PS h) (x : Int32) : fI (mm_sf h 143 4 (.int x)) 143 4 = x := fI_sf_s (cs_143 c) (Nat.le_of_ble_eq_true rfl) x
theorem ps_143_5 (c : PS h) (x : Int64) : PS (mm_sf h 143 5 (.long x)) := c.sf (s := .inr 1) rfl rfl ⟨x, rfl⟩
theorem fs_143_5 (c : PS h) (x : Int64) : fJ (mm_sf h 143 5 (.long x)) 143 5 = x := fJ_sf_s (cs_143 c) (Nat.le_of_ble_eq_true rfl) x
theorem ps_143_6 (c : PS h) (x : Int64) : PS (mm_sf h 143 6 (.long x)) := c.sf (s := .inr 1) rfl rfl ⟨x, rfl⟩
theorem fs_143_6 (c : PS h) (x : Int64) : fJ (mm_sf h 143 6 (.long x)) 143 6 = x := fJ_sf_s (cs_143 c) (Nat.le_of_ble_eq_true rfl) x
theorem ps_143_7 (c : PS h) (x : Int64) : PS (mm_sf h 143 7 (.long x)) := c.sf (s := .inr 1) rfl rfl ⟨x, rfl⟩
theorem fs_143_7 (c : PS h) (x : Int64) : fJ (mm_sf h 143 7 (.long x)) 143 7 = x := fJ_sf_s (cs_143 c) (Nat.le_of_ble_eq_true rfl) x
theorem ps_143_8 (c : PS h) (x : Int64) : PS (mm_sf h 143 8 (.long x)) := c.sf (s := .inr 1) rfl rfl ⟨x, rfl⟩
theorem fs_143_8 (c : PS h) (x : Int64) : fJ (mm_sf h 143 8 (.long x)) 143 8 = x := fJ_sf_s (cs_143 c) (Nat.le_of_ble_eq_true rfl) x
theorem ps_143_9 (c : PS h) (x : Int64) : PS (mm_sf h 143 9 (.long x)) := c.sf (s := .inr 1) rfl rfl ⟨x, rfl⟩
theorem fs_143_9 (c : PS h) (x : Int64) : fJ (mm_sf h 143 9 (.long x)) 143 9 = x := fJ_sf_s (cs_143 c) (Nat.le_of_ble_eq_true rfl) x
theorem ps_144 (c : PS h) (i : Nat) (x : Int32) : PS (mm_si h 144 i x) := c.si rfl (Or.inl rfl) i x
theorem is_144 (c : PS h) (i : Nat) (x : Int32) : iA (mm_si h 144 i x) 144 = upd (iA h 144) i x := iA_si_s (cs_144 c) i x
theorem ps_145 (c : PS h) (i : Nat) (x : Int32) : PS (mm_si h 145 i x) := c.si rfl (Or.inl rfl) i x
theorem is_145 (c : PS h) (i : Nat) (x : Int32) : iA (mm_si h 145 i x) 145 = upd (iA h 145) i x := iA_si_s (cs_145 c) i x
theorem ps_146 (c : PS h) (i : Nat) (x : Int32) : PS (mm_si h 146 i x) := c.si rfl (Or.inl rfl) i x
theorem is_146 (c : PS h) (i : Nat) (x : Int32) : iA (mm_si h 146 i x) 146 = upd (iA h 146) i x := iA_si_s (cs_146 c) i x
theorem ps_147_4 (c : PS h) (x : Int32) : PS (mm_sf h 147 4 (.int x)) := c.sf (s := .inr 0) rfl rfl ⟨x, rfl⟩
theorem fs_147_4 (c : PS h) (x : Int32) : fI (mm_sf h 147 4 (.int x)) 147 4 = x := fI_sf_s (cs_147 c) (Nat.le_of_ble_eq_true rfl) x
theorem ps_147_5 (c : PS h) (x : Int64) : PS (mm_sf h 147 5 (.long x)) := c.sf (s := .inr 1) rfl rfl ⟨x, rfl⟩
theorem fs_147_5 (c : PS h) (x : Int64) : fJ (mm_sf h 147 5 (.long x)) 147 5 = x := fJ_sf_s (cs_147 c) (Nat.le_of_ble_eq_true rfl) x
theorem ps_147_6 (c : PS h) (x : Int64) : PS (mm_sf h 147 6 (.long x)) := c.sf (s := .inr 1) rfl rfl ⟨x, rfl⟩
theorem fs_147_6 (c : PS h) (x : Int64) : fJ (mm_sf h 147 6 (.long x)) 147 6 = x := fJ_sf_s (cs_147 c) (Nat.le_of_ble_eq_true rfl) x
theorem ps_147_7 (c : PS h) (x : Int64) : PS (mm_sf h 147 7 (.long x)) := c.sf (s := .inr 1) rfl rfl ⟨x, rfl⟩
theorem fs_147_7 (c : PS h) (x : Int64) : fJ (mm_sf h 147 7 (.long x)) 147 7 = x := fJ_sf_s (cs_147 c) (Nat.le_of_ble_eq_true rfl) x
theorem ps_147_8 (c : PS h) (x : Int64) : PS (mm_sf h 147 8 (.long x)) := c.sf (s := .inr 1) rfl rfl ⟨x, rfl⟩
theorem fs_147_8 (c : PS h) (x : Int64) : fJ (mm_sf h 147 8 (.long x)) 147 8 = x := fJ_sf_s (cs_147 c) (Nat.le_of_ble_eq_true rfl) x
theorem ps_147_9 (c : PS h) (x : Int64) : PS (mm_sf h 147 9 (.long x)) := c.sf (s := .inr 1) rfl rfl ⟨x, rfl⟩
theorem fs_147_9 (c : PS h) (x : Int64) : fJ (mm_sf h 147 9 (.long x)) 147 9 = x := fJ_sf_s (cs_147 c) (Nat.le_of_ble_eq_true rfl) x
theorem ps_148 (c : PS h) (i : Nat) (x : Int32) : PS (mm_si h 148 i x) := c.si rfl (Or.inl rfl) i x
theorem is_148 (c : PS h) (i : Nat) (x : Int32) : iA (mm_si h 148 i x) 148 = upd (iA h 148) i x := iA_si_s (cs_148 c) i x
theorem ps_149 (c : PS h) (i : Nat) (x : Int32) : PS (mm_si h 149 i x) := c.si rfl (Or.inl rfl) i x
theorem is_149 (c : PS h) (i : Nat) (x : Int32) : iA (mm_si h 149 i x) 149 = upd (iA h 149) i x := iA_si_s (cs_149 c) i x
theorem ps_150 (c : PS h) (i : Nat) (x : Int32) : PS (mm_si h 150 i x) := c.si rfl (Or.inl rfl) i x
theorem is_150 (c : PS h) (i : Nat) (x : Int32) : iA (mm_si h 150 i x) 150 = upd (iA h 150) i x := iA_si_s (cs_150 c) i x
theorem ps_151_0 (c : PS h) (x : Option Nat) : PS (mm_sf h 151 0 (va_rf x)) := c.sf (s := .inr 2) rfl rfl ⟨x, rfl⟩
theorem fs_151_0 (c : PS h) (x : Option Nat) : fR (mm_sf h 151 0 (va_rf x)) 151 0 = x := by unfold fR mm_sf; rw [mm_up_s, cs_151 c]; cases x <;> rfl
theorem ps_151_1 (c : PS h) (x : Int32) : PS (mm_sf h 151 1 (.int x)) := c.sf (s := .inr 0) rfl rfl ⟨x, rfl⟩
theorem fs_151_1 (c : PS h) (x : Int32) : fI (mm_sf h 151 1 (.int x)) 151 1 = x := fI_sf_s (cs_151 c) (Nat.le_of_ble_eq_true rfl) x
theorem ps_151_2 (c : PS h) (x : Int32) : PS (mm_sf h 151 2 (.int x)) := c.sf (s := .inr 0) rfl rfl ⟨x, rfl⟩
theorem fs_151_2 (c : PS h) (x : Int32) : fI (mm_sf h 151 2 (.int x)) 151 2 = x := fI_sf_s (cs_151 c) (Nat.le_of_ble_eq_true rfl) x
theorem ps_151_3 (c : PS h) (x : Int32) : PS (mm_sf h 151 3 (.int x)) := c.sf (s := .inr 0) rfl rfl ⟨x, rfl⟩
theorem fs_151_3 (c : PS h) (x : Int32) : fI (mm_sf h 151 3 (.int x)) 151 3 = x := fI_sf_s (cs_151 c) (Nat.le_of_ble_eq_true rfl) x
theorem ps_151_4 (c : PS h) (x : Int32) : PS (mm_sf h 151 4 (.int x)) := c.sf (s := .inr 0) rfl rfl ⟨x, rfl⟩
theorem fs_151_4 (c : PS h) (x : Int32) : fI (mm_sf h 151 4 (.int x)) 151 4 = x := fI_sf_s (cs_151 c) (Nat.le_of_ble_eq_true rfl) x
theorem ps_151_5 (c : PS h) (x : Int32) : PS (mm_sf h 151 5 (.int x)) := c.sf (s := .inr 0) rfl rfl ⟨x, rfl⟩
theorem fs_151_5 (c : PS h) (x : Int32) : fI (mm_sf h 151 5 (.int x)) 151 5 = x := fI_sf_s (cs_151 c) (Nat.le_of_ble_eq_true rfl) x
theorem ps_151_7 (c : PS h) (x : Int32) : PS (mm_sf h 151 7 (.int x)) := c.sf (s := .inr 0) rfl rfl ⟨x, rfl⟩
theorem fs_151_7 (c : PS h) (x : Int32) : fI (mm_sf h 151 7 (.int x)) 151 7 = x := fI_sf_s (cs_151 c) (Nat.le_of_ble_eq_true rfl) x
theorem ps_151_9 (c : PS h) (x : Int32) : PS (mm_sf h 151 9 (.int x)) := c.sf (s := .inr 0) rfl rfl ⟨x, rfl⟩
theorem fs_151_9 (c : PS h) (x : Int32) : fI (mm_sf h 151 9 (.int x)) 151 9 = x := fI_sf_s (cs_151 c) (Nat.le_of_ble_eq_true rfl) x
theorem ps_151_11 (c : PS h) (x : Int32) : PS (mm_sf h 151 11 (.int x)) := c.sf (s := .inr 0) rfl rfl ⟨x, rfl⟩
theorem fs_151_11 (c : PS h) (x : Int32) : fI (mm_sf h 151 11 (.int x)) 151 11 = x := fI_sf_s (cs_151 c) (Nat.le_of_ble_eq_true rfl) x
theorem ps_152 (c : PS h) (i : Nat) (x : Int32) : PS (mm_si h 152 i x) := c.si rfl (Or.inl rfl) i x
theorem is_152 (c : PS h) (i : Nat) (x : Int32) : iA (mm_si h 152 i x) 152 = upd (iA h 152) i x := iA_si_s (cs_152 c) i x
theorem ps_153 (c : PS h) (i : Nat) (x : Option Nat) : PS (mm_sr h 153 i x) := c.sr rfl i x
theorem is_153 (c : PS h) (i : Nat) (x : Option Nat) : rA (mm_sr h 153 i x) 153 = va_up (rA h 153) i x := rA_sr_s (cs_153 c) i x
theorem ps_154 (c : PS h) (i : Nat) (x : Int32) : PS (mm_si h 154 i x) := c.si rfl (Or.inl rfl) i x
theorem is_154 (c : PS h) (i : Nat) (x : Int32) : iA (mm_si h 154 i x) 154 = upd (iA h 154) i x := iA_si_s (cs_154 c) i x
theorem ps_155 (c : PS h) (i : Nat) (x : Int32) : PS (mm_si h 155 i x) := c.si rfl (Or.inl rfl) i x
theorem is_155 (c : PS h) (i : Nat) (x : Int32) : iA (mm_si h 155 i x) 155 = upd (iA h 155) i x := iA_si_s (cs_155 c) i x
theorem ps_156 (c : PS h) (i : Nat) (x : Option Nat) : PS (mm_sr h 156 i x) := c.sr rfl i x
theorem is_156 (c : PS h) (i : Nat) (x : Option Nat) : rA (mm_sr h 156 i x) 156 = va_up (rA h 156) i x := rA_sr_s (cs_156 c) i x
theorem ps_157 (c : PS h) (i : Nat) (x : Option Nat) : PS (mm_sr h 157 i x) := c.sr rfl i x
theorem is_157 (c : PS h) (i : Nat) (x : Option Nat) : rA (mm_sr h 157 i x) 157 = va_up (rA h 157) i x := rA_sr_s (cs_157 c) i x
theorem ps_158 (c : PS h) (i : Nat) (x : Int32) : PS (mm_si h 158 i x) := c.si rfl (Or.inl rfl) i x
theorem is_158 (c : PS h) (i : Nat) (x : Int32) : iA (mm_si h 158 i x) 158 = upd (iA h 158) i x := iA_si_s (cs_158 c) i x
end PSW

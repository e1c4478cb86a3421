theorem dX10_rules_47 : decode cX10_rules 47 = .ok (.getfield 12, 3) := by decide +kernel
theorem dX10_rules_50 : decode cX10_rules 50 = .ok (.getfield 55, 3) := by decide +kernel
theorem dX10_rules_53 : decode cX10_rules 53 = .ok (.invokevirtual 132, 3) := by decide +kernel
theorem dX10_rules_56 : decode cX10_rules 56 = .ok (.invokevirtual 136, 3) := by decide +kernel
theorem dX10_rules_59 : decode cX10_rules 59 = .ok (.invokevirtual 140, 3) := by decide +kernel
theorem dX10_rules_62 : decode cX10_rules 62 = .ok (.astore_n 3, 1) := by decide +kernel
theorem dX10_rules_63 : decode cX10_rules 63 = .ok (.aload_n 0, 1) := by decide +kernel
theorem dX10_rules_64 : decode cX10_rules 64 = .ok (.iconst 0, 1) := by decide +kernel
theorem dX10_rules_65 : decode cX10_rules 65 = .ok (.putfield 119, 3) := by decide +kernel
theorem dX10_rules_68 : decode cX10_rules 68 = .ok (.aload_n 3, 1) := by decide +kernel
theorem dX10_rules_69 : decode cX10_rules 69 = .ok (.ifnonnull 5, 3) := by decide +kernel
theorem dX10_rules_72 : decode cX10_rules 72 = .ok (.iconst (-1), 1) := by decide +kernel
theorem dX10_rules_73 : decode cX10_rules 73 = .ok (.ireturn, 1) := by decide +kernel
theorem dX10_rules_74 : decode cX10_rules 74 = .ok (.aload_n 3, 1) := by decide +kernel
theorem dX10_rules_75 : decode cX10_rules 75 = .ok (.iload_n 2, 1) := by decide +kernel
theorem dX10_rules_76 : decode cX10_rules 76 = .ok (.putfield 144, 3) := by decide +kernel
theorem dX10_rules_79 : decode cX10_rules 79 = .ok (.aload_n 3, 1) := by decide +kernel
theorem dX10_rules_80 : decode cX10_rules 80 = .ok (.aload_n 0, 1) := by decide +kernel
theorem dX10_rules_81 : decode cX10_rules 81 = .ok (.getfield 12, 3) := by decide +kernel
theorem dX10_rules_84 : decode cX10_rules 84 = .ok (.getfield 55, 3) := by decide +kernel
theorem dX10_rules_87 : decode cX10_rules 87 = .ok (.putfield 147, 3) := by decide +kernel
theorem dX10_rules_90 : decode cX10_rules 90 = .ok (.aload_n 0, 1) := by decide +kernel
theorem dX10_rules_91 : decode cX10_rules 91 = .ok (.getfield 45, 3) := by decide +kernel
theorem dX10_rules_94 : decode cX10_rules 94 = .ok (.aload_n 0, 1) := by decide +kernel
theorem dX10_rules_95 : decode cX10_rules 95 = .ok (.getfield 129, 3) := by decide +kernel
theorem dX10_rules_98 : decode cX10_rules 98 = .ok (.aload_n 3, 1) := by decide +kernel
theorem dX10_rules_99 : decode cX10_rules 99 = .ok (.aastore, 1) := by decide +kernel
theorem dX10_rules_100 : decode cX10_rules 100 = .ok (.aload_n 0, 1) := by decide +kernel
theorem dX10_rules_101 : decode cX10_rules 101 = .ok (.dup, 1) := by decide +kernel
theorem dX10_rules_102 : decode cX10_rules 102 = .ok (.getfield 129, 3) := by decide +kernel
theorem dX10_rules_105 : decode cX10_rules 105 = .ok (.iconst 1, 1) := by decide +kernel
theorem dX10_rules_106 : decode cX10_rules 106 = .ok (.iadd, 1) := by decide +kernel
theorem dX10_rules_107 : decode cX10_rules 107 = .ok (.putfield 129, 3) := by decide +kernel
theorem dX10_rules_110 : decode cX10_rules 110 = .ok (.aload_n 0, 1) := by decide +kernel
theorem dX10_rules_111 : decode cX10_rules 111 = .ok (.getfield 129, 3) := by decide +kernel
theorem dX10_rules_114 : decode cX10_rules 114 = .ok (.iconst 1, 1) := by decide +kernel
theorem dX10_rules_115 : decode cX10_rules 115 = .ok (.isub, 1) := by decide +kernel
theorem dX10_rules_116 : decode cX10_rules 116 = .ok (.ireturn, 1) := by decide +kernel
theorem dX10_beside_0 : decode cX10_beside 0 = .ok (.iload_n 1, 1) := by decide +kernel
theorem dX10_beside_1 : decode cX10_beside 1 = .ok (.ifCond .lt 11, 3) := by decide +kernel
theorem dX10_beside_4 : decode cX10_beside 4 = .ok (.iload_n 1, 1) := by decide +kernel
theorem dX10_beside_5 : decode cX10_beside 5 = .ok (.aload_n 0, 1) := by decide +kernel
theorem dX10_beside_6 : decode cX10_beside 6 = .ok (.getfield 119, 3) := by decide +kernel
theorem dX10_beside_9 : decode cX10_beside 9 = .ok (.if_icmp .le 6, 3) := by decide +kernel
theorem dX10_beside_12 : decode cX10_beside 12 = .ok (.bipush (-2), 2) := by decide +kernel
theorem dX10_beside_14 : decode cX10_beside 14 = .ok (.ireturn, 1) := by decide +kernel
theorem dX10_beside_15 : decode cX10_beside 15 = .ok (.aload_n 0, 1) := by decide +kernel
theorem dX10_beside_16 : decode cX10_beside 16 = .ok (.aload_n 0, 1) := by decide +kernel
theorem dX10_beside_17 : decode cX10_beside 17 = .ok (.getfield 12, 3) := by decide +kernel
theorem dX10_beside_20 : decode cX10_beside 20 = .ok (.getfield 55, 3) := by decide +kernel
theorem dX10_beside_23 : decode cX10_beside 23 = .ok (.sipush 500, 3) := by decide +kernel
theorem dX10_beside_26 : decode cX10_beside 26 = .ok (.idiv, 1) := by decide +kernel
theorem dX10_beside_27 : decode cX10_beside 27 = .ok (.aload_n 0, 1) := by decide +kernel
theorem dX10_beside_28 : decode cX10_beside 28 = .ok (.getfield 12, 3) := by decide +kernel
theorem dX10_beside_31 : decode cX10_beside 31 = .ok (.getfield 55, 3) := by decide +kernel
theorem dX10_beside_34 : decode cX10_beside 34 = .ok (.invokevirtual 132, 3) := by decide +kernel
theorem dX10_beside_37 : decode cX10_beside 37 = .ok (.istore_n 2, 1) := by decide +kernel
theorem dX10_beside_38 : decode cX10_beside 38 = .ok (.aload_n 0, 1) := by decide +kernel
theorem dX10_beside_39 : decode cX10_beside 39 = .ok (.aload_n 0, 1) := by decide +kernel
theorem dX10_beside_40 : decode cX10_beside 40 = .ok (.getfield 35, 3) := by decide +kernel
theorem dX10_beside_43 : decode cX10_beside 43 = .ok (.aload_n 0, 1) := by decide +kernel
theorem dX10_beside_44 : decode cX10_beside 44 = .ok (.getfield 39, 3) := by decide +kernel
theorem dX10_beside_47 : decode cX10_beside 47 = .ok (.iload_n 1, 1) := by decide +kernel
theorem dX10_beside_48 : decode cX10_beside 48 = .ok (.aload_n 0, 1) := by decide +kernel
theorem dX10_beside_49 : decode cX10_beside 49 = .ok (.iload_n 2, 1) := by decide +kernel
theorem dX10_beside_50 : decode cX10_beside 50 = .ok (.invokevirtual 136, 3) := by decide +kernel
theorem dX10_beside_53 : decode cX10_beside 53 = .ok (.invokevirtual 140, 3) := by decide +kernel
theorem dX10_beside_56 : decode cX10_beside 56 = .ok (.putfield 150, 3) := by decide +kernel
theorem dX10_beside_59 : decode cX10_beside 59 = .ok (.aload_n 0, 1) := by decide +kernel
theorem dX10_beside_60 : decode cX10_beside 60 = .ok (.iconst 0, 1) := by decide +kernel
theorem dX10_beside_61 : decode cX10_beside 61 = .ok (.putfield 119, 3) := by decide +kernel
theorem dX10_beside_64 : decode cX10_beside 64 = .ok (.aload_n 0, 1) := by decide +kernel
theorem dX10_beside_65 : decode cX10_beside 65 = .ok (.getfield 150, 3) := by decide +kernel
theorem dX10_beside_68 : decode cX10_beside 68 = .ok (.ifnonnull 7, 3) := by decide +kernel
theorem dX10_beside_71 : decode cX10_beside 71 = .ok (.iconst (-1), 1) := by decide +kernel
theorem dX10_beside_72 : decode cX10_beside 72 = .ok (.goto 4, 3) := by decide +kernel
theorem dX10_beside_75 : decode cX10_beside 75 = .ok (.iconst 0, 1) := by decide +kernel
theorem dX10_beside_76 : decode cX10_beside 76 = .ok (.ireturn, 1) := by decide +kernel
theorem dX10_fault_0 : decode cX10_fault 0 = .ok (.aload_n 0, 1) := by decide +kernel
theorem dX10_fault_1 : decode cX10_fault 1 = .ok (.getfield 35, 3) := by decide +kernel
theorem dX10_fault_4 : decode cX10_fault 4 = .ok (.getfield 154, 3) := by decide +kernel
theorem dX10_fault_7 : decode cX10_fault 7 = .ok (.ireturn, 1) := by decide +kernel
theorem dX10_review_0 : decode cX10_review 0 = .ok (.iload_n 1, 1) := by decide +kernel
theorem dX10_review_1 : decode cX10_review 1 = .ok (.invokestatic 126, 3) := by decide +kernel
theorem dX10_review_4 : decode cX10_review 4 = .ok (.ifCond .eq 16, 3) := by decide +kernel
theorem dX10_review_7 : decode cX10_review 7 = .ok (.aload_n 0, 1) := by decide +kernel
theorem dX10_review_8 : decode cX10_review 8 = .ok (.iload_n 1, 1) := by decide +kernel
theorem dX10_review_9 : decode cX10_review 9 = .ok (.iload_n 1, 1) := by decide +kernel
theorem dX10_review_10 : decode cX10_review 10 = .ok (.sipush 500, 3) := by decide +kernel
theorem dX10_review_13 : decode cX10_review 13 = .ok (.imul, 1) := by decide +kernel
theorem dX10_review_14 : decode cX10_review 14 = .ok (.invokevirtual 132, 3) := by decide +kernel
theorem dX10_review_17 : decode cX10_review 17 = .ok (.goto 4, 3) := by decide +kernel
theorem dX10_review_20 : decode cX10_review 20 = .ok (.iconst (-1), 1) := by decide +kernel
theorem dX10_review_21 : decode cX10_review 21 = .ok (.istore_n 3, 1) := by decide +kernel
theorem dX10_review_22 : decode cX10_review 22 = .ok (.aload_n 0, 1) := by decide +kernel
theorem dX10_review_23 : decode cX10_review 23 = .ok (.iload_n 3, 1) := by decide +kernel
theorem dX10_review_24 : decode cX10_review 24 = .ok (.invokevirtual 136, 3) := by decide +kernel
theorem dX10_review_27 : decode cX10_review 27 = .ok (.astore 4, 2) := by decide +kernel
theorem dX10_review_29 : decode cX10_review 29 = .ok (.aload 4, 2) := by decide +kernel
theorem dX10_review_31 : decode cX10_review 31 = .ok (.ifnonnull 5, 3) := by decide +kernel
theorem dX10_review_34 : decode cX10_review 34 = .ok (.iconst (-1), 1) := by decide +kernel
theorem dX10_review_35 : decode cX10_review 35 = .ok (.ireturn, 1) := by decide +kernel
theorem dX10_review_36 : decode cX10_review 36 = .ok (.iload_n 2, 1) := by decide +kernel
theorem dX10_review_37 : decode cX10_review 37 = .ok (.tableswitch 56 0 3 #[31, 33, 39, 45], 31) := by decide +kernel
theorem dX10_review_68 : decode cX10_review 68 = .ok (.iload_n 3, 1) := by decide +kernel
theorem dX10_review_69 : decode cX10_review 69 = .ok (.ireturn, 1) := by decide +kernel
theorem dX10_review_70 : decode cX10_review 70 = .ok (.aload 4, 2) := by decide +kernel
theorem dX10_review_72 : decode cX10_review 72 = .ok (.getfield 157, 3) := by decide +kernel
theorem dX10_review_75 : decode cX10_review 75 = .ok (.ireturn, 1) := by decide +kernel
theorem dX10_review_76 : decode cX10_review 76 = .ok (.aload 4, 2) := by decide +kernel
theorem dX10_review_78 : decode cX10_review 78 = .ok (.invokevirtual 160, 3) := by decide +kernel
theorem dX10_review_81 : decode cX10_review 81 = .ok (.ireturn, 1) := by decide +kernel
theorem dX10_review_82 : decode cX10_review 82 = .ok (.aload 4, 2) := by decide +kernel
theorem dX10_review_84 : decode cX10_review 84 = .ok (.aload 4, 2) := by decide +kernel
theorem dX10_review_86 : decode cX10_review 86 = .ok (.invokevirtual 160, 3) := by decide +kernel
theorem dX10_review_89 : decode cX10_review 89 = .ok (.invokevirtual 164, 3) := by decide +kernel
theorem dX10_review_92 : decode cX10_review 92 = .ok (.ireturn, 1) := by decide +kernel
theorem dX10_review_93 : decode cX10_review 93 = .ok (.iconst (-1), 1) := by decide +kernel
theorem dX10_review_94 : decode cX10_review 94 = .ok (.ireturn, 1) := by decide +kernel
theorem dX10_holds_0 : decode cX10_holds 0 = .ok (.aload_n 0, 1) := by decide +kernel
theorem dX10_holds_1 : decode cX10_holds 1 = .ok (.iload_n 1, 1) := by decide +kernel
theorem dX10_holds_2 : decode cX10_holds 2 = .ok (.iload_n 2, 1) := by decide +kernel
theorem dX10_holds_3 : decode cX10_holds 3 = .ok (.invokevirtual 68, 3) := by decide +kernel
theorem dX10_holds_6 : decode cX10_holds 6 = .ok (.ifCond .eq 22, 3) := by decide +kernel
theorem dX10_holds_9 : decode cX10_holds 9 = .ok (.iload_n 3, 1) := by decide +kernel
theorem dX10_holds_10 : decode cX10_holds 10 = .ok (.iconst 0, 1) := by decide +kernel
theorem dX10_holds_11 : decode cX10_holds 11 = .ok (.bipush 8, 2) := by decide +kernel
theorem dX10_holds_13 : decode cX10_holds 13 = .ok (.invokestatic 60, 3) := by decide +kernel
theorem dX10_holds_16 : decode cX10_holds 16 = .ok (.ifCond .eq 12, 3) := by decide +kernel
theorem dX10_holds_19 : decode cX10_holds 19 = .ok (.iload_n 3, 1) := by decide +kernel
theorem dX10_holds_20 : decode cX10_holds 20 = .ok (.iload 4, 2) := by decide +kernel
theorem dX10_holds_22 : decode cX10_holds 22 = .ok (.invokestatic 167, 3) := by decide +kernel
theorem dX10_holds_25 : decode cX10_holds 25 = .ok (.ifCond .ne 5, 3) := by decide +kernel
theorem dX10_holds_28 : decode cX10_holds 28 = .ok (.iconst (-1), 1) := by decide +kernel
theorem dX10_holds_29 : decode cX10_holds 29 = .ok (.ireturn, 1) := by decide +kernel
theorem dX10_holds_30 : decode cX10_holds 30 = .ok (.aload_n 0, 1) := by decide +kernel
theorem dX10_holds_31 : decode cX10_holds 31 = .ok (.iload_n 1, 1) := by decide +kernel
theorem dX10_holds_32 : decode cX10_holds 32 = .ok (.iload_n 2, 1) := by decide +kernel
theorem dX10_holds_33 : decode cX10_holds 33 = .ok (.aload_n 0, 1) := by decide +kernel
theorem dX10_holds_34 : decode cX10_holds 34 = .ok (.getfield 12, 3) := by decide +kernel
theorem dX10_holds_37 : decode cX10_holds 37 = .ok (.getfield 55, 3) := by decide +kernel
theorem dX10_holds_40 : decode cX10_holds 40 = .ok (.invokevirtual 170, 3) := by decide +kernel
theorem dX10_holds_43 : decode cX10_holds 43 = .ok (.aload_n 0, 1) := by decide +kernel
theorem dX10_holds_44 : decode cX10_holds 44 = .ok (.getfield 21, 3) := by decide +kernel
theorem dX10_holds_47 : decode cX10_holds 47 = .ok (.iload_n 2, 1) := by decide +kernel
theorem dX10_holds_48 : decode cX10_holds 48 = .ok (.iload_n 3, 1) := by decide +kernel
theorem dX10_holds_49 : decode cX10_holds 49 = .ok (.iload 4, 2) := by decide +kernel
theorem dX10_holds_51 : decode cX10_holds 51 = .ok (.invokestatic 174, 3) := by decide +kernel
theorem dX10_holds_54 : decode cX10_holds 54 = .ok (.invokevirtual 179, 3) := by decide +kernel
theorem dX10_holds_57 : decode cX10_holds 57 = .ok (.ireturn, 1) := by decide +kernel
theorem dX10_allowed_0 : decode cX10_allowed 0 = .ok (.aload_n 0, 1) := by decide +kernel
theorem dX10_allowed_1 : decode cX10_allowed 1 = .ok (.iload_n 1, 1) := by decide +kernel
theorem dX10_allowed_2 : decode cX10_allowed 2 = .ok (.iload_n 3, 1) := by decide +kernel
theorem dX10_allowed_3 : decode cX10_allowed 3 = .ok (.invokevirtual 68, 3) := by decide +kernel
theorem dX10_allowed_6 : decode cX10_allowed 6 = .ok (.ifCond .eq 18, 3) := by decide +kernel
theorem dX10_allowed_9 : decode cX10_allowed 9 = .ok (.iload_n 2, 1) := by decide +kernel
theorem dX10_allowed_10 : decode cX10_allowed 10 = .ok (.invokestatic 106, 3) := by decide +kernel
theorem dX10_allowed_13 : decode cX10_allowed 13 = .ok (.ifCond .eq 11, 3) := by decide +kernel
theorem dX10_allowed_16 : decode cX10_allowed 16 = .ok (.iload 4, 2) := by decide +kernel
theorem dX10_allowed_18 : decode cX10_allowed 18 = .ok (.invokestatic 85, 3) := by decide +kernel
theorem dX10_allowed_21 : decode cX10_allowed 21 = .ok (.ifCond .ne 6, 3) := by decide +kernel
theorem dX10_allowed_24 : decode cX10_allowed 24 = .ok (.ldc 182, 2) := by decide +kernel
theorem dX10_allowed_26 : decode cX10_allowed 26 = .ok (.ireturn, 1) := by decide +kernel
theorem dX10_allowed_27 : decode cX10_allowed 27 = .ok (.aload_n 0, 1) := by decide +kernel
theorem dX10_allowed_28 : decode cX10_allowed 28 = .ok (.iload_n 1, 1) := by decide +kernel
theorem dX10_allowed_29 : decode cX10_allowed 29 = .ok (.iload_n 3, 1) := by decide +kernel
theorem dX10_allowed_30 : decode cX10_allowed 30 = .ok (.iload 4, 2) := by decide +kernel
theorem dX10_allowed_32 : decode cX10_allowed 32 = .ok (.invokevirtual 170, 3) := by decide +kernel
theorem dX10_allowed_35 : decode cX10_allowed 35 = .ok (.aload_n 0, 1) := by decide +kernel
theorem dX10_allowed_36 : decode cX10_allowed 36 = .ok (.getfield 21, 3) := by decide +kernel
theorem dX10_allowed_39 : decode cX10_allowed 39 = .ok (.iload_n 3, 1) := by decide +kernel
theorem dX10_allowed_40 : decode cX10_allowed 40 = .ok (.iload_n 2, 1) := by decide +kernel
theorem dX10_allowed_41 : decode cX10_allowed 41 = .ok (.invokevirtual 183, 3) := by decide +kernel
theorem dX10_allowed_44 : decode cX10_allowed 44 = .ok (.l2i, 1) := by decide +kernel
theorem dX10_allowed_45 : decode cX10_allowed 45 = .ok (.ireturn, 1) := by decide +kernel
theorem dX10_points_0 : decode cX10_points 0 = .ok (.aload_n 0, 1) := by decide +kernel
theorem dX10_points_1 : decode cX10_points 1 = .ok (.iload_n 1, 1) := by decide +kernel
theorem dX10_points_2 : decode cX10_points 2 = .ok (.invokevirtual 187, 3) := by decide +kernel
theorem dX10_points_5 : decode cX10_points 5 = .ok (.ifCond .eq 25, 3) := by decide +kernel
theorem dX10_points_8 : decode cX10_points 8 = .ok (.iload_n 2, 1) := by decide +kernel
theorem dX10_points_9 : decode cX10_points 9 = .ok (.invokestatic 106, 3) := by decide +kernel
theorem dX10_points_12 : decode cX10_points 12 = .ok (.ifCond .eq 18, 3) := by decide +kernel
theorem dX10_points_15 : decode cX10_points 15 = .ok (.iload_n 3, 1) := by decide +kernel
theorem dX10_points_16 : decode cX10_points 16 = .ok (.invokestatic 126, 3) := by decide +kernel
theorem dX10_points_19 : decode cX10_points 19 = .ok (.ifCond .eq 11, 3) := by decide +kernel
theorem dX10_points_22 : decode cX10_points 22 = .ok (.iload 4, 2) := by decide +kernel
theorem dX10_points_24 : decode cX10_points 24 = .ok (.invokestatic 190, 3) := by decide +kernel
theorem dX10_points_27 : decode cX10_points 27 = .ok (.ifCond .ne 5, 3) := by decide +kernel
theorem dX10_points_30 : decode cX10_points 30 = .ok (.iconst (-1), 1) := by decide +kernel
theorem dX10_points_31 : decode cX10_points 31 = .ok (.ireturn, 1) := by decide +kernel
theorem dX10_points_32 : decode cX10_points 32 = .ok (.aload_n 0, 1) := by decide +kernel
theorem dX10_points_33 : decode cX10_points 33 = .ok (.getfield 28, 3) := by decide +kernel
theorem dX10_points_36 : decode cX10_points 36 = .ok (.iload_n 1, 1) := by decide +kernel
theorem dX10_points_37 : decode cX10_points 37 = .ok (.iload_n 2, 1) := by decide +kernel
theorem dX10_points_38 : decode cX10_points 38 = .ok (.iload_n 3, 1) := by decide +kernel
theorem dX10_points_39 : decode cX10_points 39 = .ok (.iload 4, 2) := by decide +kernel
theorem dX10_points_41 : decode cX10_points 41 = .ok (.invokevirtual 193, 3) := by decide +kernel
theorem dX10_points_44 : decode cX10_points 44 = .ok (.iload 5, 2) := by decide +kernel
theorem dX10_points_46 : decode cX10_points 46 = .ok (.tableswitch 52 0 2 #[26, 34, 43], 26) := by decide +kernel
theorem dX10_points_72 : decode cX10_points 72 = .ok (.aload_n 0, 1) := by decide +kernel
theorem dX10_points_73 : decode cX10_points 73 = .ok (.getfield 28, 3) := by decide +kernel
theorem dX10_points_76 : decode cX10_points 76 = .ok (.getfield 197, 3) := by decide +kernel
theorem dX10_points_79 : decode cX10_points 79 = .ok (.ireturn, 1) := by decide +kernel
theorem dX10_points_80 : decode cX10_points 80 = .ok (.aload_n 0, 1) := by decide +kernel
theorem dX10_points_81 : decode cX10_points 81 = .ok (.getfield 28, 3) := by decide +kernel
theorem dX10_points_84 : decode cX10_points 84 = .ok (.getfield 198, 3) := by decide +kernel
theorem dX10_points_87 : decode cX10_points 87 = .ok (.l2i, 1) := by decide +kernel
theorem dX10_points_88 : decode cX10_points 88 = .ok (.ireturn, 1) := by decide +kernel
theorem dX10_points_89 : decode cX10_points 89 = .ok (.aload_n 0, 1) := by decide +kernel
theorem dX10_points_90 : decode cX10_points 90 = .ok (.getfield 28, 3) := by decide +kernel
theorem dX10_points_93 : decode cX10_points 93 = .ok (.getfield 202, 3) := by decide +kernel
theorem dX10_points_96 : decode cX10_points 96 = .ok (.l2i, 1) := by decide +kernel
theorem dX10_points_97 : decode cX10_points 97 = .ok (.ireturn, 1) := by decide +kernel
theorem dX10_points_98 : decode cX10_points 98 = .ok (.iconst (-1), 1) := by decide +kernel
theorem dX10_points_99 : decode cX10_points 99 = .ok (.ireturn, 1) := by decide +kernel
theorem dX10_worth_0 : decode cX10_worth 0 = .ok (.aload_n 0, 1) := by decide +kernel
theorem dX10_worth_1 : decode cX10_worth 1 = .ok (.iload_n 1, 1) := by decide +kernel
theorem dX10_worth_2 : decode cX10_worth 2 = .ok (.iload_n 2, 1) := by decide +kernel
theorem dX10_worth_3 : decode cX10_worth 3 = .ok (.invokevirtual 68, 3) := by decide +kernel
theorem dX10_worth_6 : decode cX10_worth 6 = .ok (.ifCond .ne 7, 3) := by decide +kernel
theorem dX10_worth_9 : decode cX10_worth 9 = .ok (.ldc2_w 205, 3) := by decide +kernel
theorem dX10_worth_12 : decode cX10_worth 12 = .ok (.lreturn, 1) := by decide +kernel
theorem dX10_worth_13 : decode cX10_worth 13 = .ok (.aload_n 0, 1) := by decide +kernel
theorem dX10_worth_14 : decode cX10_worth 14 = .ok (.iload_n 1, 1) := by decide +kernel
theorem dX10_worth_15 : decode cX10_worth 15 = .ok (.iload_n 2, 1) := by decide +kernel
theorem dX10_worth_16 : decode cX10_worth 16 = .ok (.aload_n 0, 1) := by decide +kernel
theorem dX10_worth_17 : decode cX10_worth 17 = .ok (.getfield 12, 3) := by decide +kernel
theorem dX10_worth_20 : decode cX10_worth 20 = .ok (.getfield 55, 3) := by decide +kernel
theorem dX10_worth_23 : decode cX10_worth 23 = .ok (.invokevirtual 170, 3) := by decide +kernel
theorem dX10_worth_26 : decode cX10_worth 26 = .ok (.aload_n 0, 1) := by decide +kernel
theorem dX10_worth_27 : decode cX10_worth 27 = .ok (.getfield 21, 3) := by decide +kernel
theorem dX10_worth_30 : decode cX10_worth 30 = .ok (.iload_n 2, 1) := by decide +kernel
theorem dX10_worth_31 : decode cX10_worth 31 = .ok (.invokevirtual 207, 3) := by decide +kernel
theorem dX10_worth_34 : decode cX10_worth 34 = .ok (.lreturn, 1) := by decide +kernel
theorem dX10_line_0 : decode cX10_line 0 = .ok (.aload_n 0, 1) := by decide +kernel
theorem dX10_line_1 : decode cX10_line 1 = .ok (.iload_n 1, 1) := by decide +kernel
theorem dX10_line_2 : decode cX10_line 2 = .ok (.iload_n 2, 1) := by decide +kernel
theorem dX10_line_3 : decode cX10_line 3 = .ok (.invokevirtual 68, 3) := by decide +kernel
theorem dX10_line_6 : decode cX10_line 6 = .ok (.ifCond .eq 21, 3) := by decide +kernel
theorem dX10_line_9 : decode cX10_line 9 = .ok (.iload_n 3, 1) := by decide +kernel
theorem dX10_line_10 : decode cX10_line 10 = .ok (.invokestatic 85, 3) := by decide +kernel
theorem dX10_line_13 : decode cX10_line 13 = .ok (.ifCond .eq 14, 3) := by decide +kernel
theorem dX10_line_16 : decode cX10_line 16 = .ok (.iload 4, 2) := by decide +kernel
theorem dX10_line_18 : decode cX10_line 18 = .ok (.iconst 0, 1) := by decide +kernel
theorem dX10_line_19 : decode cX10_line 19 = .ok (.bipush 14, 2) := by decide +kernel
theorem dX10_line_21 : decode cX10_line 21 = .ok (.invokestatic 60, 3) := by decide +kernel
theorem dX10_line_24 : decode cX10_line 24 = .ok (.ifCond .ne 7, 3) := by decide +kernel
theorem dX10_line_27 : decode cX10_line 27 = .ok (.ldc2_w 205, 3) := by decide +kernel
theorem dX10_line_30 : decode cX10_line 30 = .ok (.lreturn, 1) := by decide +kernel
theorem dX10_line_31 : decode cX10_line 31 = .ok (.aload_n 0, 1) := by decide +kernel
theorem dX10_line_32 : decode cX10_line 32 = .ok (.iload_n 1, 1) := by decide +kernel
theorem dX10_line_33 : decode cX10_line 33 = .ok (.iload_n 2, 1) := by decide +kernel
theorem dX10_line_34 : decode cX10_line 34 = .ok (.iload_n 3, 1) := by decide +kernel
theorem dX10_line_35 : decode cX10_line 35 = .ok (.invokevirtual 170, 3) := by decide +kernel
theorem dX10_line_38 : decode cX10_line 38 = .ok (.aload_n 0, 1) := by decide +kernel
theorem dX10_line_39 : decode cX10_line 39 = .ok (.getfield 21, 3) := by decide +kernel
theorem dX10_line_42 : decode cX10_line 42 = .ok (.iload_n 2, 1) := by decide +kernel
theorem dX10_line_43 : decode cX10_line 43 = .ok (.iload_n 2, 1) := by decide +kernel
theorem dX10_line_44 : decode cX10_line 44 = .ok (.invokevirtual 211, 3) := by decide +kernel
theorem dX10_line_47 : decode cX10_line 47 = .ok (.aload_n 0, 1) := by decide +kernel
theorem dX10_line_48 : decode cX10_line 48 = .ok (.getfield 21, 3) := by decide +kernel
theorem dX10_line_51 : decode cX10_line 51 = .ok (.iload_n 2, 1) := by decide +kernel
theorem dX10_line_52 : decode cX10_line 52 = .ok (.iload 4, 2) := by decide +kernel
theorem dX10_line_54 : decode cX10_line 54 = .ok (.invokevirtual 215, 3) := by decide +kernel
theorem dX10_line_57 : decode cX10_line 57 = .ok (.lreturn, 1) := by decide +kernel
theorem dX10_revenue_0 : decode cX10_revenue 0 = .ok (.aload_n 0, 1) := by decide +kernel
theorem dX10_revenue_1 : decode cX10_revenue 1 = .ok (.iload_n 1, 1) := by decide +kernel
theorem dX10_revenue_2 : decode cX10_revenue 2 = .ok (.iload_n 2, 1) := by decide +kernel
theorem dX10_revenue_3 : decode cX10_revenue 3 = .ok (.invokevirtual 68, 3) := by decide +kernel
theorem dX10_revenue_6 : decode cX10_revenue 6 = .ok (.ifCond .eq 10, 3) := by decide +kernel
theorem dX10_revenue_9 : decode cX10_revenue 9 = .ok (.iload_n 3, 1) := by decide +kernel
theorem dX10_revenue_10 : decode cX10_revenue 10 = .ok (.invokestatic 85, 3) := by decide +kernel
theorem dX10_revenue_13 : decode cX10_revenue 13 = .ok (.ifCond .ne 7, 3) := by decide +kernel
theorem dX10_revenue_16 : decode cX10_revenue 16 = .ok (.ldc2_w 205, 3) := by decide +kernel
theorem dX10_revenue_19 : decode cX10_revenue 19 = .ok (.lreturn, 1) := by decide +kernel
theorem dX10_revenue_20 : decode cX10_revenue 20 = .ok (.aload_n 0, 1) := by decide +kernel
theorem dX10_revenue_21 : decode cX10_revenue 21 = .ok (.iload_n 1, 1) := by decide +kernel
theorem dX10_revenue_22 : decode cX10_revenue 22 = .ok (.iload_n 2, 1) := by decide +kernel
theorem dX10_revenue_23 : decode cX10_revenue 23 = .ok (.iload_n 3, 1) := by decide +kernel
theorem dX10_revenue_24 : decode cX10_revenue 24 = .ok (.invokevirtual 170, 3) := by decide +kernel
theorem dX10_revenue_27 : decode cX10_revenue 27 = .ok (.aload_n 0, 1) := by decide +kernel
theorem dX10_revenue_28 : decode cX10_revenue 28 = .ok (.getfield 21, 3) := by decide +kernel
theorem dX10_revenue_31 : decode cX10_revenue 31 = .ok (.iload_n 2, 1) := by decide +kernel
theorem dX10_revenue_32 : decode cX10_revenue 32 = .ok (.iload_n 2, 1) := by decide +kernel
theorem dX10_revenue_33 : decode cX10_revenue 33 = .ok (.invokevirtual 211, 3) := by decide +kernel
theorem dX10_revenue_36 : decode cX10_revenue 36 = .ok (.aload_n 0, 1) := by decide +kernel
theorem dX10_revenue_37 : decode cX10_revenue 37 = .ok (.getfield 21, 3) := by decide +kernel
theorem dX10_revenue_40 : decode cX10_revenue 40 = .ok (.iload_n 2, 1) := by decide +kernel
theorem dX10_revenue_41 : decode cX10_revenue 41 = .ok (.invokevirtual 218, 3) := by decide +kernel
theorem dX10_revenue_44 : decode cX10_revenue 44 = .ok (.lreturn, 1) := by decide +kernel
theorem dX10_bills_0 : decode cX10_bills 0 = .ok (.aload_n 0, 1) := by decide +kernel
theorem dX10_bills_1 : decode cX10_bills 1 = .ok (.iload_n 1, 1) := by decide +kernel
theorem dX10_bills_2 : decode cX10_bills 2 = .ok (.iload_n 2, 1) := by decide +kernel
theorem dX10_bills_3 : decode cX10_bills 3 = .ok (.invokevirtual 68, 3) := by decide +kernel
theorem dX10_bills_6 : decode cX10_bills 6 = .ok (.ifCond .eq 20, 3) := by decide +kernel
theorem dX10_bills_9 : decode cX10_bills 9 = .ok (.iload_n 3, 1) := by decide +kernel
theorem dX10_bills_10 : decode cX10_bills 10 = .ok (.invokestatic 85, 3) := by decide +kernel
theorem dX10_bills_13 : decode cX10_bills 13 = .ok (.ifCond .eq 13, 3) := by decide +kernel
theorem dX10_bills_16 : decode cX10_bills 16 = .ok (.iload 4, 2) := by decide +kernel
theorem dX10_bills_18 : decode cX10_bills 18 = .ok (.iconst 0, 1) := by decide +kernel
theorem dX10_bills_19 : decode cX10_bills 19 = .ok (.iconst 1, 1) := by decide +kernel
theorem dX10_bills_20 : decode cX10_bills 20 = .ok (.invokestatic 60, 3) := by decide +kernel
theorem dX10_bills_23 : decode cX10_bills 23 = .ok (.ifCond .ne 7, 3) := by decide +kernel
theorem dX10_bills_26 : decode cX10_bills 26 = .ok (.ldc2_w 205, 3) := by decide +kernel
theorem dX10_bills_29 : decode cX10_bills 29 = .ok (.lreturn, 1) := by decide +kernel
theorem dX10_bills_30 : decode cX10_bills 30 = .ok (.aload_n 0, 1) := by decide +kernel
theorem dX10_bills_31 : decode cX10_bills 31 = .ok (.iload_n 1, 1) := by decide +kernel
theorem dX10_bills_32 : decode cX10_bills 32 = .ok (.iload_n 2, 1) := by decide +kernel
theorem dX10_bills_33 : decode cX10_bills 33 = .ok (.iload_n 3, 1) := by decide +kernel
theorem dX10_bills_34 : decode cX10_bills 34 = .ok (.invokevirtual 170, 3) := by decide +kernel
theorem dX10_bills_37 : decode cX10_bills 37 = .ok (.aload_n 0, 1) := by decide +kernel
theorem dX10_bills_38 : decode cX10_bills 38 = .ok (.getfield 21, 3) := by decide +kernel
theorem dX10_bills_41 : decode cX10_bills 41 = .ok (.iload_n 2, 1) := by decide +kernel
theorem dX10_bills_42 : decode cX10_bills 42 = .ok (.invokevirtual 221, 3) := by decide +kernel
theorem dX10_bills_45 : decode cX10_bills 45 = .ok (.iload 4, 2) := by decide +kernel
theorem dX10_bills_47 : decode cX10_bills 47 = .ok (.ifCond .ne 14, 3) := by decide +kernel
theorem dX10_bills_50 : decode cX10_bills 50 = .ok (.aload_n 0, 1) := by decide +kernel
theorem dX10_bills_51 : decode cX10_bills 51 = .ok (.getfield 21, 3) := by decide +kernel
theorem dX10_bills_54 : decode cX10_bills 54 = .ok (.iload_n 2, 1) := by decide +kernel
theorem dX10_bills_55 : decode cX10_bills 55 = .ok (.invokevirtual 224, 3) := by decide +kernel
theorem dX10_bills_58 : decode cX10_bills 58 = .ok (.goto 11, 3) := by decide +kernel
theorem dX10_bills_61 : decode cX10_bills 61 = .ok (.aload_n 0, 1) := by decide +kernel
theorem dX10_bills_62 : decode cX10_bills 62 = .ok (.getfield 21, 3) := by decide +kernel
theorem dX10_bills_65 : decode cX10_bills 65 = .ok (.iload_n 2, 1) := by decide +kernel
theorem dX10_bills_66 : decode cX10_bills 66 = .ok (.invokevirtual 227, 3) := by decide +kernel
theorem dX10_bills_69 : decode cX10_bills 69 = .ok (.lreturn, 1) := by decide +kernel
theorem dX10_home_0 : decode cX10_home 0 = .ok (.aload_n 0, 1) := by decide +kernel
theorem dX10_home_1 : decode cX10_home 1 = .ok (.iload_n 1, 1) := by decide +kernel
theorem dX10_home_2 : decode cX10_home 2 = .ok (.iload_n 2, 1) := by decide +kernel
theorem dX10_home_3 : decode cX10_home 3 = .ok (.invokevirtual 68, 3) := by decide +kernel
theorem dX10_home_6 : decode cX10_home 6 = .ok (.ifCond .eq 20, 3) := by decide +kernel
theorem dX10_home_9 : decode cX10_home 9 = .ok (.iload_n 3, 1) := by decide +kernel
theorem dX10_home_10 : decode cX10_home 10 = .ok (.invokestatic 85, 3) := by decide +kernel
theorem dX10_home_13 : decode cX10_home 13 = .ok (.ifCond .eq 13, 3) := by decide +kernel
theorem dX10_home_16 : decode cX10_home 16 = .ok (.iload 4, 2) := by decide +kernel
theorem dX10_home_18 : decode cX10_home 18 = .ok (.iconst 0, 1) := by decide +kernel
theorem dX10_home_19 : decode cX10_home 19 = .ok (.iconst 3, 1) := by decide +kernel
theorem dX10_home_20 : decode cX10_home 20 = .ok (.invokestatic 60, 3) := by decide +kernel
theorem dX10_home_23 : decode cX10_home 23 = .ok (.ifCond .ne 7, 3) := by decide +kernel
theorem dX10_home_26 : decode cX10_home 26 = .ok (.ldc2_w 205, 3) := by decide +kernel
theorem dX10_home_29 : decode cX10_home 29 = .ok (.lreturn, 1) := by decide +kernel
theorem dX10_home_30 : decode cX10_home 30 = .ok (.aload_n 0, 1) := by decide +kernel
theorem dX10_home_31 : decode cX10_home 31 = .ok (.iload_n 1, 1) := by decide +kernel
theorem dX10_home_32 : decode cX10_home 32 = .ok (.iload_n 2, 1) := by decide +kernel
theorem dX10_home_33 : decode cX10_home 33 = .ok (.iload_n 3, 1) := by decide +kernel
theorem dX10_home_34 : decode cX10_home 34 = .ok (.invokevirtual 170, 3) := by decide +kernel
theorem dX10_home_37 : decode cX10_home 37 = .ok (.aload_n 0, 1) := by decide +kernel
theorem dX10_home_38 : decode cX10_home 38 = .ok (.getfield 21, 3) := by decide +kernel
theorem dX10_home_41 : decode cX10_home 41 = .ok (.iload_n 2, 1) := by decide +kernel
theorem dX10_home_42 : decode cX10_home 42 = .ok (.invokevirtual 221, 3) := by decide +kernel
theorem dX10_home_45 : decode cX10_home 45 = .ok (.aload_n 0, 1) := by decide +kernel
theorem dX10_home_46 : decode cX10_home 46 = .ok (.getfield 21, 3) := by decide +kernel
theorem dX10_home_49 : decode cX10_home 49 = .ok (.iload_n 2, 1) := by decide +kernel
theorem dX10_home_50 : decode cX10_home 50 = .ok (.invokevirtual 224, 3) := by decide +kernel
theorem dX10_home_53 : decode cX10_home 53 = .ok (.lstore 5, 2) := by decide +kernel
theorem dX10_home_55 : decode cX10_home 55 = .ok (.iload 4, 2) := by decide +kernel
theorem dX10_home_57 : decode cX10_home 57 = .ok (.iconst 3, 1) := by decide +kernel
theorem dX10_home_58 : decode cX10_home 58 = .ok (.if_icmp .ge 18, 3) := by decide +kernel
theorem dX10_home_61 : decode cX10_home 61 = .ok (.aload_n 0, 1) := by decide +kernel
theorem dX10_home_62 : decode cX10_home 62 = .ok (.getfield 12, 3) := by decide +kernel
theorem dX10_home_65 : decode cX10_home 65 = .ok (.lload 5, 2) := by decide +kernel
theorem dX10_home_67 : decode cX10_home 67 = .ok (.iload 4, 2) := by decide +kernel
theorem dX10_home_69 : decode cX10_home 69 = .ok (.iload_n 1, 1) := by decide +kernel
theorem dX10_home_70 : decode cX10_home 70 = .ok (.iload_n 2, 1) := by decide +kernel
theorem dX10_home_71 : decode cX10_home 71 = .ok (.iload_n 3, 1) := by decide +kernel
theorem dX10_home_72 : decode cX10_home 72 = .ok (.invokevirtual 230, 3) := by decide +kernel
theorem dX10_home_75 : decode cX10_home 75 = .ok (.lreturn, 1) := by decide +kernel
theorem dX10_home_76 : decode cX10_home 76 = .ok (.lload 5, 2) := by decide +kernel
theorem dX10_home_78 : decode cX10_home 78 = .ok (.lstore 7, 2) := by decide +kernel
theorem dX10_home_80 : decode cX10_home 80 = .ok (.iconst 0, 1) := by decide +kernel
theorem dX10_home_81 : decode cX10_home 81 = .ok (.istore 9, 2) := by decide +kernel
theorem dX10_home_83 : decode cX10_home 83 = .ok (.iload 9, 2) := by decide +kernel
theorem dX10_home_85 : decode cX10_home 85 = .ok (.iconst 3, 1) := by decide +kernel
theorem dX10_home_86 : decode cX10_home 86 = .ok (.if_icmp .ge 46, 3) := by decide +kernel
theorem dX10_home_89 : decode cX10_home 89 = .ok (.aload_n 0, 1) := by decide +kernel
theorem dX10_home_90 : decode cX10_home 90 = .ok (.getfield 12, 3) := by decide +kernel
theorem dX10_home_93 : decode cX10_home 93 = .ok (.lload 5, 2) := by decide +kernel
theorem dX10_home_95 : decode cX10_home 95 = .ok (.iload 9, 2) := by decide +kernel
theorem dX10_home_97 : decode cX10_home 97 = .ok (.iload_n 1, 1) := by decide +kernel
theorem dX10_home_98 : decode cX10_home 98 = .ok (.iload_n 2, 1) := by decide +kernel
theorem dX10_home_99 : decode cX10_home 99 = .ok (.iload_n 3, 1) := by decide +kernel
theorem dX10_home_100 : decode cX10_home 100 = .ok (.invokevirtual 230, 3) := by decide +kernel
theorem dX10_home_103 : decode cX10_home 103 = .ok (.lstore 10, 2) := by decide +kernel
theorem dX10_home_105 : decode cX10_home 105 = .ok (.lload 7, 2) := by decide +kernel
theorem dX10_home_107 : decode cX10_home 107 = .ok (.lload 10, 2) := by decide +kernel
theorem dX10_home_109 : decode cX10_home 109 = .ok (.aload_n 0, 1) := by decide +kernel
theorem dX10_home_110 : decode cX10_home 110 = .ok (.getfield 12, 3) := by decide +kernel
theorem dX10_home_113 : decode cX10_home 113 = .ok (.iload 9, 2) := by decide +kernel
theorem dX10_home_115 : decode cX10_home 115 = .ok (.iload_n 1, 1) := by decide +kernel
theorem dX10_home_116 : decode cX10_home 116 = .ok (.iload_n 2, 1) := by decide +kernel
theorem dX10_home_117 : decode cX10_home 117 = .ok (.iload_n 3, 1) := by decide +kernel
theorem dX10_home_118 : decode cX10_home 118 = .ok (.invokevirtual 234, 3) := by decide +kernel
theorem dX10_home_121 : decode cX10_home 121 = .ok (.i2l, 1) := by decide +kernel
theorem dX10_home_122 : decode cX10_home 122 = .ok (.lmul, 1) := by decide +kernel
theorem dX10_home_123 : decode cX10_home 123 = .ok (.lsub, 1) := by decide +kernel
theorem dX10_home_124 : decode cX10_home 124 = .ok (.lstore 7, 2) := by decide +kernel
theorem dX10_home_126 : decode cX10_home 126 = .ok (.iinc 9 1, 3) := by decide +kernel
theorem dX10_home_129 : decode cX10_home 129 = .ok (.goto (-46), 3) := by decide +kernel
theorem dX10_home_132 : decode cX10_home 132 = .ok (.lload 7, 2) := by decide +kernel
theorem dX10_home_134 : decode cX10_home 134 = .ok (.lreturn, 1) := by decide +kernel
theorem dX10_tried_0 : decode cX10_tried 0 = .ok (.aload_n 0, 1) := by decide +kernel
theorem dX10_tried_1 : decode cX10_tried 1 = .ok (.iload_n 1, 1) := by decide +kernel
theorem dX10_tried_2 : decode cX10_tried 2 = .ok (.iload_n 2, 1) := by decide +kernel
theorem dX10_tried_3 : decode cX10_tried 3 = .ok (.invokevirtual 68, 3) := by decide +kernel
theorem dX10_tried_6 : decode cX10_tried 6 = .ok (.ifCond .eq 10, 3) := by decide +kernel
theorem dX10_tried_9 : decode cX10_tried 9 = .ok (.aload_n 0, 1) := by decide +kernel
theorem dX10_tried_10 : decode cX10_tried 10 = .ok (.getfield 150, 3) := by decide +kernel
theorem dX10_tried_13 : decode cX10_tried 13 = .ok (.ifnonnull 7, 3) := by decide +kernel
theorem dX10_tried_16 : decode cX10_tried 16 = .ok (.ldc2_w 205, 3) := by decide +kernel
theorem dX10_tried_19 : decode cX10_tried 19 = .ok (.lreturn, 1) := by decide +kernel
theorem dX10_tried_20 : decode cX10_tried 20 = .ok (.aload_n 0, 1) := by decide +kernel
theorem dX10_tried_21 : decode cX10_tried 21 = .ok (.invokevirtual 237, 3) := by decide +kernel
theorem dX10_tried_24 : decode cX10_tried 24 = .ok (.aload_n 0, 1) := by decide +kernel
theorem dX10_tried_25 : decode cX10_tried 25 = .ok (.getfield 21, 3) := by decide +kernel
theorem dX10_tried_28 : decode cX10_tried 28 = .ok (.iload_n 2, 1) := by decide +kernel
theorem dX10_tried_29 : decode cX10_tried 29 = .ok (.iconst 5, 1) := by decide +kernel
theorem dX10_tried_30 : decode cX10_tried 30 = .ok (.idiv, 1) := by decide +kernel
theorem dX10_tried_31 : decode cX10_tried 31 = .ok (.aload_n 0, 1) := by decide +kernel
theorem dX10_tried_32 : decode cX10_tried 32 = .ok (.getfield 150, 3) := by decide +kernel
theorem dX10_tried_35 : decode cX10_tried 35 = .ok (.invokevirtual 240, 3) := by decide +kernel
theorem dX10_tried_38 : decode cX10_tried 38 = .ok (.aload_n 0, 1) := by decide +kernel
theorem dX10_tried_39 : decode cX10_tried 39 = .ok (.getfield 21, 3) := by decide +kernel
theorem dX10_tried_42 : decode cX10_tried 42 = .ok (.iload_n 1, 1) := by decide +kernel
theorem dX10_tried_43 : decode cX10_tried 43 = .ok (.iload_n 2, 1) := by decide +kernel
theorem dX10_tried_44 : decode cX10_tried 44 = .ok (.aload_n 0, 1) := by decide +kernel
theorem dX10_tried_45 : decode cX10_tried 45 = .ok (.getfield 12, 3) := by decide +kernel
theorem dX10_tried_48 : decode cX10_tried 48 = .ok (.getfield 55, 3) := by decide +kernel
theorem dX10_tried_51 : decode cX10_tried 51 = .ok (.invokevirtual 244, 3) := by decide +kernel
theorem dX10_tried_54 : decode cX10_tried 54 = .ok (.aload_n 0, 1) := by decide +kernel
theorem dX10_tried_55 : decode cX10_tried 55 = .ok (.getfield 21, 3) := by decide +kernel
theorem dX10_tried_58 : decode cX10_tried 58 = .ok (.iload_n 2, 1) := by decide +kernel
theorem dX10_tried_59 : decode cX10_tried 59 = .ok (.iload_n 2, 1) := by decide +kernel
theorem dX10_tried_60 : decode cX10_tried 60 = .ok (.invokevirtual 211, 3) := by decide +kernel
theorem dX10_tried_63 : decode cX10_tried 63 = .ok (.aload_n 0, 1) := by decide +kernel
theorem dX10_tried_64 : decode cX10_tried 64 = .ok (.getfield 21, 3) := by decide +kernel
theorem dX10_tried_67 : decode cX10_tried 67 = .ok (.iload_n 2, 1) := by decide +kernel
theorem dX10_tried_68 : decode cX10_tried 68 = .ok (.invokevirtual 218, 3) := by decide +kernel
theorem dX10_tried_71 : decode cX10_tried 71 = .ok (.lreturn, 1) := by decide +kernel
theorem dX10_hole_0 : decode cX10_hole 0 = .ok (.aload_n 0, 1) := by decide +kernel
theorem dX10_hole_1 : decode cX10_hole 1 = .ok (.iload_n 1, 1) := by decide +kernel
theorem dX10_hole_2 : decode cX10_hole 2 = .ok (.iload_n 3, 1) := by decide +kernel
theorem dX10_hole_3 : decode cX10_hole 3 = .ok (.invokevirtual 68, 3) := by decide +kernel
theorem dX10_hole_6 : decode cX10_hole 6 = .ok (.ifCond .eq 20, 3) := by decide +kernel
theorem dX10_hole_9 : decode cX10_hole 9 = .ok (.iload_n 2, 1) := by decide +kernel
theorem dX10_hole_10 : decode cX10_hole 10 = .ok (.invokestatic 106, 3) := by decide +kernel
theorem dX10_hole_13 : decode cX10_hole 13 = .ok (.ifCond .eq 13, 3) := by decide +kernel
theorem dX10_hole_16 : decode cX10_hole 16 = .ok (.iload 4, 2) := by decide +kernel
theorem dX10_hole_18 : decode cX10_hole 18 = .ok (.iconst 0, 1) := by decide +kernel
theorem dX10_hole_19 : decode cX10_hole 19 = .ok (.iconst 2, 1) := by decide +kernel
theorem dX10_hole_20 : decode cX10_hole 20 = .ok (.invokestatic 60, 3) := by decide +kernel
theorem dX10_hole_23 : decode cX10_hole 23 = .ok (.ifCond .ne 7, 3) := by decide +kernel
theorem dX10_hole_26 : decode cX10_hole 26 = .ok (.ldc2_w 205, 3) := by decide +kernel
theorem dX10_hole_29 : decode cX10_hole 29 = .ok (.lreturn, 1) := by decide +kernel
theorem dX10_hole_30 : decode cX10_hole 30 = .ok (.aload_n 0, 1) := by decide +kernel
theorem dX10_hole_31 : decode cX10_hole 31 = .ok (.iload_n 1, 1) := by decide +kernel
theorem dX10_hole_32 : decode cX10_hole 32 = .ok (.iload_n 3, 1) := by decide +kernel
theorem dX10_hole_33 : decode cX10_hole 33 = .ok (.aload_n 0, 1) := by decide +kernel
theorem dX10_hole_34 : decode cX10_hole 34 = .ok (.getfield 12, 3) := by decide +kernel
theorem dX10_hole_37 : decode cX10_hole 37 = .ok (.getfield 55, 3) := by decide +kernel
theorem dX10_hole_40 : decode cX10_hole 40 = .ok (.invokevirtual 170, 3) := by decide +kernel
theorem dX10_hole_43 : decode cX10_hole 43 = .ok (.aload_n 0, 1) := by decide +kernel
theorem dX10_hole_44 : decode cX10_hole 44 = .ok (.getfield 12, 3) := by decide +kernel
theorem dX10_hole_47 : decode cX10_hole 47 = .ok (.getfield 75, 3) := by decide +kernel
theorem dX10_hole_50 : decode cX10_hole 50 = .ok (.iload_n 1, 1) := by decide +kernel
theorem dX10_hole_51 : decode cX10_hole 51 = .ok (.iload_n 3, 1) := by decide +kernel
theorem dX10_hole_52 : decode cX10_hole 52 = .ok (.iconst 3, 1) := by decide +kernel
theorem dX10_hole_53 : decode cX10_hole 53 = .ok (.iload_n 2, 1) := by decide +kernel
theorem dX10_hole_54 : decode cX10_hole 54 = .ok (.iadd, 1) := by decide +kernel
theorem dX10_hole_55 : decode cX10_hole 55 = .ok (.aload_n 0, 1) := by decide +kernel
theorem dX10_hole_56 : decode cX10_hole 56 = .ok (.getfield 12, 3) := by decide +kernel
theorem dX10_hole_59 : decode cX10_hole 59 = .ok (.getfield 55, 3) := by decide +kernel
theorem dX10_hole_62 : decode cX10_hole 62 = .ok (.invokevirtual 89, 3) := by decide +kernel
theorem dX10_hole_65 : decode cX10_hole 65 = .ok (.istore 5, 2) := by decide +kernel
theorem dX10_hole_67 : decode cX10_hole 67 = .ok (.iload 5, 2) := by decide +kernel
theorem dX10_hole_69 : decode cX10_hole 69 = .ok (.iconst (-1), 1) := by decide +kernel
theorem dX10_hole_70 : decode cX10_hole 70 = .ok (.if_icmp .eq 15, 3) := by decide +kernel
theorem dX10_hole_73 : decode cX10_hole 73 = .ok (.aload_n 0, 1) := by decide +kernel
theorem dX10_hole_74 : decode cX10_hole 74 = .ok (.getfield 21, 3) := by decide +kernel
theorem dX10_hole_77 : decode cX10_hole 77 = .ok (.iload_n 3, 1) := by decide +kernel
theorem dX10_hole_78 : decode cX10_hole 78 = .ok (.iload_n 2, 1) := by decide +kernel
theorem dX10_hole_79 : decode cX10_hole 79 = .ok (.invokevirtual 247, 3) := by decide +kernel
theorem dX10_hole_82 : decode cX10_hole 82 = .ok (.ifCond .ne 7, 3) := by decide +kernel
theorem dX10_hole_85 : decode cX10_hole 85 = .ok (.ldc2_w 205, 3) := by decide +kernel
theorem dX10_hole_88 : decode cX10_hole 88 = .ok (.lreturn, 1) := by decide +kernel
theorem dX10_hole_89 : decode cX10_hole 89 = .ok (.iload 4, 2) := by decide +kernel
theorem dX10_hole_91 : decode cX10_hole 91 = .ok (.iconst 2, 1) := by decide +kernel
theorem dX10_hole_92 : decode cX10_hole 92 = .ok (.if_icmp .ne 19, 3) := by decide +kernel
theorem dX10_hole_95 : decode cX10_hole 95 = .ok (.aload_n 0, 1) := by decide +kernel
theorem dX10_hole_96 : decode cX10_hole 96 = .ok (.getfield 21, 3) := by decide +kernel
theorem dX10_hole_99 : decode cX10_hole 99 = .ok (.iload_n 3, 1) := by decide +kernel
theorem dX10_hole_100 : decode cX10_hole 100 = .ok (.iload_n 2, 1) := by decide +kernel
theorem dX10_hole_101 : decode cX10_hole 101 = .ok (.iload 5, 2) := by decide +kernel
theorem dX10_hole_103 : decode cX10_hole 103 = .ok (.i2l, 1) := by decide +kernel
theorem dX10_hole_104 : decode cX10_hole 104 = .ok (.iload 5, 2) := by decide +kernel
theorem dX10_hole_106 : decode cX10_hole 106 = .ok (.i2l, 1) := by decide +kernel
theorem dX10_hole_107 : decode cX10_hole 107 = .ok (.invokevirtual 250, 3) := by decide +kernel
theorem dX10_hole_110 : decode cX10_hole 110 = .ok (.lreturn, 1) := by decide +kernel
theorem dX10_hole_111 : decode cX10_hole 111 = .ok (.bipush 80, 2) := by decide +kernel
theorem dX10_hole_113 : decode cX10_hole 113 = .ok (.istore 6, 2) := by decide +kernel
theorem dX10_hole_115 : decode cX10_hole 115 = .ok (.aload_n 0, 1) := by decide +kernel
theorem dX10_hole_116 : decode cX10_hole 116 = .ok (.getfield 21, 3) := by decide +kernel
theorem dX10_hole_119 : decode cX10_hole 119 = .ok (.iload_n 3, 1) := by decide +kernel
theorem dX10_hole_120 : decode cX10_hole 120 = .ok (.iload_n 2, 1) := by decide +kernel
theorem dX10_hole_121 : decode cX10_hole 121 = .ok (.iload 5, 2) := by decide +kernel
theorem dX10_hole_123 : decode cX10_hole 123 = .ok (.i2l, 1) := by decide +kernel
theorem dX10_hole_124 : decode cX10_hole 124 = .ok (.iload 5, 2) := by decide +kernel
theorem dX10_hole_126 : decode cX10_hole 126 = .ok (.i2l, 1) := by decide +kernel
theorem dX10_hole_127 : decode cX10_hole 127 = .ok (.iload 6, 2) := by decide +kernel
theorem dX10_hole_129 : decode cX10_hole 129 = .ok (.i2l, 1) := by decide +kernel
theorem dX10_hole_130 : decode cX10_hole 130 = .ok (.lmul, 1) := by decide +kernel
theorem dX10_hole_131 : decode cX10_hole 131 = .ok (.ldc2_w 254, 3) := by decide +kernel
theorem dX10_hole_134 : decode cX10_hole 134 = .ok (.invokestatic 256, 3) := by decide +kernel
theorem dX10_hole_137 : decode cX10_hole 137 = .ok (.invokevirtual 250, 3) := by decide +kernel
theorem dX10_hole_140 : decode cX10_hole 140 = .ok (.lstore 7, 2) := by decide +kernel
theorem dX10_hole_142 : decode cX10_hole 142 = .ok (.bipush 85, 2) := by decide +kernel
theorem dX10_hole_144 : decode cX10_hole 144 = .ok (.istore 9, 2) := by decide +kernel
theorem dX10_hole_146 : decode cX10_hole 146 = .ok (.iload 9, 2) := by decide +kernel
theorem dX10_hole_148 : decode cX10_hole 148 = .ok (.bipush 120, 2) := by decide +kernel
theorem dX10_hole_150 : decode cX10_hole 150 = .ok (.if_icmp .gt 52, 3) := by decide +kernel
theorem dX10_hole_153 : decode cX10_hole 153 = .ok (.aload_n 0, 1) := by decide +kernel
theorem dX10_hole_154 : decode cX10_hole 154 = .ok (.getfield 21, 3) := by decide +kernel
theorem dX10_hole_157 : decode cX10_hole 157 = .ok (.iload_n 3, 1) := by decide +kernel
theorem dX10_hole_158 : decode cX10_hole 158 = .ok (.iload_n 2, 1) := by decide +kernel
theorem dX10_hole_159 : decode cX10_hole 159 = .ok (.iload 5, 2) := by decide +kernel
theorem dX10_hole_161 : decode cX10_hole 161 = .ok (.i2l, 1) := by decide +kernel
theorem dX10_hole_162 : decode cX10_hole 162 = .ok (.iload 5, 2) := by decide +kernel
theorem dX10_hole_164 : decode cX10_hole 164 = .ok (.i2l, 1) := by decide +kernel
theorem dX10_hole_165 : decode cX10_hole 165 = .ok (.iload 9, 2) := by decide +kernel
theorem dX10_hole_167 : decode cX10_hole 167 = .ok (.i2l, 1) := by decide +kernel
theorem dX10_hole_168 : decode cX10_hole 168 = .ok (.lmul, 1) := by decide +kernel
theorem dX10_hole_169 : decode cX10_hole 169 = .ok (.ldc2_w 254, 3) := by decide +kernel
theorem dX10_hole_172 : decode cX10_hole 172 = .ok (.invokestatic 256, 3) := by decide +kernel
theorem dX10_hole_175 : decode cX10_hole 175 = .ok (.invokevirtual 250, 3) := by decide +kernel
theorem dX10_hole_178 : decode cX10_hole 178 = .ok (.lstore 10, 2) := by decide +kernel
theorem dX10_hole_180 : decode cX10_hole 180 = .ok (.lload 10, 2) := by decide +kernel
theorem dX10_hole_182 : decode cX10_hole 182 = .ok (.lload 7, 2) := by decide +kernel
theorem dX10_hole_184 : decode cX10_hole 184 = .ok (.lcmp, 1) := by decide +kernel
theorem dX10_hole_185 : decode cX10_hole 185 = .ok (.ifCond .le 11, 3) := by decide +kernel
theorem dX10_hole_188 : decode cX10_hole 188 = .ok (.lload 10, 2) := by decide +kernel
theorem dX10_hole_190 : decode cX10_hole 190 = .ok (.lstore 7, 2) := by decide +kernel
theorem dX10_hole_192 : decode cX10_hole 192 = .ok (.iload 9, 2) := by decide +kernel
theorem dX10_hole_194 : decode cX10_hole 194 = .ok (.istore 6, 2) := by decide +kernel
theorem dX10_hole_196 : decode cX10_hole 196 = .ok (.iinc 9 5, 3) := by decide +kernel
theorem dX10_hole_199 : decode cX10_hole 199 = .ok (.goto (-53), 3) := by decide +kernel
theorem dX10_hole_202 : decode cX10_hole 202 = .ok (.iload 4, 2) := by decide +kernel
theorem dX10_hole_204 : decode cX10_hole 204 = .ok (.ifCond .ne 8, 3) := by decide +kernel
theorem dX10_hole_207 : decode cX10_hole 207 = .ok (.lload 7, 2) := by decide +kernel
theorem dX10_hole_209 : decode cX10_hole 209 = .ok (.goto 6, 3) := by decide +kernel
theorem dX10_hole_212 : decode cX10_hole 212 = .ok (.iload 6, 2) := by decide +kernel
theorem dX10_hole_214 : decode cX10_hole 214 = .ok (.i2l, 1) := by decide +kernel
theorem dX10_hole_215 : decode cX10_hole 215 = .ok (.lreturn, 1) := by decide +kernel
theorem dX10_span_0 : decode cX10_span 0 = .ok (.aload_n 0, 1) := by decide +kernel
theorem dX10_span_1 : decode cX10_span 1 = .ok (.iload_n 1, 1) := by decide +kernel
theorem dX10_span_2 : decode cX10_span 2 = .ok (.invokevirtual 187, 3) := by decide +kernel
theorem dX10_span_5 : decode cX10_span 5 = .ok (.ifCond .eq 47, 3) := by decide +kernel
theorem dX10_span_8 : decode cX10_span 8 = .ok (.iload_n 2, 1) := by decide +kernel
theorem dX10_span_9 : decode cX10_span 9 = .ok (.invokestatic 106, 3) := by decide +kernel
theorem dX10_span_12 : decode cX10_span 12 = .ok (.ifCond .eq 40, 3) := by decide +kernel
theorem dX10_span_15 : decode cX10_span 15 = .ok (.iload_n 3, 1) := by decide +kernel
theorem dX10_span_16 : decode cX10_span 16 = .ok (.invokestatic 126, 3) := by decide +kernel
theorem dX10_span_19 : decode cX10_span 19 = .ok (.ifCond .eq 33, 3) := by decide +kernel
theorem dX10_span_22 : decode cX10_span 22 = .ok (.iload 4, 2) := by decide +kernel
theorem dX10_span_24 : decode cX10_span 24 = .ok (.invokestatic 190, 3) := by decide +kernel
theorem dX10_span_27 : decode cX10_span 27 = .ok (.ifCond .eq 25, 3) := by decide +kernel
theorem dX10_span_30 : decode cX10_span 30 = .ok (.iload 5, 2) := by decide +kernel
theorem dX10_span_32 : decode cX10_span 32 = .ok (.iconst 0, 1) := by decide +kernel
theorem dX10_span_33 : decode cX10_span 33 = .ok (.sipush 999, 3) := by decide +kernel
theorem dX10_span_36 : decode cX10_span 36 = .ok (.invokestatic 60, 3) := by decide +kernel
theorem dX10_span_39 : decode cX10_span 39 = .ok (.ifCond .eq 13, 3) := by decide +kernel
theorem dX10_span_42 : decode cX10_span 42 = .ok (.iload 6, 2) := by decide +kernel
theorem dX10_span_44 : decode cX10_span 44 = .ok (.iconst 0, 1) := by decide +kernel
theorem dX10_span_45 : decode cX10_span 45 = .ok (.iconst 2, 1) := by decide +kernel
theorem dX10_span_46 : decode cX10_span 46 = .ok (.invokestatic 60, 3) := by decide +kernel
theorem dX10_span_49 : decode cX10_span 49 = .ok (.ifCond .ne 5, 3) := by decide +kernel
theorem dX10_span_52 : decode cX10_span 52 = .ok (.iconst (-1), 1) := by decide +kernel
theorem dX10_span_53 : decode cX10_span 53 = .ok (.ireturn, 1) := by decide +kernel
theorem dX10_span_54 : decode cX10_span 54 = .ok (.aload_n 0, 1) := by decide +kernel
theorem dX10_span_55 : decode cX10_span 55 = .ok (.getfield 28, 3) := by decide +kernel
theorem dX10_span_58 : decode cX10_span 58 = .ok (.iload_n 1, 1) := by decide +kernel
theorem dX10_span_59 : decode cX10_span 59 = .ok (.iload_n 2, 1) := by decide +kernel
theorem dX10_span_60 : decode cX10_span 60 = .ok (.iload_n 3, 1) := by decide +kernel
theorem dX10_span_61 : decode cX10_span 61 = .ok (.iload 4, 2) := by decide +kernel
theorem dX10_span_63 : decode cX10_span 63 = .ok (.invokevirtual 193, 3) := by decide +kernel
theorem dX10_span_66 : decode cX10_span 66 = .ok (.aload_n 0, 1) := by decide +kernel
theorem dX10_span_67 : decode cX10_span 67 = .ok (.getfield 28, 3) := by decide +kernel
theorem dX10_span_70 : decode cX10_span 70 = .ok (.getfield 197, 3) := by decide +kernel
theorem dX10_span_73 : decode cX10_span 73 = .ok (.ifCond .ne 5, 3) := by decide +kernel
theorem dX10_span_76 : decode cX10_span 76 = .ok (.iconst (-1), 1) := by decide +kernel
theorem dX10_span_77 : decode cX10_span 77 = .ok (.ireturn, 1) := by decide +kernel
theorem dX10_span_78 : decode cX10_span 78 = .ok (.iload 6, 2) := by decide +kernel
theorem dX10_span_80 : decode cX10_span 80 = .ok (.ifCond .ne 15, 3) := by decide +kernel
theorem dX10_span_83 : decode cX10_span 83 = .ok (.aload_n 0, 1) := by decide +kernel
theorem dX10_span_84 : decode cX10_span 84 = .ok (.getfield 28, 3) := by decide +kernel
theorem dX10_span_87 : decode cX10_span 87 = .ok (.iload 5, 2) := by decide +kernel
theorem dX10_span_89 : decode cX10_span 89 = .ok (.i2l, 1) := by decide +kernel
theorem dX10_span_90 : decode cX10_span 90 = .ok (.invokevirtual 262, 3) := by decide +kernel
theorem dX10_span_93 : decode cX10_span 93 = .ok (.l2i, 1) := by decide +kernel
theorem dX10_span_94 : decode cX10_span 94 = .ok (.ireturn, 1) := by decide +kernel
theorem dX10_span_95 : decode cX10_span 95 = .ok (.aload_n 0, 1) := by decide +kernel
theorem dX10_span_96 : decode cX10_span 96 = .ok (.iload 5, 2) := by decide +kernel
theorem dX10_span_98 : decode cX10_span 98 = .ok (.iload 6, 2) := by decide +kernel
theorem dX10_span_100 : decode cX10_span 100 = .ok (.iconst 2, 1) := by decide +kernel
theorem dX10_span_101 : decode cX10_span 101 = .ok (.if_icmp .ne 7, 3) := by decide +kernel
theorem dX10_span_104 : decode cX10_span 104 = .ok (.iconst 1, 1) := by decide +kernel
theorem dX10_span_105 : decode cX10_span 105 = .ok (.goto 4, 3) := by decide +kernel
theorem dX10_span_108 : decode cX10_span 108 = .ok (.iconst 0, 1) := by decide +kernel
theorem dX10_span_109 : decode cX10_span 109 = .ok (.invokevirtual 266, 3) := by decide +kernel
theorem dX10_span_112 : decode cX10_span 112 = .ok (.l2i, 1) := by decide +kernel
theorem dX10_span_113 : decode cX10_span 113 = .ok (.ireturn, 1) := by decide +kernel
theorem dX10_moves_0 : decode cX10_moves 0 = .ok (.aload_n 0, 1) := by decide +kernel
theorem dX10_moves_1 : decode cX10_moves 1 = .ok (.iload_n 1, 1) := by decide +kernel
theorem dX10_moves_2 : decode cX10_moves 2 = .ok (.invokevirtual 187, 3) := by decide +kernel
theorem dX10_moves_5 : decode cX10_moves 5 = .ok (.ifCond .eq 17, 3) := by decide +kernel
theorem dX10_moves_8 : decode cX10_moves 8 = .ok (.iload_n 2, 1) := by decide +kernel
theorem dX10_moves_9 : decode cX10_moves 9 = .ok (.invokestatic 106, 3) := by decide +kernel
theorem dX10_moves_12 : decode cX10_moves 12 = .ok (.ifCond .eq 10, 3) := by decide +kernel
theorem dX10_moves_15 : decode cX10_moves 15 = .ok (.iload_n 3, 1) := by decide +kernel
theorem dX10_moves_16 : decode cX10_moves 16 = .ok (.invokestatic 126, 3) := by decide +kernel
theorem dX10_moves_19 : decode cX10_moves 19 = .ok (.ifCond .ne 5, 3) := by decide +kernel
theorem dX10_moves_22 : decode cX10_moves 22 = .ok (.iconst (-1), 1) := by decide +kernel
theorem dX10_moves_23 : decode cX10_moves 23 = .ok (.ireturn, 1) := by decide +kernel
theorem dX10_moves_24 : decode cX10_moves 24 = .ok (.iconst (-1), 1) := by decide +kernel
theorem dX10_moves_25 : decode cX10_moves 25 = .ok (.istore 4, 2) := by decide +kernel
theorem dX10_moves_27 : decode cX10_moves 27 = .ok (.lconst 0, 1) := by decide +kernel
theorem dX10_moves_28 : decode cX10_moves 28 = .ok (.lstore 5, 2) := by decide +kernel
theorem dX10_moves_30 : decode cX10_moves 30 = .ok (.iconst 0, 1) := by decide +kernel
theorem dX10_moves_31 : decode cX10_moves 31 = .ok (.istore 7, 2) := by decide +kernel
theorem dX10_moves_33 : decode cX10_moves 33 = .ok (.iload 7, 2) := by decide +kernel
theorem dX10_moves_35 : decode cX10_moves 35 = .ok (.iconst 3, 1) := by decide +kernel
theorem dX10_moves_36 : decode cX10_moves 36 = .ok (.if_icmp .ge 65, 3) := by decide +kernel
theorem dX10_moves_39 : decode cX10_moves 39 = .ok (.aload_n 0, 1) := by decide +kernel
theorem dX10_moves_40 : decode cX10_moves 40 = .ok (.getfield 28, 3) := by decide +kernel
theorem dX10_moves_43 : decode cX10_moves 43 = .ok (.iload_n 1, 1) := by decide +kernel
theorem dX10_moves_44 : decode cX10_moves 44 = .ok (.iload_n 2, 1) := by decide +kernel
theorem dX10_moves_45 : decode cX10_moves 45 = .ok (.iload_n 3, 1) := by decide +kernel
theorem dX10_moves_46 : decode cX10_moves 46 = .ok (.iload 7, 2) := by decide +kernel
theorem dX10_moves_48 : decode cX10_moves 48 = .ok (.invokevirtual 193, 3) := by decide +kernel
theorem dX10_moves_51 : decode cX10_moves 51 = .ok (.aload_n 0, 1) := by decide +kernel
theorem dX10_moves_52 : decode cX10_moves 52 = .ok (.getfield 28, 3) := by decide +kernel
theorem dX10_moves_55 : decode cX10_moves 55 = .ok (.getfield 197, 3) := by decide +kernel
theorem dX10_moves_58 : decode cX10_moves 58 = .ok (.ifCond .ne 6, 3) := by decide +kernel
theorem dX10_moves_61 : decode cX10_moves 61 = .ok (.goto 34, 3) := by decide +kernel
theorem dX10_moves_64 : decode cX10_moves 64 = .ok (.aload_n 0, 1) := by decide +kernel
theorem dX10_moves_65 : decode cX10_moves 65 = .ok (.getfield 28, 3) := by decide +kernel
theorem dX10_moves_68 : decode cX10_moves 68 = .ok (.invokevirtual 270, 3) := by decide +kernel
theorem dX10_moves_71 : decode cX10_moves 71 = .ok (.lstore 8, 2) := by decide +kernel
theorem dX10_moves_73 : decode cX10_moves 73 = .ok (.iload 4, 2) := by decide +kernel
theorem dX10_moves_75 : decode cX10_moves 75 = .ok (.iconst (-1), 1) := by decide +kernel
theorem dX10_moves_76 : decode cX10_moves 76 = .ok (.if_icmp .eq 11, 3) := by decide +kernel
theorem dX10_moves_79 : decode cX10_moves 79 = .ok (.lload 8, 2) := by decide +kernel
theorem dX10_moves_81 : decode cX10_moves 81 = .ok (.lload 5, 2) := by decide +kernel
theorem dX10_moves_83 : decode cX10_moves 83 = .ok (.lcmp, 1) := by decide +kernel
theorem dX10_moves_84 : decode cX10_moves 84 = .ok (.ifCond .ge 11, 3) := by decide +kernel
theorem dX10_moves_87 : decode cX10_moves 87 = .ok (.iload 7, 2) := by decide +kernel
theorem dX10_moves_89 : decode cX10_moves 89 = .ok (.istore 4, 2) := by decide +kernel
theorem dX10_moves_91 : decode cX10_moves 91 = .ok (.lload 8, 2) := by decide +kernel
theorem dX10_moves_93 : decode cX10_moves 93 = .ok (.lstore 5, 2) := by decide +kernel
theorem dX10_moves_95 : decode cX10_moves 95 = .ok (.iinc 7 1, 3) := by decide +kernel
theorem dX10_moves_98 : decode cX10_moves 98 = .ok (.goto (-65), 3) := by decide +kernel
theorem dX10_moves_101 : decode cX10_moves 101 = .ok (.iload 4, 2) := by decide +kernel
theorem dX10_moves_103 : decode cX10_moves 103 = .ok (.ireturn, 1) := by decide +kernel
theorem dX10_putBy_0 : decode cX10_putBy 0 = .ok (.aload_n 0, 1) := by decide +kernel
theorem dX10_putBy_1 : decode cX10_putBy 1 = .ok (.getfield 150, 3) := by decide +kernel
theorem dX10_putBy_4 : decode cX10_putBy 4 = .ok (.ifnull 11, 3) := by decide +kernel
theorem dX10_putBy_7 : decode cX10_putBy 7 = .ok (.aload_n 0, 1) := by decide +kernel
theorem dX10_putBy_8 : decode cX10_putBy 8 = .ok (.getfield 274, 3) := by decide +kernel
theorem dX10_putBy_11 : decode cX10_putBy 11 = .ok (.iconst 4, 1) := by decide +kernel
theorem dX10_putBy_12 : decode cX10_putBy 12 = .ok (.if_icmp .lt 5, 3) := by decide +kernel
theorem dX10_putBy_15 : decode cX10_putBy 15 = .ok (.iconst (-1), 1) := by decide +kernel
theorem dX10_putBy_16 : decode cX10_putBy 16 = .ok (.ireturn, 1) := by decide +kernel
theorem dX10_putBy_17 : decode cX10_putBy 17 = .ok (.aload_n 0, 1) := by decide +kernel
theorem dX10_putBy_18 : decode cX10_putBy 18 = .ok (.getfield 49, 3) := by decide +kernel
theorem dX10_putBy_21 : decode cX10_putBy 21 = .ok (.aload_n 0, 1) := by decide +kernel
theorem dX10_putBy_22 : decode cX10_putBy 22 = .ok (.getfield 274, 3) := by decide +kernel
theorem dX10_putBy_25 : decode cX10_putBy 25 = .ok (.aload_n 0, 1) := by decide +kernel
theorem dX10_putBy_26 : decode cX10_putBy 26 = .ok (.getfield 150, 3) := by decide +kernel
theorem dX10_putBy_29 : decode cX10_putBy 29 = .ok (.aastore, 1) := by decide +kernel
theorem dX10_putBy_30 : decode cX10_putBy 30 = .ok (.aload_n 0, 1) := by decide +kernel
theorem dX10_putBy_31 : decode cX10_putBy 31 = .ok (.dup, 1) := by decide +kernel
theorem dX10_putBy_32 : decode cX10_putBy 32 = .ok (.getfield 274, 3) := by decide +kernel
theorem dX10_putBy_35 : decode cX10_putBy 35 = .ok (.iconst 1, 1) := by decide +kernel
theorem dX10_putBy_36 : decode cX10_putBy 36 = .ok (.iadd, 1) := by decide +kernel
theorem dX10_putBy_37 : decode cX10_putBy 37 = .ok (.putfield 274, 3) := by decide +kernel
theorem dX10_putBy_40 : decode cX10_putBy 40 = .ok (.aload_n 0, 1) := by decide +kernel
theorem dX10_putBy_41 : decode cX10_putBy 41 = .ok (.getfield 274, 3) := by decide +kernel
theorem dX10_putBy_44 : decode cX10_putBy 44 = .ok (.iconst 1, 1) := by decide +kernel
theorem dX10_putBy_45 : decode cX10_putBy 45 = .ok (.isub, 1) := by decide +kernel
theorem dX10_putBy_46 : decode cX10_putBy 46 = .ok (.ireturn, 1) := by decide +kernel
theorem dX10_borne_0 : decode cX10_borne 0 = .ok (.aload_n 0, 1) := by decide +kernel
theorem dX10_borne_1 : decode cX10_borne 1 = .ok (.iload_n 1, 1) := by decide +kernel
theorem dX10_borne_2 : decode cX10_borne 2 = .ok (.invokevirtual 187, 3) := by decide +kernel
theorem dX10_borne_5 : decode cX10_borne 5 = .ok (.ifCond .eq 10, 3) := by decide +kernel
theorem dX10_borne_8 : decode cX10_borne 8 = .ok (.iload_n 2, 1) := by decide +kernel
theorem dX10_borne_9 : decode cX10_borne 9 = .ok (.invokestatic 126, 3) := by decide +kernel
theorem dX10_borne_12 : decode cX10_borne 12 = .ok (.ifCond .ne 7, 3) := by decide +kernel
theorem dX10_borne_15 : decode cX10_borne 15 = .ok (.ldc2_w 205, 3) := by decide +kernel
theorem dX10_borne_18 : decode cX10_borne 18 = .ok (.lreturn, 1) := by decide +kernel
theorem dX10_borne_19 : decode cX10_borne 19 = .ok (.aload_n 0, 1) := by decide +kernel
theorem dX10_borne_20 : decode cX10_borne 20 = .ok (.iload_n 1, 1) := by decide +kernel
theorem dX10_borne_21 : decode cX10_borne 21 = .ok (.iload_n 2, 1) := by decide +kernel
theorem dX10_borne_22 : decode cX10_borne 22 = .ok (.invokestatic 277, 3) := by decide +kernel
theorem dX10_borne_25 : decode cX10_borne 25 = .ok (.aload_n 0, 1) := by decide +kernel
theorem dX10_borne_26 : decode cX10_borne 26 = .ok (.getfield 12, 3) := by decide +kernel
theorem dX10_borne_29 : decode cX10_borne 29 = .ok (.getfield 55, 3) := by decide +kernel
theorem dX10_borne_32 : decode cX10_borne 32 = .ok (.invokevirtual 170, 3) := by decide +kernel
theorem dX10_borne_35 : decode cX10_borne 35 = .ok (.aload_n 0, 1) := by decide +kernel
theorem dX10_borne_36 : decode cX10_borne 36 = .ok (.getfield 21, 3) := by decide +kernel
theorem dX10_borne_39 : decode cX10_borne 39 = .ok (.iload_n 2, 1) := by decide +kernel
theorem dX10_borne_40 : decode cX10_borne 40 = .ok (.iconst 5, 1) := by decide +kernel
theorem dX10_borne_41 : decode cX10_borne 41 = .ok (.imul, 1) := by decide +kernel
theorem dX10_borne_42 : decode cX10_borne 42 = .ok (.invokevirtual 280, 3) := by decide +kernel
theorem dX10_borne_45 : decode cX10_borne 45 = .ok (.lreturn, 1) := by decide +kernel
theorem dX10_best_0 : decode cX10_best 0 = .ok (.iload_n 1, 1) := by decide +kernel
theorem dX10_best_1 : decode cX10_best 1 = .ok (.invokestatic 126, 3) := by decide +kernel
theorem dX10_best_4 : decode cX10_best 4 = .ok (.ifCond .eq 13, 3) := by decide +kernel
theorem dX10_best_7 : decode cX10_best 7 = .ok (.iload_n 2, 1) := by decide +kernel
theorem dX10_best_8 : decode cX10_best 8 = .ok (.iconst 0, 1) := by decide +kernel
theorem dX10_best_9 : decode cX10_best 9 = .ok (.ldc 93, 2) := by decide +kernel
theorem dX10_best_11 : decode cX10_best 11 = .ok (.invokestatic 60, 3) := by decide +kernel
theorem dX10_best_14 : decode cX10_best 14 = .ok (.ifCond .ne 5, 3) := by decide +kernel
theorem dX10_best_17 : decode cX10_best 17 = .ok (.iconst (-1), 1) := by decide +kernel
theorem dX10_best_18 : decode cX10_best 18 = .ok (.ireturn, 1) := by decide +kernel
theorem dX10_best_19 : decode cX10_best 19 = .ok (.aload_n 0, 1) := by decide +kernel
theorem dX10_best_20 : decode cX10_best 20 = .ok (.invokevirtual 237, 3) := by decide +kernel
theorem dX10_best_23 : decode cX10_best 23 = .ok (.iconst (-1), 1) := by decide +kernel
theorem dX10_best_24 : decode cX10_best 24 = .ok (.istore_n 3, 1) := by decide +kernel
theorem dX10_best_25 : decode cX10_best 25 = .ok (.lconst 0, 1) := by decide +kernel
theorem dX10_best_26 : decode cX10_best 26 = .ok (.lstore 4, 2) := by decide +kernel
theorem dX10_best_28 : decode cX10_best 28 = .ok (.iconst 0, 1) := by decide +kernel
theorem dX10_best_29 : decode cX10_best 29 = .ok (.istore 6, 2) := by decide +kernel
theorem dX10_best_31 : decode cX10_best 31 = .ok (.iload 6, 2) := by decide +kernel
theorem dX10_best_33 : decode cX10_best 33 = .ok (.aload_n 0, 1) := by decide +kernel
theorem dX10_best_34 : decode cX10_best 34 = .ok (.getfield 274, 3) := by decide +kernel
theorem dX10_best_37 : decode cX10_best 37 = .ok (.if_icmp .ge 63, 3) := by decide +kernel
theorem dX10_best_40 : decode cX10_best 40 = .ok (.aload_n 0, 1) := by decide +kernel
theorem dX10_best_41 : decode cX10_best 41 = .ok (.getfield 21, 3) := by decide +kernel
theorem dX10_best_44 : decode cX10_best 44 = .ok (.iload_n 1, 1) := by decide +kernel
theorem dX10_best_45 : decode cX10_best 45 = .ok (.aload_n 0, 1) := by decide +kernel
theorem dX10_best_46 : decode cX10_best 46 = .ok (.getfield 49, 3) := by decide +kernel
theorem dX10_best_49 : decode cX10_best 49 = .ok (.iload 6, 2) := by decide +kernel
theorem dX10_best_51 : decode cX10_best 51 = .ok (.aaload, 1) := by decide +kernel
theorem dX10_best_52 : decode cX10_best 52 = .ok (.invokevirtual 240, 3) := by decide +kernel
theorem dX10_best_55 : decode cX10_best 55 = .ok (.aload_n 0, 1) := by decide +kernel
theorem dX10_best_56 : decode cX10_best 56 = .ok (.iload_n 1, 1) := by decide +kernel
theorem dX10_best_57 : decode cX10_best 57 = .ok (.iload_n 2, 1) := by decide +kernel
theorem dX10_best_58 : decode cX10_best 58 = .ok (.invokevirtual 283, 3) := by decide +kernel
theorem dX10_best_61 : decode cX10_best 61 = .ok (.ifCond .ne 6, 3) := by decide +kernel
theorem dX10_best_64 : decode cX10_best 64 = .ok (.goto 30, 3) := by decide +kernel
theorem dX10_best_67 : decode cX10_best 67 = .ok (.aload_n 0, 1) := by decide +kernel
theorem dX10_best_68 : decode cX10_best 68 = .ok (.iload_n 1, 1) := by decide +kernel
theorem dX10_best_69 : decode cX10_best 69 = .ok (.invokevirtual 286, 3) := by decide +kernel
theorem dX10_best_72 : decode cX10_best 72 = .ok (.lstore 7, 2) := by decide +kernel
theorem dX10_best_74 : decode cX10_best 74 = .ok (.iload_n 3, 1) := by decide +kernel
theorem dX10_best_75 : decode cX10_best 75 = .ok (.iconst (-1), 1) := by decide +kernel
theorem dX10_best_76 : decode cX10_best 76 = .ok (.if_icmp .eq 11, 3) := by decide +kernel
theorem dX10_best_79 : decode cX10_best 79 = .ok (.lload 7, 2) := by decide +kernel
theorem dX10_best_81 : decode cX10_best 81 = .ok (.lload 4, 2) := by decide +kernel
theorem dX10_best_83 : decode cX10_best 83 = .ok (.lcmp, 1) := by decide +kernel
theorem dX10_best_84 : decode cX10_best 84 = .ok (.ifCond .ge 10, 3) := by decide +kernel
theorem dX10_best_87 : decode cX10_best 87 = .ok (.iload 6, 2) := by decide +kernel
theorem dX10_best_89 : decode cX10_best 89 = .ok (.istore_n 3, 1) := by decide +kernel
theorem dX10_best_90 : decode cX10_best 90 = .ok (.lload 7, 2) := by decide +kernel
theorem dX10_best_92 : decode cX10_best 92 = .ok (.lstore 4, 2) := by decide +kernel
theorem dX10_best_94 : decode cX10_best 94 = .ok (.iinc 6 1, 3) := by decide +kernel
theorem dX10_best_97 : decode cX10_best 97 = .ok (.goto (-66), 3) := by decide +kernel
theorem dX10_best_100 : decode cX10_best 100 = .ok (.iload_n 3, 1) := by decide +kernel
theorem dX10_best_101 : decode cX10_best 101 = .ok (.ireturn, 1) := by decide +kernel
theorem dX10_tell_0 : decode cX10_tell 0 = .ok (.iload_n 1, 1) := by decide +kernel
theorem dX10_tell_1 : decode cX10_tell 1 = .ok (.iconst 0, 1) := by decide +kernel
theorem dX10_tell_2 : decode cX10_tell 2 = .ok (.bipush 14, 2) := by decide +kernel
theorem dX10_tell_4 : decode cX10_tell 4 = .ok (.invokestatic 60, 3) := by decide +kernel
theorem dX10_tell_7 : decode cX10_tell 7 = .ok (.ifCond .ne 5, 3) := by decide +kernel
theorem dX10_tell_10 : decode cX10_tell 10 = .ok (.iconst 0, 1) := by decide +kernel
theorem dX10_tell_11 : decode cX10_tell 11 = .ok (.ireturn, 1) := by decide +kernel
theorem dX10_tell_12 : decode cX10_tell 12 = .ok (.aload_n 0, 1) := by decide +kernel
theorem dX10_tell_13 : decode cX10_tell 13 = .ok (.getfield 52, 3) := by decide +kernel
theorem dX10_tell_16 : decode cX10_tell 16 = .ok (.iload_n 1, 1) := by decide +kernel
theorem dX10_tell_17 : decode cX10_tell 17 = .ok (.iload_n 2, 1) := by decide +kernel
theorem dX10_tell_18 : decode cX10_tell 18 = .ok (.iastore, 1) := by decide +kernel
theorem dX10_tell_19 : decode cX10_tell 19 = .ok (.iconst 1, 1) := by decide +kernel
theorem dX10_tell_20 : decode cX10_tell 20 = .ok (.ireturn, 1) := by decide +kernel
theorem dX10_check_0 : decode cX10_check 0 = .ok (.aload_n 0, 1) := by decide +kernel
theorem dX10_check_1 : decode cX10_check 1 = .ok (.iload_n 1, 1) := by decide +kernel
theorem dX10_check_2 : decode cX10_check 2 = .ok (.iload_n 2, 1) := by decide +kernel
theorem dX10_check_3 : decode cX10_check 3 = .ok (.invokevirtual 68, 3) := by decide +kernel
theorem dX10_check_6 : decode cX10_check 6 = .ok (.ifCond .eq 10, 3) := by decide +kernel
theorem dX10_check_9 : decode cX10_check 9 = .ok (.iload_n 3, 1) := by decide +kernel
theorem dX10_check_10 : decode cX10_check 10 = .ok (.invokestatic 85, 3) := by decide +kernel
theorem dX10_check_13 : decode cX10_check 13 = .ok (.ifCond .ne 6, 3) := by decide +kernel
theorem dX10_check_16 : decode cX10_check 16 = .ok (.bipush (-2), 2) := by decide +kernel
theorem dX10_check_18 : decode cX10_check 18 = .ok (.ireturn, 1) := by decide +kernel
theorem dX10_check_19 : decode cX10_check 19 = .ok (.aload_n 0, 1) := by decide +kernel
theorem dX10_check_20 : decode cX10_check 20 = .ok (.iload_n 1, 1) := by decide +kernel
theorem dX10_check_21 : decode cX10_check 21 = .ok (.iload_n 2, 1) := by decide +kernel
theorem dX10_check_22 : decode cX10_check 22 = .ok (.iload_n 3, 1) := by decide +kernel
theorem dX10_check_23 : decode cX10_check 23 = .ok (.invokevirtual 170, 3) := by decide +kernel
theorem dX10_check_26 : decode cX10_check 26 = .ok (.aload_n 0, 1) := by decide +kernel
theorem dX10_check_27 : decode cX10_check 27 = .ok (.getfield 21, 3) := by decide +kernel
theorem dX10_check_30 : decode cX10_check 30 = .ok (.iload_n 2, 1) := by decide +kernel
theorem dX10_check_31 : decode cX10_check 31 = .ok (.iload_n 2, 1) := by decide +kernel
theorem dX10_check_32 : decode cX10_check 32 = .ok (.invokevirtual 211, 3) := by decide +kernel
theorem dX10_check_35 : decode cX10_check 35 = .ok (.iconst 0, 1) := by decide +kernel
theorem dX10_check_36 : decode cX10_check 36 = .ok (.istore 4, 2) := by decide +kernel
theorem dX10_check_38 : decode cX10_check 38 = .ok (.iload 4, 2) := by decide +kernel
theorem dX10_check_40 : decode cX10_check 40 = .ok (.bipush 15, 2) := by decide +kernel
theorem dX10_check_42 : decode cX10_check 42 = .ok (.if_icmp .ge 34, 3) := by decide +kernel
theorem dX10_check_45 : decode cX10_check 45 = .ok (.aload_n 0, 1) := by decide +kernel
theorem dX10_check_46 : decode cX10_check 46 = .ok (.getfield 21, 3) := by decide +kernel
theorem dX10_check_49 : decode cX10_check 49 = .ok (.iload_n 2, 1) := by decide +kernel
theorem dX10_check_50 : decode cX10_check 50 = .ok (.iload 4, 2) := by decide +kernel
theorem dX10_check_52 : decode cX10_check 52 = .ok (.invokevirtual 215, 3) := by decide +kernel
theorem dX10_check_55 : decode cX10_check 55 = .ok (.aload_n 0, 1) := by decide +kernel
theorem dX10_check_56 : decode cX10_check 56 = .ok (.getfield 52, 3) := by decide +kernel
theorem dX10_check_59 : decode cX10_check 59 = .ok (.iload 4, 2) := by decide +kernel
theorem dX10_check_61 : decode cX10_check 61 = .ok (.iaload, 1) := by decide +kernel
theorem dX10_check_62 : decode cX10_check 62 = .ok (.i2l, 1) := by decide +kernel
theorem dX10_check_63 : decode cX10_check 63 = .ok (.lcmp, 1) := by decide +kernel
theorem dX10_check_64 : decode cX10_check 64 = .ok (.ifCond .eq 6, 3) := by decide +kernel
theorem dX10_check_67 : decode cX10_check 67 = .ok (.iload 4, 2) := by decide +kernel
theorem dX10_check_69 : decode cX10_check 69 = .ok (.ireturn, 1) := by decide +kernel
theorem dX10_check_70 : decode cX10_check 70 = .ok (.iinc 4 1, 3) := by decide +kernel
theorem dX10_check_73 : decode cX10_check 73 = .ok (.goto (-35), 3) := by decide +kernel
theorem dX10_check_76 : decode cX10_check 76 = .ok (.iconst (-1), 1) := by decide +kernel
theorem dX10_check_77 : decode cX10_check 77 = .ok (.ireturn, 1) := by decide +kernel
theorem dX10_twice_0 : decode cX10_twice 0 = .ok (.iload_n 1, 1) := by decide +kernel
theorem dX10_twice_1 : decode cX10_twice 1 = .ok (.ifCond .lt 27, 3) := by decide +kernel
theorem dX10_twice_4 : decode cX10_twice 4 = .ok (.iload_n 2, 1) := by decide +kernel
theorem dX10_twice_5 : decode cX10_twice 5 = .ok (.iconst 0, 1) := by decide +kernel
theorem dX10_twice_6 : decode cX10_twice 6 = .ok (.iconst 1, 1) := by decide +kernel
theorem dX10_twice_7 : decode cX10_twice 7 = .ok (.invokestatic 60, 3) := by decide +kernel
theorem dX10_twice_10 : decode cX10_twice 10 = .ok (.ifCond .eq 18, 3) := by decide +kernel
theorem dX10_twice_13 : decode cX10_twice 13 = .ok (.aload_n 0, 1) := by decide +kernel
theorem dX10_twice_14 : decode cX10_twice 14 = .ok (.getfield 12, 3) := by decide +kernel
theorem dX10_twice_17 : decode cX10_twice 17 = .ok (.getfield 94, 3) := by decide +kernel
theorem dX10_twice_20 : decode cX10_twice 20 = .ok (.iload_n 1, 1) := by decide +kernel
theorem dX10_twice_21 : decode cX10_twice 21 = .ok (.iload_n 2, 1) := by decide +kernel
theorem dX10_twice_22 : decode cX10_twice 22 = .ok (.invokevirtual 289, 3) := by decide +kernel
theorem dX10_twice_25 : decode cX10_twice 25 = .ok (.goto 4, 3) := by decide +kernel
theorem dX10_twice_28 : decode cX10_twice 28 = .ok (.iconst (-1), 1) := by decide +kernel
theorem dX10_twice_29 : decode cX10_twice 29 = .ok (.ireturn, 1) := by decide +kernel
theorem dX10_who_0 : decode cX10_who 0 = .ok (.aload_n 0, 1) := by decide +kernel
theorem dX10_who_1 : decode cX10_who 1 = .ok (.iload_n 1, 1) := by decide +kernel
theorem dX10_who_2 : decode cX10_who 2 = .ok (.iload_n 2, 1) := by decide +kernel
theorem dX10_who_3 : decode cX10_who 3 = .ok (.invokevirtual 68, 3) := by decide +kernel
theorem dX10_who_6 : decode cX10_who 6 = .ok (.ifCond .eq 31, 3) := by decide +kernel
theorem dX10_who_9 : decode cX10_who 9 = .ok (.iload_n 3, 1) := by decide +kernel
theorem dX10_who_10 : decode cX10_who 10 = .ok (.invokestatic 85, 3) := by decide +kernel
theorem dX10_who_13 : decode cX10_who 13 = .ok (.ifCond .eq 24, 3) := by decide +kernel
theorem dX10_who_16 : decode cX10_who 16 = .ok (.iload 4, 2) := by decide +kernel
theorem dX10_who_18 : decode cX10_who 18 = .ok (.iconst 0, 1) := by decide +kernel
theorem dX10_who_19 : decode cX10_who 19 = .ok (.iconst 2, 1) := by decide +kernel
theorem dX10_who_20 : decode cX10_who 20 = .ok (.invokestatic 60, 3) := by decide +kernel
theorem dX10_who_23 : decode cX10_who 23 = .ok (.ifCond .eq 14, 3) := by decide +kernel
theorem dX10_who_26 : decode cX10_who 26 = .ok (.iload 5, 2) := by decide +kernel
theorem dX10_who_28 : decode cX10_who 28 = .ok (.iconst 0, 1) := by decide +kernel
theorem dX10_who_29 : decode cX10_who 29 = .ok (.bipush 14, 2) := by decide +kernel
theorem dX10_who_31 : decode cX10_who 31 = .ok (.invokestatic 60, 3) := by decide +kernel
theorem dX10_who_34 : decode cX10_who 34 = .ok (.ifCond .ne 7, 3) := by decide +kernel
theorem dX10_who_37 : decode cX10_who 37 = .ok (.ldc2_w 205, 3) := by decide +kernel
theorem dX10_who_40 : decode cX10_who 40 = .ok (.lreturn, 1) := by decide +kernel
theorem dX10_who_41 : decode cX10_who 41 = .ok (.aload_n 0, 1) := by decide +kernel
theorem dX10_who_42 : decode cX10_who 42 = .ok (.iload_n 1, 1) := by decide +kernel
theorem dX10_who_43 : decode cX10_who 43 = .ok (.iload_n 2, 1) := by decide +kernel
theorem dX10_who_44 : decode cX10_who 44 = .ok (.iload_n 3, 1) := by decide +kernel
theorem dX10_who_45 : decode cX10_who 45 = .ok (.invokevirtual 170, 3) := by decide +kernel
theorem dX10_who_48 : decode cX10_who 48 = .ok (.aload_n 0, 1) := by decide +kernel
theorem dX10_who_49 : decode cX10_who 49 = .ok (.getfield 21, 3) := by decide +kernel
theorem dX10_who_52 : decode cX10_who 52 = .ok (.iload_n 2, 1) := by decide +kernel
theorem dX10_who_53 : decode cX10_who 53 = .ok (.iload_n 2, 1) := by decide +kernel
theorem dX10_who_54 : decode cX10_who 54 = .ok (.invokevirtual 211, 3) := by decide +kernel
theorem dX10_who_57 : decode cX10_who 57 = .ok (.aload_n 0, 1) := by decide +kernel
theorem dX10_who_58 : decode cX10_who 58 = .ok (.getfield 12, 3) := by decide +kernel
theorem dX10_who_61 : decode cX10_who 61 = .ok (.aload_n 0, 1) := by decide +kernel
theorem dX10_who_62 : decode cX10_who 62 = .ok (.getfield 21, 3) := by decide +kernel
theorem dX10_who_65 : decode cX10_who 65 = .ok (.iload_n 2, 1) := by decide +kernel
theorem dX10_who_66 : decode cX10_who 66 = .ok (.iload 5, 2) := by decide +kernel
theorem dX10_who_68 : decode cX10_who 68 = .ok (.invokevirtual 215, 3) := by decide +kernel
theorem dX10_who_71 : decode cX10_who 71 = .ok (.iload 4, 2) := by decide +kernel
theorem dX10_who_73 : decode cX10_who 73 = .ok (.iload_n 1, 1) := by decide +kernel
theorem dX10_who_74 : decode cX10_who 74 = .ok (.iload_n 2, 1) := by decide +kernel
theorem dX10_who_75 : decode cX10_who 75 = .ok (.iload_n 3, 1) := by decide +kernel
theorem dX10_who_76 : decode cX10_who 76 = .ok (.invokevirtual 230, 3) := by decide +kernel
theorem dX10_who_79 : decode cX10_who 79 = .ok (.lreturn, 1) := by decide +kernel
theorem dX10_count_0 : decode cX10_count 0 = .ok (.iload_n 1, 1) := by decide +kernel
theorem dX10_count_1 : decode cX10_count 1 = .ok (.tableswitch 158 0 10 #[59, 67, 75, 86, 97, 108, 119, 130, 135, 148, 153], 59) := by decide +kernel
theorem dX10_count_60 : decode cX10_count 60 = .ok (.aload_n 0, 1) := by decide +kernel
theorem dX10_count_61 : decode cX10_count 61 = .ok (.getfield 12, 3) := by decide +kernel
theorem dX10_count_64 : decode cX10_count 64 = .ok (.getfield 55, 3) := by decide +kernel
theorem dX10_count_67 : decode cX10_count 67 = .ok (.ireturn, 1) := by decide +kernel
theorem dX10_count_68 : decode cX10_count 68 = .ok (.aload_n 0, 1) := by decide +kernel
theorem dX10_count_69 : decode cX10_count 69 = .ok (.getfield 12, 3) := by decide +kernel
theorem dX10_count_72 : decode cX10_count 72 = .ok (.getfield 292, 3) := by decide +kernel
theorem dX10_count_75 : decode cX10_count 75 = .ok (.ireturn, 1) := by decide +kernel
theorem dX10_count_76 : decode cX10_count 76 = .ok (.aload_n 0, 1) := by decide +kernel
theorem dX10_count_77 : decode cX10_count 77 = .ok (.getfield 12, 3) := by decide +kernel
theorem dX10_count_80 : decode cX10_count 80 = .ok (.getfield 75, 3) := by decide +kernel
theorem dX10_count_83 : decode cX10_count 83 = .ok (.getfield 295, 3) := by decide +kernel
theorem dX10_count_86 : decode cX10_count 86 = .ok (.ireturn, 1) := by decide +kernel
theorem dX10_count_87 : decode cX10_count 87 = .ok (.aload_n 0, 1) := by decide +kernel
theorem dX10_count_88 : decode cX10_count 88 = .ok (.getfield 12, 3) := by decide +kernel
theorem dX10_count_91 : decode cX10_count 91 = .ok (.getfield 94, 3) := by decide +kernel
theorem dX10_count_94 : decode cX10_count 94 = .ok (.getfield 298, 3) := by decide +kernel
theorem dX10_count_97 : decode cX10_count 97 = .ok (.ireturn, 1) := by decide +kernel
theorem dX10_count_98 : decode cX10_count 98 = .ok (.aload_n 0, 1) := by decide +kernel
theorem dX10_count_99 : decode cX10_count 99 = .ok (.getfield 12, 3) := by decide +kernel
theorem dX10_count_102 : decode cX10_count 102 = .ok (.getfield 94, 3) := by decide +kernel
theorem dX10_count_105 : decode cX10_count 105 = .ok (.getfield 299, 3) := by decide +kernel
theorem dX10_count_108 : decode cX10_count 108 = .ok (.ireturn, 1) := by decide +kernel
theorem dX10_count_109 : decode cX10_count 109 = .ok (.aload_n 0, 1) := by decide +kernel
theorem dX10_count_110 : decode cX10_count 110 = .ok (.getfield 12, 3) := by decide +kernel
theorem dX10_count_113 : decode cX10_count 113 = .ok (.getfield 109, 3) := by decide +kernel
theorem dX10_count_116 : decode cX10_count 116 = .ok (.getfield 302, 3) := by decide +kernel
theorem dX10_count_119 : decode cX10_count 119 = .ok (.ireturn, 1) := by decide +kernel
theorem dX10_count_120 : decode cX10_count 120 = .ok (.aload_n 0, 1) := by decide +kernel
theorem dX10_count_121 : decode cX10_count 121 = .ok (.getfield 12, 3) := by decide +kernel
theorem dX10_count_124 : decode cX10_count 124 = .ok (.getfield 116, 3) := by decide +kernel
theorem dX10_count_127 : decode cX10_count 127 = .ok (.getfield 302, 3) := by decide +kernel
theorem dX10_count_130 : decode cX10_count 130 = .ok (.ireturn, 1) := by decide +kernel
theorem dX10_count_131 : decode cX10_count 131 = .ok (.aload_n 0, 1) := by decide +kernel
theorem dX10_count_132 : decode cX10_count 132 = .ok (.getfield 129, 3) := by decide +kernel
theorem dX10_count_135 : decode cX10_count 135 = .ok (.ireturn, 1) := by decide +kernel
theorem dX10_count_136 : decode cX10_count 136 = .ok (.aload_n 0, 1) := by decide +kernel
theorem dX10_count_137 : decode cX10_count 137 = .ok (.getfield 150, 3) := by decide +kernel
theorem dX10_count_140 : decode cX10_count 140 = .ok (.ifnonnull 7, 3) := by decide +kernel
theorem dX10_count_143 : decode cX10_count 143 = .ok (.iconst 0, 1) := by decide +kernel
theorem dX10_count_144 : decode cX10_count 144 = .ok (.goto 4, 3) := by decide +kernel
theorem dX10_count_147 : decode cX10_count 147 = .ok (.iconst 1, 1) := by decide +kernel
theorem dX10_count_148 : decode cX10_count 148 = .ok (.ireturn, 1) := by decide +kernel
theorem dX10_count_149 : decode cX10_count 149 = .ok (.aload_n 0, 1) := by decide +kernel
theorem dX10_count_150 : decode cX10_count 150 = .ok (.getfield 119, 3) := by decide +kernel
theorem dX10_count_153 : decode cX10_count 153 = .ok (.ireturn, 1) := by decide +kernel
theorem dX10_count_154 : decode cX10_count 154 = .ok (.aload_n 0, 1) := by decide +kernel
theorem dX10_count_155 : decode cX10_count 155 = .ok (.getfield 274, 3) := by decide +kernel
theorem dX10_count_158 : decode cX10_count 158 = .ok (.ireturn, 1) := by decide +kernel
theorem dX10_count_159 : decode cX10_count 159 = .ok (.iconst (-1), 1) := by decide +kernel
theorem dX10_count_160 : decode cX10_count 160 = .ok (.ireturn, 1) := by decide +kernel
theorem dX10_isFirm_0 : decode cX10_isFirm 0 = .ok (.iload_n 1, 1) := by decide +kernel
theorem dX10_isFirm_1 : decode cX10_isFirm 1 = .ok (.ifCond .lt 18, 3) := by decide +kernel
theorem dX10_isFirm_4 : decode cX10_isFirm 4 = .ok (.iload_n 1, 1) := by decide +kernel
theorem dX10_isFirm_5 : decode cX10_isFirm 5 = .ok (.aload_n 0, 1) := by decide +kernel
theorem dX10_isFirm_6 : decode cX10_isFirm 6 = .ok (.getfield 12, 3) := by decide +kernel
theorem dX10_isFirm_9 : decode cX10_isFirm 9 = .ok (.getfield 292, 3) := by decide +kernel
theorem dX10_isFirm_12 : decode cX10_isFirm 12 = .ok (.if_icmp .ge 7, 3) := by decide +kernel
theorem dX10_isFirm_15 : decode cX10_isFirm 15 = .ok (.iconst 1, 1) := by decide +kernel
theorem dX10_isFirm_16 : decode cX10_isFirm 16 = .ok (.goto 4, 3) := by decide +kernel
theorem dX10_isFirm_19 : decode cX10_isFirm 19 = .ok (.iconst 0, 1) := by decide +kernel
theorem dX10_isFirm_20 : decode cX10_isFirm 20 = .ok (.ireturn, 1) := by decide +kernel
theorem dX10_isFirmsYear_0 : decode cX10_isFirmsYear 0 = .ok (.aload_n 0, 1) := by decide +kernel
theorem dX10_isFirmsYear_1 : decode cX10_isFirmsYear 1 = .ok (.iload_n 1, 1) := by decide +kernel
theorem dX10_isFirmsYear_2 : decode cX10_isFirmsYear 2 = .ok (.invokevirtual 187, 3) := by decide +kernel
theorem dX10_isFirmsYear_5 : decode cX10_isFirmsYear 5 = .ok (.ifCond .eq 17, 3) := by decide +kernel
theorem dX10_isFirmsYear_8 : decode cX10_isFirmsYear 8 = .ok (.iload_n 2, 1) := by decide +kernel
theorem dX10_isFirmsYear_9 : decode cX10_isFirmsYear 9 = .ok (.iconst 0, 1) := by decide +kernel
theorem dX10_isFirmsYear_10 : decode cX10_isFirmsYear 10 = .ok (.bipush 14, 2) := by decide +kernel
theorem dX10_isFirmsYear_12 : decode cX10_isFirmsYear 12 = .ok (.invokestatic 60, 3) := by decide +kernel
theorem dX10_isFirmsYear_15 : decode cX10_isFirmsYear 15 = .ok (.ifCond .eq 7, 3) := by decide +kernel
theorem dX10_isFirmsYear_18 : decode cX10_isFirmsYear 18 = .ok (.iconst 1, 1) := by decide +kernel
theorem dX10_isFirmsYear_19 : decode cX10_isFirmsYear 19 = .ok (.goto 4, 3) := by decide +kernel
theorem dX10_isFirmsYear_22 : decode cX10_isFirmsYear 22 = .ok (.iconst 0, 1) := by decide +kernel
theorem dX10_isFirmsYear_23 : decode cX10_isFirmsYear 23 = .ok (.ireturn, 1) := by decide +kernel
theorem dX10_isWithin_0 : decode cX10_isWithin 0 = .ok (.iload_n 0, 1) := by decide +kernel
theorem dX10_isWithin_1 : decode cX10_isWithin 1 = .ok (.iload_n 1, 1) := by decide +kernel
theorem dX10_isWithin_2 : decode cX10_isWithin 2 = .ok (.if_icmp .lt 12, 3) := by decide +kernel
theorem dX10_isWithin_5 : decode cX10_isWithin 5 = .ok (.iload_n 0, 1) := by decide +kernel
theorem dX10_isWithin_6 : decode cX10_isWithin 6 = .ok (.iload_n 2, 1) := by decide +kernel
theorem dX10_isWithin_7 : decode cX10_isWithin 7 = .ok (.if_icmp .gt 7, 3) := by decide +kernel
theorem dX10_isWithin_10 : decode cX10_isWithin 10 = .ok (.iconst 1, 1) := by decide +kernel
theorem dX10_isWithin_11 : decode cX10_isWithin 11 = .ok (.goto 4, 3) := by decide +kernel
theorem dX10_isWithin_14 : decode cX10_isWithin 14 = .ok (.iconst 0, 1) := by decide +kernel
theorem dX10_isWithin_15 : decode cX10_isWithin 15 = .ok (.ireturn, 1) := by decide +kernel
theorem dX10_isDay_0 : decode cX10_isDay 0 = .ok (.iload_n 0, 1) := by decide +kernel
theorem dX10_isDay_1 : decode cX10_isDay 1 = .ok (.iconst 0, 1) := by decide +kernel
theorem dX10_isDay_2 : decode cX10_isDay 2 = .ok (.sipush 1499, 3) := by decide +kernel
theorem dX10_isDay_5 : decode cX10_isDay 5 = .ok (.invokestatic 60, 3) := by decide +kernel
theorem dX10_isDay_8 : decode cX10_isDay 8 = .ok (.ireturn, 1) := by decide +kernel
theorem dX10_isReview_0 : decode cX10_isReview 0 = .ok (.iload_n 0, 1) := by decide +kernel
theorem dX10_isReview_1 : decode cX10_isReview 1 = .ok (.iconst 0, 1) := by decide +kernel
theorem dX10_isReview_2 : decode cX10_isReview 2 = .ok (.iconst 2, 1) := by decide +kernel
theorem dX10_isReview_3 : decode cX10_isReview 3 = .ok (.invokestatic 60, 3) := by decide +kernel
theorem dX10_isReview_6 : decode cX10_isReview 6 = .ok (.ireturn, 1) := by decide +kernel
theorem dX10_isHead_0 : decode cX10_isHead 0 = .ok (.iload_n 0, 1) := by decide +kernel
theorem dX10_isHead_1 : decode cX10_isHead 1 = .ok (.iconst 0, 1) := by decide +kernel
theorem dX10_isHead_2 : decode cX10_isHead 2 = .ok (.iconst 3, 1) := by decide +kernel
theorem dX10_isHead_3 : decode cX10_isHead 3 = .ok (.invokestatic 60, 3) := by decide +kernel
theorem dX10_isHead_6 : decode cX10_isHead 6 = .ok (.ireturn, 1) := by decide +kernel
theorem dX10_isDriver_0 : decode cX10_isDriver 0 = .ok (.iload_n 0, 1) := by decide +kernel
theorem dX10_isDriver_1 : decode cX10_isDriver 1 = .ok (.iconst 0, 1) := by decide +kernel
theorem dX10_isDriver_2 : decode cX10_isDriver 2 = .ok (.iconst 2, 1) := by decide +kernel
theorem dX10_isDriver_3 : decode cX10_isDriver 3 = .ok (.invokestatic 60, 3) := by decide +kernel
theorem dX10_isDriver_6 : decode cX10_isDriver 6 = .ok (.ireturn, 1) := by decide +kernel
theorem dX10_isOfKind_0 : decode cX10_isOfKind 0 = .ok (.iload_n 0, 1) := by decide +kernel
theorem dX10_isOfKind_1 : decode cX10_isOfKind 1 = .ok (.ifCond .eq 8, 3) := by decide +kernel
theorem dX10_isOfKind_4 : decode cX10_isOfKind 4 = .ok (.iload_n 0, 1) := by decide +kernel
theorem dX10_isOfKind_5 : decode cX10_isOfKind 5 = .ok (.iconst 1, 1) := by decide +kernel
theorem dX10_isOfKind_6 : decode cX10_isOfKind 6 = .ok (.if_icmp .ne 8, 3) := by decide +kernel
theorem dX10_isOfKind_9 : decode cX10_isOfKind 9 = .ok (.iload_n 1, 1) := by decide +kernel
theorem dX10_isOfKind_10 : decode cX10_isOfKind 10 = .ok (.invokestatic 106, 3) := by decide +kernel
theorem dX10_isOfKind_13 : decode cX10_isOfKind 13 = .ok (.ireturn, 1) := by decide +kernel
theorem dX10_isOfKind_14 : decode cX10_isOfKind 14 = .ok (.iload_n 0, 1) := by decide +kernel
theorem dX10_isOfKind_15 : decode cX10_isOfKind 15 = .ok (.iconst 2, 1) := by decide +kernel
theorem dX10_isOfKind_16 : decode cX10_isOfKind 16 = .ok (.if_icmp .ne 12, 3) := by decide +kernel
theorem dX10_isOfKind_19 : decode cX10_isOfKind 19 = .ok (.iload_n 1, 1) := by decide +kernel
theorem dX10_isOfKind_20 : decode cX10_isOfKind 20 = .ok (.iconst 0, 1) := by decide +kernel
theorem dX10_isOfKind_21 : decode cX10_isOfKind 21 = .ok (.iconst 2, 1) := by decide +kernel
theorem dX10_isOfKind_22 : decode cX10_isOfKind 22 = .ok (.invokestatic 60, 3) := by decide +kernel
theorem dX10_isOfKind_25 : decode cX10_isOfKind 25 = .ok (.ifCond .eq 7, 3) := by decide +kernel
theorem dX10_isOfKind_28 : decode cX10_isOfKind 28 = .ok (.iconst 1, 1) := by decide +kernel
theorem dX10_isOfKind_29 : decode cX10_isOfKind 29 = .ok (.goto 4, 3) := by decide +kernel
theorem dX10_isOfKind_32 : decode cX10_isOfKind 32 = .ok (.iconst 0, 1) := by decide +kernel
theorem dX10_isOfKind_33 : decode cX10_isOfKind 33 = .ok (.ireturn, 1) := by decide +kernel
theorem dX10_mostOfFact_0 : decode cX10_mostOfFact 0 = .ok (.iload_n 0, 1) := by decide +kernel
theorem dX10_mostOfFact_1 : decode cX10_mostOfFact 1 = .ok (.iconst 3, 1) := by decide +kernel
theorem dX10_mostOfFact_2 : decode cX10_mostOfFact 2 = .ok (.if_icmp .ge 7, 3) := by decide +kernel
theorem dX10_mostOfFact_5 : decode cX10_mostOfFact 5 = .ok (.sipush 999, 3) := by decide +kernel
theorem dX10_mostOfFact_8 : decode cX10_mostOfFact 8 = .ok (.ireturn, 1) := by decide +kernel
theorem dX10_mostOfFact_9 : decode cX10_mostOfFact 9 = .ok (.iload_n 0, 1) := by decide +kernel
theorem dX10_mostOfFact_10 : decode cX10_mostOfFact 10 = .ok (.bipush 11, 2) := by decide +kernel
theorem dX10_mostOfFact_12 : decode cX10_mostOfFact 12 = .ok (.if_icmp .ge 8, 3) := by decide +kernel
theorem dX10_mostOfFact_15 : decode cX10_mostOfFact 15 = .ok (.ldc 93, 2) := by decide +kernel
theorem dX10_mostOfFact_17 : decode cX10_mostOfFact 17 = .ok (.goto 6, 3) := by decide +kernel
theorem dX10_mostOfFact_20 : decode cX10_mostOfFact 20 = .ok (.sipush 9999, 3) := by decide +kernel
theorem dX10_mostOfFact_23 : decode cX10_mostOfFact 23 = .ok (.ireturn, 1) := by decide +kernel
theorem dX10_lastYearOf_0 : decode cX10_lastYearOf 0 = .ok (.iload_n 0, 1) := by decide +kernel
theorem dX10_lastYearOf_1 : decode cX10_lastYearOf 1 = .ok (.iconst 5, 1) := by decide +kernel
theorem dX10_lastYearOf_2 : decode cX10_lastYearOf 2 = .ok (.imul, 1) := by decide +kernel
theorem dX10_lastYearOf_3 : decode cX10_lastYearOf 3 = .ok (.iconst 5, 1) := by decide +kernel
theorem dX10_lastYearOf_4 : decode cX10_lastYearOf 4 = .ok (.iadd, 1) := by decide +kernel
theorem dX10_lastYearOf_5 : decode cX10_lastYearOf 5 = .ok (.iconst 1, 1) := by decide +kernel
theorem dX10_lastYearOf_6 : decode cX10_lastYearOf 6 = .ok (.isub, 1) := by decide +kernel
theorem dX10_lastYearOf_7 : decode cX10_lastYearOf 7 = .ok (.ireturn, 1) := by decide +kernel
theorem dX10_tapeNumber_0 : decode cX10_tapeNumber 0 = .ok (.bipush 24, 2) := by decide +kernel
theorem dX10_tapeNumber_2 : decode cX10_tapeNumber 2 = .ok (.istore_n 2, 1) := by decide +kernel
theorem dX10_tapeNumber_3 : decode cX10_tapeNumber 3 = .ok (.iload_n 2, 1) := by decide +kernel
theorem dX10_tapeNumber_4 : decode cX10_tapeNumber 4 = .ok (.ifCond .lt 45, 3) := by decide +kernel
theorem dX10_tapeNumber_7 : decode cX10_tapeNumber 7 = .ok (.aload_n 0, 1) := by decide +kernel
theorem dX10_tapeNumber_8 : decode cX10_tapeNumber 8 = .ok (.getfield 119, 3) := by decide +kernel
theorem dX10_tapeNumber_11 : decode cX10_tapeNumber 11 = .ok (.sipush 900, 3) := by decide +kernel
theorem dX10_tapeNumber_14 : decode cX10_tapeNumber 14 = .ok (.if_icmp .ge 29, 3) := by decide +kernel
theorem dX10_tapeNumber_17 : decode cX10_tapeNumber 17 = .ok (.aload_n 0, 1) := by decide +kernel
theorem dX10_tapeNumber_18 : decode cX10_tapeNumber 18 = .ok (.getfield 39, 3) := by decide +kernel
theorem dX10_tapeNumber_21 : decode cX10_tapeNumber 21 = .ok (.aload_n 0, 1) := by decide +kernel
theorem dX10_tapeNumber_22 : decode cX10_tapeNumber 22 = .ok (.getfield 119, 3) := by decide +kernel
theorem dX10_tapeNumber_25 : decode cX10_tapeNumber 25 = .ok (.iload_n 1, 1) := by decide +kernel
theorem dX10_tapeNumber_26 : decode cX10_tapeNumber 26 = .ok (.iload_n 2, 1) := by decide +kernel
theorem dX10_tapeNumber_27 : decode cX10_tapeNumber 27 = .ok (.iushr, 1) := by decide +kernel
theorem dX10_tapeNumber_28 : decode cX10_tapeNumber 28 = .ok (.sipush 255, 3) := by decide +kernel
theorem dX10_tapeNumber_31 : decode cX10_tapeNumber 31 = .ok (.iand, 1) := by decide +kernel
theorem dX10_tapeNumber_32 : decode cX10_tapeNumber 32 = .ok (.iastore, 1) := by decide +kernel
theorem dX10_tapeNumber_33 : decode cX10_tapeNumber 33 = .ok (.aload_n 0, 1) := by decide +kernel
theorem dX10_tapeNumber_34 : decode cX10_tapeNumber 34 = .ok (.dup, 1) := by decide +kernel
theorem dX10_tapeNumber_35 : decode cX10_tapeNumber 35 = .ok (.getfield 119, 3) := by decide +kernel
theorem dX10_tapeNumber_38 : decode cX10_tapeNumber 38 = .ok (.iconst 1, 1) := by decide +kernel
theorem dX10_tapeNumber_39 : decode cX10_tapeNumber 39 = .ok (.iadd, 1) := by decide +kernel
theorem dX10_tapeNumber_40 : decode cX10_tapeNumber 40 = .ok (.putfield 119, 3) := by decide +kernel
theorem dX10_tapeNumber_43 : decode cX10_tapeNumber 43 = .ok (.iinc 2 (-8), 3) := by decide +kernel
theorem dX10_tapeNumber_46 : decode cX10_tapeNumber 46 = .ok (.goto (-43), 3) := by decide +kernel
theorem dX10_tapeNumber_49 : decode cX10_tapeNumber 49 = .ok (.return_, 1) := by decide +kernel
theorem dX10_takenOf_0 : decode cX10_takenOf 0 = .ok (.iconst (-1), 1) := by decide +kernel
theorem dX10_takenOf_1 : decode cX10_takenOf 1 = .ok (.istore_n 3, 1) := by decide +kernel
theorem dX10_takenOf_2 : decode cX10_takenOf 2 = .ok (.iconst (-1), 1) := by decide +kernel
theorem dX10_takenOf_3 : decode cX10_takenOf 3 = .ok (.istore 4, 2) := by decide +kernel
theorem dX10_takenOf_5 : decode cX10_takenOf 5 = .ok (.iconst 0, 1) := by decide +kernel
theorem dX10_takenOf_6 : decode cX10_takenOf 6 = .ok (.istore 5, 2) := by decide +kernel
theorem dX10_takenOf_8 : decode cX10_takenOf 8 = .ok (.iload 5, 2) := by decide +kernel
theorem dX10_takenOf_10 : decode cX10_takenOf 10 = .ok (.aload_n 0, 1) := by decide +kernel
theorem dX10_takenOf_11 : decode cX10_takenOf 11 = .ok (.getfield 129, 3) := by decide +kernel
theorem dX10_takenOf_14 : decode cX10_takenOf 14 = .ok (.if_icmp .ge 60, 3) := by decide +kernel
theorem dX10_takenOf_17 : decode cX10_takenOf 17 = .ok (.aload_n 0, 1) := by decide +kernel
theorem dX10_takenOf_18 : decode cX10_takenOf 18 = .ok (.iload 5, 2) := by decide +kernel
theorem dX10_takenOf_20 : decode cX10_takenOf 20 = .ok (.invokevirtual 136, 3) := by decide +kernel
theorem dX10_takenOf_23 : decode cX10_takenOf 23 = .ok (.astore 6, 2) := by decide +kernel
theorem dX10_takenOf_25 : decode cX10_takenOf 25 = .ok (.aload 6, 2) := by decide +kernel
theorem dX10_takenOf_27 : decode cX10_takenOf 27 = .ok (.ifnull 41, 3) := by decide +kernel
theorem dX10_takenOf_30 : decode cX10_takenOf 30 = .ok (.aload 6, 2) := by decide +kernel
theorem dX10_takenOf_32 : decode cX10_takenOf 32 = .ok (.getfield 147, 3) := by decide +kernel
theorem dX10_takenOf_35 : decode cX10_takenOf 35 = .ok (.iload_n 2, 1) := by decide +kernel
theorem dX10_takenOf_36 : decode cX10_takenOf 36 = .ok (.if_icmp .gt 32, 3) := by decide +kernel
theorem dX10_takenOf_39 : decode cX10_takenOf 39 = .ok (.aload 6, 2) := by decide +kernel
theorem dX10_takenOf_41 : decode cX10_takenOf 41 = .ok (.getfield 144, 3) := by decide +kernel
theorem dX10_takenOf_44 : decode cX10_takenOf 44 = .ok (.iload_n 1, 1) := by decide +kernel
theorem dX10_takenOf_45 : decode cX10_takenOf 45 = .ok (.if_icmp .gt 23, 3) := by decide +kernel
theorem dX10_takenOf_48 : decode cX10_takenOf 48 = .ok (.aload 6, 2) := by decide +kernel
theorem dX10_takenOf_50 : decode cX10_takenOf 50 = .ok (.getfield 144, 3) := by decide +kernel
theorem dX10_takenOf_53 : decode cX10_takenOf 53 = .ok (.iload 4, 2) := by decide +kernel
theorem dX10_takenOf_55 : decode cX10_takenOf 55 = .ok (.if_icmp .lt 13, 3) := by decide +kernel
theorem dX10_takenOf_58 : decode cX10_takenOf 58 = .ok (.iload 5, 2) := by decide +kernel
theorem dX10_takenOf_60 : decode cX10_takenOf 60 = .ok (.istore_n 3, 1) := by decide +kernel
theorem dX10_takenOf_61 : decode cX10_takenOf 61 = .ok (.aload 6, 2) := by decide +kernel
theorem dX10_takenOf_63 : decode cX10_takenOf 63 = .ok (.getfield 144, 3) := by decide +kernel
theorem dX10_takenOf_66 : decode cX10_takenOf 66 = .ok (.istore 4, 2) := by decide +kernel
theorem dX10_takenOf_68 : decode cX10_takenOf 68 = .ok (.iinc 5 1, 3) := by decide +kernel
theorem dX10_takenOf_71 : decode cX10_takenOf 71 = .ok (.goto (-63), 3) := by decide +kernel
theorem dX10_takenOf_74 : decode cX10_takenOf 74 = .ok (.iload_n 3, 1) := by decide +kernel
theorem dX10_takenOf_75 : decode cX10_takenOf 75 = .ok (.ireturn, 1) := by decide +kernel
theorem dX10_takenAt_0 : decode cX10_takenAt 0 = .ok (.iload_n 1, 1) := by decide +kernel
theorem dX10_takenAt_1 : decode cX10_takenAt 1 = .ok (.ifCond .lt 26, 3) := by decide +kernel
theorem dX10_takenAt_4 : decode cX10_takenAt 4 = .ok (.iload_n 1, 1) := by decide +kernel
theorem dX10_takenAt_5 : decode cX10_takenAt 5 = .ok (.aload_n 0, 1) := by decide +kernel
theorem dX10_takenAt_6 : decode cX10_takenAt 6 = .ok (.getfield 129, 3) := by decide +kernel
theorem dX10_takenAt_9 : decode cX10_takenAt 9 = .ok (.if_icmp .ge 18, 3) := by decide +kernel
theorem dX10_takenAt_12 : decode cX10_takenAt 12 = .ok (.iload_n 1, 1) := by decide +kernel
theorem dX10_takenAt_13 : decode cX10_takenAt 13 = .ok (.bipush 8, 2) := by decide +kernel
theorem dX10_takenAt_15 : decode cX10_takenAt 15 = .ok (.if_icmp .ge 12, 3) := by decide +kernel
theorem dX10_takenAt_18 : decode cX10_takenAt 18 = .ok (.aload_n 0, 1) := by decide +kernel
theorem dX10_takenAt_19 : decode cX10_takenAt 19 = .ok (.getfield 45, 3) := by decide +kernel
theorem dX10_takenAt_22 : decode cX10_takenAt 22 = .ok (.iload_n 1, 1) := by decide +kernel
theorem dX10_takenAt_23 : decode cX10_takenAt 23 = .ok (.aaload, 1) := by decide +kernel
theorem dX10_takenAt_24 : decode cX10_takenAt 24 = .ok (.goto 4, 3) := by decide +kernel
theorem dX10_takenAt_27 : decode cX10_takenAt 27 = .ok (.aconst_null, 1) := by decide +kernel
theorem dX10_takenAt_28 : decode cX10_takenAt 28 = .ok (.areturn, 1) := by decide +kernel
theorem dX10_useOwnRules_0 : decode cX10_useOwnRules 0 = .ok (.iconst 0, 1) := by decide +kernel
theorem dX10_useOwnRules_1 : decode cX10_useOwnRules 1 = .ok (.istore_n 1, 1) := by decide +kernel
theorem dX10_useOwnRules_2 : decode cX10_useOwnRules 2 = .ok (.iload_n 1, 1) := by decide +kernel
theorem dX10_useOwnRules_3 : decode cX10_useOwnRules 3 = .ok (.iconst 3, 1) := by decide +kernel
theorem dX10_useOwnRules_4 : decode cX10_useOwnRules 4 = .ok (.if_icmp .ge 31, 3) := by decide +kernel
theorem dX10_useOwnRules_7 : decode cX10_useOwnRules 7 = .ok (.aload_n 0, 1) := by decide +kernel
theorem dX10_useOwnRules_8 : decode cX10_useOwnRules 8 = .ok (.getfield 21, 3) := by decide +kernel
theorem dX10_useOwnRules_11 : decode cX10_useOwnRules 11 = .ok (.iload_n 1, 1) := by decide +kernel
theorem dX10_useOwnRules_12 : decode cX10_useOwnRules 12 = .ok (.aload_n 0, 1) := by decide +kernel
theorem dX10_useOwnRules_13 : decode cX10_useOwnRules 13 = .ok (.aload_n 0, 1) := by decide +kernel
theorem dX10_useOwnRules_14 : decode cX10_useOwnRules 14 = .ok (.iload_n 1, 1) := by decide +kernel
theorem dX10_useOwnRules_15 : decode cX10_useOwnRules 15 = .ok (.iload_n 1, 1) := by decide +kernel
theorem dX10_useOwnRules_16 : decode cX10_useOwnRules 16 = .ok (.sipush 500, 3) := by decide +kernel
theorem dX10_useOwnRules_19 : decode cX10_useOwnRules 19 = .ok (.imul, 1) := by decide +kernel
theorem dX10_useOwnRules_20 : decode cX10_useOwnRules 20 = .ok (.invokevirtual 132, 3) := by decide +kernel
theorem dX10_useOwnRules_23 : decode cX10_useOwnRules 23 = .ok (.invokevirtual 136, 3) := by decide +kernel
theorem dX10_useOwnRules_26 : decode cX10_useOwnRules 26 = .ok (.invokevirtual 240, 3) := by decide +kernel
theorem dX10_useOwnRules_29 : decode cX10_useOwnRules 29 = .ok (.iinc 1 1, 3) := by decide +kernel
theorem dX10_useOwnRules_32 : decode cX10_useOwnRules 32 = .ok (.goto (-30), 3) := by decide +kernel
theorem dX10_useOwnRules_35 : decode cX10_useOwnRules 35 = .ok (.return_, 1) := by decide +kernel
theorem dX10_openOwn_0 : decode cX10_openOwn 0 = .ok (.aload_n 0, 1) := by decide +kernel
theorem dX10_openOwn_1 : decode cX10_openOwn 1 = .ok (.invokevirtual 237, 3) := by decide +kernel
theorem dX10_openOwn_4 : decode cX10_openOwn 4 = .ok (.aload_n 0, 1) := by decide +kernel
theorem dX10_openOwn_5 : decode cX10_openOwn 5 = .ok (.getfield 21, 3) := by decide +kernel
theorem dX10_openOwn_8 : decode cX10_openOwn 8 = .ok (.iload_n 1, 1) := by decide +kernel
theorem dX10_openOwn_9 : decode cX10_openOwn 9 = .ok (.iload_n 2, 1) := by decide +kernel
theorem dX10_openOwn_10 : decode cX10_openOwn 10 = .ok (.iload_n 3, 1) := by decide +kernel
theorem dX10_openOwn_11 : decode cX10_openOwn 11 = .ok (.invokevirtual 244, 3) := by decide +kernel
theorem dX10_openOwn_14 : decode cX10_openOwn 14 = .ok (.return_, 1) := by decide +kernel
theorem dX10_endOfSpan_0 : decode cX10_endOfSpan 0 = .ok (.ldc2_w 303, 3) := by decide +kernel
theorem dX10_endOfSpan_3 : decode cX10_endOfSpan 3 = .ok (.lstore_n 3, 1) := by decide +kernel
theorem dX10_endOfSpan_4 : decode cX10_endOfSpan 4 = .ok (.iconst 0, 1) := by decide +kernel
theorem dX10_endOfSpan_5 : decode cX10_endOfSpan 5 = .ok (.istore 5, 2) := by decide +kernel
theorem dX10_endOfSpan_7 : decode cX10_endOfSpan 7 = .ok (.iload 5, 2) := by decide +kernel
theorem dX10_endOfSpan_9 : decode cX10_endOfSpan 9 = .ok (.aload_n 0, 1) := by decide +kernel
theorem dX10_endOfSpan_10 : decode cX10_endOfSpan 10 = .ok (.getfield 12, 3) := by decide +kernel
theorem dX10_endOfSpan_13 : decode cX10_endOfSpan 13 = .ok (.getfield 292, 3) := by decide +kernel
theorem dX10_endOfSpan_16 : decode cX10_endOfSpan 16 = .ok (.if_icmp .ge 76, 3) := by decide +kernel
theorem dX10_endOfSpan_19 : decode cX10_endOfSpan 19 = .ok (.aload_n 0, 1) := by decide +kernel
theorem dX10_endOfSpan_20 : decode cX10_endOfSpan 20 = .ok (.getfield 28, 3) := by decide +kernel
theorem dX10_endOfSpan_23 : decode cX10_endOfSpan 23 = .ok (.iload 5, 2) := by decide +kernel
theorem dX10_endOfSpan_25 : decode cX10_endOfSpan 25 = .ok (.invokevirtual 305, 3) := by decide +kernel
theorem dX10_endOfSpan_28 : decode cX10_endOfSpan 28 = .ok (.ifCond .ne 6, 3) := by decide +kernel
theorem dX10_endOfSpan_31 : decode cX10_endOfSpan 31 = .ok (.goto 55, 3) := by decide +kernel
theorem dX10_endOfSpan_34 : decode cX10_endOfSpan 34 = .ok (.aload_n 0, 1) := by decide +kernel
theorem dX10_endOfSpan_35 : decode cX10_endOfSpan 35 = .ok (.getfield 28, 3) := by decide +kernel
theorem dX10_endOfSpan_38 : decode cX10_endOfSpan 38 = .ok (.iload 5, 2) := by decide +kernel
theorem dX10_endOfSpan_40 : decode cX10_endOfSpan 40 = .ok (.invokevirtual 308, 3) := by decide +kernel
theorem dX10_endOfSpan_43 : decode cX10_endOfSpan 43 = .ok (.aload_n 0, 1) := by decide +kernel
theorem dX10_endOfSpan_44 : decode cX10_endOfSpan 44 = .ok (.getfield 28, 3) := by decide +kernel
theorem dX10_endOfSpan_47 : decode cX10_endOfSpan 47 = .ok (.iload_n 1, 1) := by decide +kernel
theorem dX10_endOfSpan_48 : decode cX10_endOfSpan 48 = .ok (.i2l, 1) := by decide +kernel
theorem dX10_endOfSpan_49 : decode cX10_endOfSpan 49 = .ok (.invokevirtual 262, 3) := by decide +kernel
theorem dX10_endOfSpan_52 : decode cX10_endOfSpan 52 = .ok (.lstore 6, 2) := by decide +kernel
theorem dX10_endOfSpan_54 : decode cX10_endOfSpan 54 = .ok (.lload_n 3, 1) := by decide +kernel
theorem dX10_endOfSpan_55 : decode cX10_endOfSpan 55 = .ok (.ldc2_w 303, 3) := by decide +kernel
theorem dX10_endOfSpan_58 : decode cX10_endOfSpan 58 = .ok (.lcmp, 1) := by decide +kernel
theorem dX10_endOfSpan_59 : decode cX10_endOfSpan 59 = .ok (.ifCond .eq 24, 3) := by decide +kernel
theorem dX10_endOfSpan_62 : decode cX10_endOfSpan 62 = .ok (.iload_n 2, 1) := by decide +kernel
theorem dX10_endOfSpan_63 : decode cX10_endOfSpan 63 = .ok (.ifCond .eq 13, 3) := by decide +kernel
theorem dX10_endOfSpan_66 : decode cX10_endOfSpan 66 = .ok (.lload 6, 2) := by decide +kernel
theorem dX10_endOfSpan_68 : decode cX10_endOfSpan 68 = .ok (.lload_n 3, 1) := by decide +kernel
theorem dX10_endOfSpan_69 : decode cX10_endOfSpan 69 = .ok (.lcmp, 1) := by decide +kernel
theorem dX10_endOfSpan_70 : decode cX10_endOfSpan 70 = .ok (.ifCond .le 16, 3) := by decide +kernel
theorem dX10_endOfSpan_73 : decode cX10_endOfSpan 73 = .ok (.goto 10, 3) := by decide +kernel
theorem dX10_endOfSpan_76 : decode cX10_endOfSpan 76 = .ok (.lload 6, 2) := by decide +kernel
theorem dX10_endOfSpan_78 : decode cX10_endOfSpan 78 = .ok (.lload_n 3, 1) := by decide +kernel
theorem dX10_endOfSpan_79 : decode cX10_endOfSpan 79 = .ok (.lcmp, 1) := by decide +kernel
theorem dX10_endOfSpan_80 : decode cX10_endOfSpan 80 = .ok (.ifCond .ge 6, 3) := by decide +kernel
theorem dX10_endOfSpan_83 : decode cX10_endOfSpan 83 = .ok (.lload 6, 2) := by decide +kernel
theorem dX10_endOfSpan_85 : decode cX10_endOfSpan 85 = .ok (.lstore_n 3, 1) := by decide +kernel
theorem dX10_endOfSpan_86 : decode cX10_endOfSpan 86 = .ok (.iinc 5 1, 3) := by decide +kernel
theorem dX10_endOfSpan_89 : decode cX10_endOfSpan 89 = .ok (.goto (-82), 3) := by decide +kernel
theorem dX10_endOfSpan_92 : decode cX10_endOfSpan 92 = .ok (.lload_n 3, 1) := by decide +kernel
theorem dX10_endOfSpan_93 : decode cX10_endOfSpan 93 = .ok (.lreturn, 1) := by decide +kernel
theorem dX10_isBorneWithin_0 : decode cX10_isBorneWithin 0 = .ok (.iconst 0, 1) := by decide +kernel
theorem dX10_isBorneWithin_1 : decode cX10_isBorneWithin 1 = .ok (.istore_n 3, 1) := by decide +kernel
theorem dX10_isBorneWithin_2 : decode cX10_isBorneWithin 2 = .ok (.iload_n 3, 1) := by decide +kernel
theorem dX10_isBorneWithin_3 : decode cX10_isBorneWithin 3 = .ok (.aload_n 0, 1) := by decide +kernel
theorem dX10_isBorneWithin_4 : decode cX10_isBorneWithin 4 = .ok (.getfield 12, 3) := by decide +kernel
theorem dX10_isBorneWithin_7 : decode cX10_isBorneWithin 7 = .ok (.getfield 292, 3) := by decide +kernel
theorem dX10_isBorneWithin_10 : decode cX10_isBorneWithin 10 = .ok (.if_icmp .ge 46, 3) := by decide +kernel
theorem dX10_isBorneWithin_13 : decode cX10_isBorneWithin 13 = .ok (.aload_n 0, 1) := by decide +kernel
theorem dX10_isBorneWithin_14 : decode cX10_isBorneWithin 14 = .ok (.getfield 21, 3) := by decide +kernel
theorem dX10_isBorneWithin_17 : decode cX10_isBorneWithin 17 = .ok (.iload_n 3, 1) := by decide +kernel
theorem dX10_isBorneWithin_18 : decode cX10_isBorneWithin 18 = .ok (.iload_n 1, 1) := by decide +kernel
theorem dX10_isBorneWithin_19 : decode cX10_isBorneWithin 19 = .ok (.invokestatic 277, 3) := by decide +kernel
theorem dX10_isBorneWithin_22 : decode cX10_isBorneWithin 22 = .ok (.aload_n 0, 1) := by decide +kernel
theorem dX10_isBorneWithin_23 : decode cX10_isBorneWithin 23 = .ok (.getfield 12, 3) := by decide +kernel
theorem dX10_isBorneWithin_26 : decode cX10_isBorneWithin 26 = .ok (.getfield 55, 3) := by decide +kernel
theorem dX10_isBorneWithin_29 : decode cX10_isBorneWithin 29 = .ok (.invokevirtual 244, 3) := by decide +kernel
theorem dX10_isBorneWithin_32 : decode cX10_isBorneWithin 32 = .ok (.aload_n 0, 1) := by decide +kernel
theorem dX10_isBorneWithin_33 : decode cX10_isBorneWithin 33 = .ok (.getfield 21, 3) := by decide +kernel
theorem dX10_isBorneWithin_36 : decode cX10_isBorneWithin 36 = .ok (.iload_n 1, 1) := by decide +kernel
theorem dX10_isBorneWithin_37 : decode cX10_isBorneWithin 37 = .ok (.iconst 5, 1) := by decide +kernel
theorem dX10_isBorneWithin_38 : decode cX10_isBorneWithin 38 = .ok (.imul, 1) := by decide +kernel
theorem dX10_isBorneWithin_39 : decode cX10_isBorneWithin 39 = .ok (.invokevirtual 280, 3) := by decide +kernel
theorem dX10_isBorneWithin_42 : decode cX10_isBorneWithin 42 = .ok (.iload_n 2, 1) := by decide +kernel
theorem dX10_isBorneWithin_43 : decode cX10_isBorneWithin 43 = .ok (.i2l, 1) := by decide +kernel
theorem dX10_isBorneWithin_44 : decode cX10_isBorneWithin 44 = .ok (.lcmp, 1) := by decide +kernel
theorem dX10_isBorneWithin_45 : decode cX10_isBorneWithin 45 = .ok (.ifCond .le 5, 3) := by decide +kernel
theorem dX10_isBorneWithin_48 : decode cX10_isBorneWithin 48 = .ok (.iconst 0, 1) := by decide +kernel
theorem dX10_isBorneWithin_49 : decode cX10_isBorneWithin 49 = .ok (.ireturn, 1) := by decide +kernel
theorem dX10_isBorneWithin_50 : decode cX10_isBorneWithin 50 = .ok (.iinc 3 1, 3) := by decide +kernel
theorem dX10_isBorneWithin_53 : decode cX10_isBorneWithin 53 = .ok (.goto (-51), 3) := by decide +kernel
theorem dX10_isBorneWithin_56 : decode cX10_isBorneWithin 56 = .ok (.iconst 1, 1) := by decide +kernel
theorem dX10_isBorneWithin_57 : decode cX10_isBorneWithin 57 = .ok (.ireturn, 1) := by decide +kernel
theorem dX10_allRevenues_0 : decode cX10_allRevenues 0 = .ok (.lconst 0, 1) := by decide +kernel
theorem dX10_allRevenues_1 : decode cX10_allRevenues 1 = .ok (.lstore_n 2, 1) := by decide +kernel
theorem dX10_allRevenues_2 : decode cX10_allRevenues 2 = .ok (.iconst 0, 1) := by decide +kernel
theorem dX10_allRevenues_3 : decode cX10_allRevenues 3 = .ok (.istore 4, 2) := by decide +kernel
theorem dX10_allRevenues_5 : decode cX10_allRevenues 5 = .ok (.iload 4, 2) := by decide +kernel
theorem dX10_allRevenues_7 : decode cX10_allRevenues 7 = .ok (.aload_n 0, 1) := by decide +kernel
theorem dX10_allRevenues_8 : decode cX10_allRevenues 8 = .ok (.getfield 12, 3) := by decide +kernel
theorem dX10_allRevenues_11 : decode cX10_allRevenues 11 = .ok (.getfield 292, 3) := by decide +kernel
theorem dX10_allRevenues_14 : decode cX10_allRevenues 14 = .ok (.if_icmp .ge 75, 3) := by decide +kernel
theorem dX10_allRevenues_17 : decode cX10_allRevenues 17 = .ok (.aload_n 0, 1) := by decide +kernel
theorem dX10_allRevenues_18 : decode cX10_allRevenues 18 = .ok (.getfield 21, 3) := by decide +kernel
theorem dX10_allRevenues_21 : decode cX10_allRevenues 21 = .ok (.iload 4, 2) := by decide +kernel
theorem dX10_allRevenues_23 : decode cX10_allRevenues 23 = .ok (.iload_n 1, 1) := by decide +kernel
theorem dX10_allRevenues_24 : decode cX10_allRevenues 24 = .ok (.invokestatic 277, 3) := by decide +kernel
theorem dX10_allRevenues_27 : decode cX10_allRevenues 27 = .ok (.aload_n 0, 1) := by decide +kernel
theorem dX10_allRevenues_28 : decode cX10_allRevenues 28 = .ok (.getfield 12, 3) := by decide +kernel
theorem dX10_allRevenues_31 : decode cX10_allRevenues 31 = .ok (.getfield 55, 3) := by decide +kernel
theorem dX10_allRevenues_34 : decode cX10_allRevenues 34 = .ok (.invokevirtual 244, 3) := by decide +kernel
theorem dX10_allRevenues_37 : decode cX10_allRevenues 37 = .ok (.aload_n 0, 1) := by decide +kernel
theorem dX10_allRevenues_38 : decode cX10_allRevenues 38 = .ok (.getfield 21, 3) := by decide +kernel
theorem dX10_allRevenues_41 : decode cX10_allRevenues 41 = .ok (.iload_n 1, 1) := by decide +kernel
theorem dX10_allRevenues_42 : decode cX10_allRevenues 42 = .ok (.iconst 5, 1) := by decide +kernel
theorem dX10_allRevenues_43 : decode cX10_allRevenues 43 = .ok (.imul, 1) := by decide +kernel
theorem dX10_allRevenues_44 : decode cX10_allRevenues 44 = .ok (.iload_n 1, 1) := by decide +kernel
theorem dX10_allRevenues_45 : decode cX10_allRevenues 45 = .ok (.invokestatic 277, 3) := by decide +kernel
theorem dX10_allRevenues_48 : decode cX10_allRevenues 48 = .ok (.invokevirtual 211, 3) := by decide +kernel
theorem dX10_allRevenues_51 : decode cX10_allRevenues 51 = .ok (.iload_n 1, 1) := by decide +kernel
theorem dX10_allRevenues_52 : decode cX10_allRevenues 52 = .ok (.iconst 5, 1) := by decide +kernel
theorem dX10_allRevenues_53 : decode cX10_allRevenues 53 = .ok (.imul, 1) := by decide +kernel
theorem dX10_allRevenues_54 : decode cX10_allRevenues 54 = .ok (.istore 5, 2) := by decide +kernel
theorem dX10_allRevenues_56 : decode cX10_allRevenues 56 = .ok (.iload 5, 2) := by decide +kernel
theorem dX10_allRevenues_58 : decode cX10_allRevenues 58 = .ok (.iload_n 1, 1) := by decide +kernel
theorem dX10_allRevenues_59 : decode cX10_allRevenues 59 = .ok (.invokestatic 277, 3) := by decide +kernel
theorem dX10_allRevenues_62 : decode cX10_allRevenues 62 = .ok (.if_icmp .gt 21, 3) := by decide +kernel
theorem dX10_allRevenues_65 : decode cX10_allRevenues 65 = .ok (.lload_n 2, 1) := by decide +kernel
theorem dX10_allRevenues_66 : decode cX10_allRevenues 66 = .ok (.aload_n 0, 1) := by decide +kernel
theorem dX10_allRevenues_67 : decode cX10_allRevenues 67 = .ok (.getfield 21, 3) := by decide +kernel
theorem dX10_allRevenues_70 : decode cX10_allRevenues 70 = .ok (.iload 5, 2) := by decide +kernel
theorem dX10_allRevenues_72 : decode cX10_allRevenues 72 = .ok (.invokevirtual 218, 3) := by decide +kernel
theorem dX10_allRevenues_75 : decode cX10_allRevenues 75 = .ok (.ladd, 1) := by decide +kernel
theorem dX10_allRevenues_76 : decode cX10_allRevenues 76 = .ok (.lstore_n 2, 1) := by decide +kernel
theorem dX10_allRevenues_77 : decode cX10_allRevenues 77 = .ok (.iinc 5 1, 3) := by decide +kernel
theorem dX10_allRevenues_80 : decode cX10_allRevenues 80 = .ok (.goto (-24), 3) := by decide +kernel
theorem dX10_allRevenues_83 : decode cX10_allRevenues 83 = .ok (.iinc 4 1, 3) := by decide +kernel
theorem dX10_allRevenues_86 : decode cX10_allRevenues 86 = .ok (.goto (-81), 3) := by decide +kernel
theorem dX10_allRevenues_89 : decode cX10_allRevenues 89 = .ok (.lload_n 2, 1) := by decide +kernel
theorem dX10_allRevenues_90 : decode cX10_allRevenues 90 = .ok (.lreturn, 1) := by decide +kernel
theorem dX11_init_0 : decode cX11_init 0 = .ok (.aload_n 0, 1) := by decide +kernel
theorem dX11_init_1 : decode cX11_init 1 = .ok (.invokespecial 3, 3) := by decide +kernel
theorem dX11_init_4 : decode cX11_init 4 = .ok (.aload_n 0, 1) := by decide +kernel
theorem dX11_init_5 : decode cX11_init 5 = .ok (.sipush 500, 3) := by decide +kernel
theorem dX11_init_8 : decode cX11_init 8 = .ok (.newarray .int, 2) := by decide +kernel
theorem dX11_init_10 : decode cX11_init 10 = .ok (.putfield 9, 3) := by decide +kernel
theorem dX11_init_13 : decode cX11_init 13 = .ok (.aload_n 0, 1) := by decide +kernel
theorem dX11_init_14 : decode cX11_init 14 = .ok (.sipush 500, 3) := by decide +kernel
theorem dX11_init_17 : decode cX11_init 17 = .ok (.newarray .int, 2) := by decide +kernel
theorem dX11_init_19 : decode cX11_init 19 = .ok (.putfield 13, 3) := by decide +kernel
theorem dX11_init_22 : decode cX11_init 22 = .ok (.aload_n 0, 1) := by decide +kernel
theorem dX11_init_23 : decode cX11_init 23 = .ok (.bipush 11, 2) := by decide +kernel
theorem dX11_init_25 : decode cX11_init 25 = .ok (.newarray .long, 2) := by decide +kernel
theorem dX11_init_27 : decode cX11_init 27 = .ok (.putfield 16, 3) := by decide +kernel
theorem dX11_init_30 : decode cX11_init 30 = .ok (.aload_n 0, 1) := by decide +kernel
theorem dX11_init_31 : decode cX11_init 31 = .ok (.sipush 2805, 3) := by decide +kernel
theorem dX11_init_34 : decode cX11_init 34 = .ok (.newarray .int, 2) := by decide +kernel
theorem dX11_init_36 : decode cX11_init 36 = .ok (.putfield 20, 3) := by decide +kernel
theorem dX11_init_39 : decode cX11_init 39 = .ok (.aload_n 0, 1) := by decide +kernel
theorem dX11_init_40 : decode cX11_init 40 = .ok (.sipush 500, 3) := by decide +kernel
theorem dX11_init_43 : decode cX11_init 43 = .ok (.newarray .int, 2) := by decide +kernel
theorem dX11_init_45 : decode cX11_init 45 = .ok (.putfield 23, 3) := by decide +kernel
theorem dX11_init_48 : decode cX11_init 48 = .ok (.aload_n 0, 1) := by decide +kernel
theorem dX11_init_49 : decode cX11_init 49 = .ok (.bipush 40, 2) := by decide +kernel
theorem dX11_init_51 : decode cX11_init 51 = .ok (.newarray .int, 2) := by decide +kernel
theorem dX11_init_53 : decode cX11_init 53 = .ok (.putfield 26, 3) := by decide +kernel
theorem dX11_init_56 : decode cX11_init 56 = .ok (.aload_n 0, 1) := by decide +kernel
theorem dX11_init_57 : decode cX11_init 57 = .ok (.bipush 40, 2) := by decide +kernel
theorem dX11_init_59 : decode cX11_init 59 = .ok (.newarray .int, 2) := by decide +kernel
theorem dX11_init_61 : decode cX11_init 61 = .ok (.putfield 29, 3) := by decide +kernel
theorem dX11_init_64 : decode cX11_init 64 = .ok (.aload_n 0, 1) := by decide +kernel
theorem dX11_init_65 : decode cX11_init 65 = .ok (.bipush 40, 2) := by decide +kernel
theorem dX11_init_67 : decode cX11_init 67 = .ok (.newarray .int, 2) := by decide +kernel
theorem dX11_init_69 : decode cX11_init 69 = .ok (.putfield 32, 3) := by decide +kernel
theorem dX11_init_72 : decode cX11_init 72 = .ok (.aload_n 0, 1) := by decide +kernel
theorem dX11_init_73 : decode cX11_init 73 = .ok (.bipush 40, 2) := by decide +kernel
theorem dX11_init_75 : decode cX11_init 75 = .ok (.newarray .int, 2) := by decide +kernel
theorem dX11_init_77 : decode cX11_init 77 = .ok (.putfield 35, 3) := by decide +kernel
theorem dX11_init_80 : decode cX11_init 80 = .ok (.aload_n 0, 1) := by decide +kernel
theorem dX11_init_81 : decode cX11_init 81 = .ok (.bipush 20, 2) := by decide +kernel
theorem dX11_init_83 : decode cX11_init 83 = .ok (.newarray .int, 2) := by decide +kernel
theorem dX11_init_85 : decode cX11_init 85 = .ok (.putfield 38, 3) := by decide +kernel
theorem dX11_init_88 : decode cX11_init 88 = .ok (.aload_n 0, 1) := by decide +kernel
theorem dX11_init_89 : decode cX11_init 89 = .ok (.bipush 20, 2) := by decide +kernel
theorem dX11_init_91 : decode cX11_init 91 = .ok (.newarray .int, 2) := by decide +kernel
theorem dX11_init_93 : decode cX11_init 93 = .ok (.putfield 41, 3) := by decide +kernel
theorem dX11_init_96 : decode cX11_init 96 = .ok (.aload_n 0, 1) := by decide +kernel
theorem dX11_init_97 : decode cX11_init 97 = .ok (.bipush 20, 2) := by decide +kernel
theorem dX11_init_99 : decode cX11_init 99 = .ok (.newarray .int, 2) := by decide +kernel
theorem dX11_init_101 : decode cX11_init 101 = .ok (.putfield 44, 3) := by decide +kernel
theorem dX11_init_104 : decode cX11_init 104 = .ok (.aload_n 0, 1) := by decide +kernel
theorem dX11_init_105 : decode cX11_init 105 = .ok (.bipush 20, 2) := by decide +kernel
theorem dX11_init_107 : decode cX11_init 107 = .ok (.newarray .int, 2) := by decide +kernel
theorem dX11_init_109 : decode cX11_init 109 = .ok (.putfield 47, 3) := by decide +kernel
theorem dX11_init_112 : decode cX11_init 112 = .ok (.aload_n 0, 1) := by decide +kernel
theorem dX11_init_113 : decode cX11_init 113 = .ok (.bipush 20, 2) := by decide +kernel
theorem dX11_init_115 : decode cX11_init 115 = .ok (.newarray .int, 2) := by decide +kernel
theorem dX11_init_117 : decode cX11_init 117 = .ok (.putfield 50, 3) := by decide +kernel
theorem dX11_init_120 : decode cX11_init 120 = .ok (.aload_n 0, 1) := by decide +kernel
theorem dX11_init_121 : decode cX11_init 121 = .ok (.bipush 20, 2) := by decide +kernel
theorem dX11_init_123 : decode cX11_init 123 = .ok (.newarray .int, 2) := by decide +kernel
theorem dX11_init_125 : decode cX11_init 125 = .ok (.putfield 53, 3) := by decide +kernel
theorem dX11_init_128 : decode cX11_init 128 = .ok (.aload_n 0, 1) := by decide +kernel
theorem dX11_init_129 : decode cX11_init 129 = .ok (.bipush 20, 2) := by decide +kernel
theorem dX11_init_131 : decode cX11_init 131 = .ok (.newarray .int, 2) := by decide +kernel
theorem dX11_init_133 : decode cX11_init 133 = .ok (.putfield 56, 3) := by decide +kernel
theorem dX11_init_136 : decode cX11_init 136 = .ok (.aload_n 0, 1) := by decide +kernel
theorem dX11_init_137 : decode cX11_init 137 = .ok (.bipush 20, 2) := by decide +kernel
theorem dX11_init_139 : decode cX11_init 139 = .ok (.newarray .int, 2) := by decide +kernel
theorem dX11_init_141 : decode cX11_init 141 = .ok (.putfield 59, 3) := by decide +kernel
theorem dX11_init_144 : decode cX11_init 144 = .ok (.aload_n 0, 1) := by decide +kernel
theorem dX11_init_145 : decode cX11_init 145 = .ok (.bipush 20, 2) := by decide +kernel
theorem dX11_init_147 : decode cX11_init 147 = .ok (.newarray .int, 2) := by decide +kernel
theorem dX11_init_149 : decode cX11_init 149 = .ok (.putfield 62, 3) := by decide +kernel
theorem dX11_init_152 : decode cX11_init 152 = .ok (.aload_n 0, 1) := by decide +kernel
theorem dX11_init_153 : decode cX11_init 153 = .ok (.iconst (-1), 1) := by decide +kernel
theorem dX11_init_154 : decode cX11_init 154 = .ok (.putfield 65, 3) := by decide +kernel
theorem dX11_init_157 : decode cX11_init 157 = .ok (.aload_n 0, 1) := by decide +kernel
theorem dX11_init_158 : decode cX11_init 158 = .ok (.bipush 14, 2) := by decide +kernel
theorem dX11_init_160 : decode cX11_init 160 = .ok (.newarray .int, 2) := by decide +kernel
theorem dX11_init_162 : decode cX11_init 162 = .ok (.putfield 69, 3) := by decide +kernel
theorem dX11_init_165 : decode cX11_init 165 = .ok (.aload_n 0, 1) := by decide +kernel
theorem dX11_init_166 : decode cX11_init 166 = .ok (.bipush 14, 2) := by decide +kernel
theorem dX11_init_168 : decode cX11_init 168 = .ok (.newarray .int, 2) := by decide +kernel
theorem dX11_init_170 : decode cX11_init 170 = .ok (.putfield 72, 3) := by decide +kernel
theorem dX11_init_173 : decode cX11_init 173 = .ok (.aload_n 0, 1) := by decide +kernel
theorem dX11_init_174 : decode cX11_init 174 = .ok (.bipush 14, 2) := by decide +kernel
theorem dX11_init_176 : decode cX11_init 176 = .ok (.newarray .int, 2) := by decide +kernel
theorem dX11_init_178 : decode cX11_init 178 = .ok (.putfield 75, 3) := by decide +kernel
theorem dX11_init_181 : decode cX11_init 181 = .ok (.aload_n 0, 1) := by decide +kernel
theorem dX11_init_182 : decode cX11_init 182 = .ok (.bipush 14, 2) := by decide +kernel
theorem dX11_init_184 : decode cX11_init 184 = .ok (.newarray .int, 2) := by decide +kernel
theorem dX11_init_186 : decode cX11_init 186 = .ok (.putfield 78, 3) := by decide +kernel
theorem dX11_init_189 : decode cX11_init 189 = .ok (.aload_n 0, 1) := by decide +kernel
theorem dX11_init_190 : decode cX11_init 190 = .ok (.sipush 4200, 3) := by decide +kernel
theorem dX11_init_193 : decode cX11_init 193 = .ok (.newarray .int, 2) := by decide +kernel
theorem dX11_init_195 : decode cX11_init 195 = .ok (.putfield 81, 3) := by decide +kernel
theorem dX11_init_198 : decode cX11_init 198 = .ok (.aload_n 0, 1) := by decide +kernel
theorem dX11_init_199 : decode cX11_init 199 = .ok (.sipush 4200, 3) := by decide +kernel
theorem dX11_init_202 : decode cX11_init 202 = .ok (.newarray .int, 2) := by decide +kernel
theorem dX11_init_204 : decode cX11_init 204 = .ok (.putfield 84, 3) := by decide +kernel
theorem dX11_init_207 : decode cX11_init 207 = .ok (.aload_n 0, 1) := by decide +kernel
theorem dX11_init_208 : decode cX11_init 208 = .ok (.sipush 4200, 3) := by decide +kernel
theorem dX11_init_211 : decode cX11_init 211 = .ok (.newarray .int, 2) := by decide +kernel
theorem dX11_init_213 : decode cX11_init 213 = .ok (.putfield 87, 3) := by decide +kernel
theorem dX11_init_216 : decode cX11_init 216 = .ok (.aload_n 0, 1) := by decide +kernel
theorem dX11_init_217 : decode cX11_init 217 = .ok (.sipush 4200, 3) := by decide +kernel
theorem dX11_init_220 : decode cX11_init 220 = .ok (.newarray .int, 2) := by decide +kernel
theorem dX11_init_222 : decode cX11_init 222 = .ok (.putfield 90, 3) := by decide +kernel
theorem dX11_init_225 : decode cX11_init 225 = .ok (.aload_n 0, 1) := by decide +kernel
theorem dX11_init_226 : decode cX11_init 226 = .ok (.sipush 4200, 3) := by decide +kernel
theorem dX11_init_229 : decode cX11_init 229 = .ok (.newarray .int, 2) := by decide +kernel
theorem dX11_init_231 : decode cX11_init 231 = .ok (.putfield 93, 3) := by decide +kernel
theorem dX11_init_234 : decode cX11_init 234 = .ok (.aload_n 0, 1) := by decide +kernel
theorem dX11_init_235 : decode cX11_init 235 = .ok (.sipush 4200, 3) := by decide +kernel
theorem dX11_init_238 : decode cX11_init 238 = .ok (.newarray .int, 2) := by decide +kernel
theorem dX11_init_240 : decode cX11_init 240 = .ok (.putfield 96, 3) := by decide +kernel
theorem dX11_init_243 : decode cX11_init 243 = .ok (.aload_n 0, 1) := by decide +kernel
theorem dX11_init_244 : decode cX11_init 244 = .ok (.sipush 4200, 3) := by decide +kernel
theorem dX11_init_247 : decode cX11_init 247 = .ok (.newarray .int, 2) := by decide +kernel
theorem dX11_init_249 : decode cX11_init 249 = .ok (.putfield 99, 3) := by decide +kernel
theorem dX11_init_252 : decode cX11_init 252 = .ok (.aload_n 0, 1) := by decide +kernel
theorem dX11_init_253 : decode cX11_init 253 = .ok (.sipush 4200, 3) := by decide +kernel
theorem dX11_init_256 : decode cX11_init 256 = .ok (.newarray .int, 2) := by decide +kernel
theorem dX11_init_258 : decode cX11_init 258 = .ok (.putfield 102, 3) := by decide +kernel
theorem dX11_init_261 : decode cX11_init 261 = .ok (.aload_n 0, 1) := by decide +kernel
theorem dX11_init_262 : decode cX11_init 262 = .ok (.sipush 4200, 3) := by decide +kernel
theorem dX11_init_265 : decode cX11_init 265 = .ok (.newarray .int, 2) := by decide +kernel
theorem dX11_init_267 : decode cX11_init 267 = .ok (.putfield 105, 3) := by decide +kernel
theorem dX11_init_270 : decode cX11_init 270 = .ok (.aload_n 0, 1) := by decide +kernel
theorem dX11_init_271 : decode cX11_init 271 = .ok (.ldc 108, 2) := by decide +kernel
theorem dX11_init_273 : decode cX11_init 273 = .ok (.newarray .int, 2) := by decide +kernel
theorem dX11_init_275 : decode cX11_init 275 = .ok (.putfield 109, 3) := by decide +kernel
theorem dX11_init_278 : decode cX11_init 278 = .ok (.aload_n 0, 1) := by decide +kernel
theorem dX11_init_279 : decode cX11_init 279 = .ok (.ldc 108, 2) := by decide +kernel
theorem dX11_init_281 : decode cX11_init 281 = .ok (.newarray .int, 2) := by decide +kernel
theorem dX11_init_283 : decode cX11_init 283 = .ok (.putfield 112, 3) := by decide +kernel
theorem dX11_init_286 : decode cX11_init 286 = .ok (.aload_n 0, 1) := by decide +kernel
theorem dX11_init_287 : decode cX11_init 287 = .ok (.ldc 108, 2) := by decide +kernel
theorem dX11_init_289 : decode cX11_init 289 = .ok (.newarray .int, 2) := by decide +kernel
theorem dX11_init_291 : decode cX11_init 291 = .ok (.putfield 115, 3) := by decide +kernel
theorem dX11_init_294 : decode cX11_init 294 = .ok (.aload_n 0, 1) := by decide +kernel
theorem dX11_init_295 : decode cX11_init 295 = .ok (.ldc 108, 2) := by decide +kernel
theorem dX11_init_297 : decode cX11_init 297 = .ok (.newarray .int, 2) := by decide +kernel
theorem dX11_init_299 : decode cX11_init 299 = .ok (.putfield 118, 3) := by decide +kernel
theorem dX11_init_302 : decode cX11_init 302 = .ok (.aload_n 0, 1) := by decide +kernel
theorem dX11_init_303 : decode cX11_init 303 = .ok (.ldc 108, 2) := by decide +kernel
theorem dX11_init_305 : decode cX11_init 305 = .ok (.newarray .int, 2) := by decide +kernel
theorem dX11_init_307 : decode cX11_init 307 = .ok (.putfield 121, 3) := by decide +kernel
theorem dX11_init_310 : decode cX11_init 310 = .ok (.aload_n 0, 1) := by decide +kernel
theorem dX11_init_311 : decode cX11_init 311 = .ok (.ldc 108, 2) := by decide +kernel
theorem dX11_init_313 : decode cX11_init 313 = .ok (.newarray .int, 2) := by decide +kernel
theorem dX11_init_315 : decode cX11_init 315 = .ok (.putfield 124, 3) := by decide +kernel
theorem dX11_init_318 : decode cX11_init 318 = .ok (.aload_n 0, 1) := by decide +kernel
theorem dX11_init_319 : decode cX11_init 319 = .ok (.sipush 300, 3) := by decide +kernel
theorem dX11_init_322 : decode cX11_init 322 = .ok (.newarray .boolean, 2) := by decide +kernel
theorem dX11_init_324 : decode cX11_init 324 = .ok (.putfield 127, 3) := by decide +kernel
theorem dX11_init_327 : decode cX11_init 327 = .ok (.aload_n 0, 1) := by decide +kernel
theorem dX11_init_328 : decode cX11_init 328 = .ok (.sipush 900, 3) := by decide +kernel
theorem dX11_init_331 : decode cX11_init 331 = .ok (.newarray .byte, 2) := by decide +kernel
theorem dX11_init_333 : decode cX11_init 333 = .ok (.putfield 131, 3) := by decide +kernel
theorem dX11_init_336 : decode cX11_init 336 = .ok (.aload_n 0, 1) := by decide +kernel
theorem dX11_init_337 : decode cX11_init 337 = .ok (.sipush 900, 3) := by decide +kernel
theorem dX11_init_340 : decode cX11_init 340 = .ok (.newarray .byte, 2) := by decide +kernel
theorem dX11_init_342 : decode cX11_init 342 = .ok (.putfield 135, 3) := by decide +kernel
theorem dX11_init_345 : decode cX11_init 345 = .ok (.aload_n 0, 1) := by decide +kernel
theorem dX11_init_346 : decode cX11_init 346 = .ok (.iconst (-1), 1) := by decide +kernel
theorem dX11_init_347 : decode cX11_init 347 = .ok (.putfield 138, 3) := by decide +kernel
theorem dX11_init_350 : decode cX11_init 350 = .ok (.aload_n 0, 1) := by decide +kernel
theorem dX11_init_351 : decode cX11_init 351 = .ok (.bipush 16, 2) := by decide +kernel
theorem dX11_init_353 : decode cX11_init 353 = .ok (.newarray .long, 2) := by decide +kernel
theorem dX11_init_355 : decode cX11_init 355 = .ok (.putfield 141, 3) := by decide +kernel
theorem dX11_init_358 : decode cX11_init 358 = .ok (.aload_n 0, 1) := by decide +kernel
theorem dX11_init_359 : decode cX11_init 359 = .ok (.bipush 15, 2) := by decide +kernel
theorem dX11_init_361 : decode cX11_init 361 = .ok (.newarray .int, 2) := by decide +kernel
theorem dX11_init_363 : decode cX11_init 363 = .ok (.putfield 144, 3) := by decide +kernel
theorem dX11_init_366 : decode cX11_init 366 = .ok (.aload_n 0, 1) := by decide +kernel
theorem dX11_init_367 : decode cX11_init 367 = .ok (.bipush 15, 2) := by decide +kernel
theorem dX11_init_369 : decode cX11_init 369 = .ok (.newarray .int, 2) := by decide +kernel
theorem dX11_init_371 : decode cX11_init 371 = .ok (.putfield 147, 3) := by decide +kernel
theorem dX11_init_374 : decode cX11_init 374 = .ok (.aload_n 0, 1) := by decide +kernel
theorem dX11_init_375 : decode cX11_init 375 = .ok (.iconst 5, 1) := by decide +kernel
theorem dX11_init_376 : decode cX11_init 376 = .ok (.newarray .long, 2) := by decide +kernel
theorem dX11_init_378 : decode cX11_init 378 = .ok (.putfield 150, 3) := by decide +kernel
theorem dX11_init_381 : decode cX11_init 381 = .ok (.aload_n 0, 1) := by decide +kernel
theorem dX11_init_382 : decode cX11_init 382 = .ok (.bipush 50, 2) := by decide +kernel
theorem dX11_init_384 : decode cX11_init 384 = .ok (.newarray .int, 2) := by decide +kernel
theorem dX11_init_386 : decode cX11_init 386 = .ok (.putfield 153, 3) := by decide +kernel
theorem dX11_init_389 : decode cX11_init 389 = .ok (.aload_n 0, 1) := by decide +kernel
theorem dX11_init_390 : decode cX11_init 390 = .ok (.bipush 50, 2) := by decide +kernel
theorem dX11_init_392 : decode cX11_init 392 = .ok (.newarray .int, 2) := by decide +kernel
theorem dX11_init_394 : decode cX11_init 394 = .ok (.putfield 156, 3) := by decide +kernel
theorem dX11_init_397 : decode cX11_init 397 = .ok (.aload_n 0, 1) := by decide +kernel
theorem dX11_init_398 : decode cX11_init 398 = .ok (.bipush 50, 2) := by decide +kernel
theorem dX11_init_400 : decode cX11_init 400 = .ok (.newarray .int, 2) := by decide +kernel
theorem dX11_init_402 : decode cX11_init 402 = .ok (.putfield 159, 3) := by decide +kernel
theorem dX11_init_405 : decode cX11_init 405 = .ok (.aload_n 0, 1) := by decide +kernel
theorem dX11_init_406 : decode cX11_init 406 = .ok (.bipush 15, 2) := by decide +kernel
theorem dX11_init_408 : decode cX11_init 408 = .ok (.newarray .int, 2) := by decide +kernel
theorem dX11_init_410 : decode cX11_init 410 = .ok (.putfield 162, 3) := by decide +kernel
theorem dX11_init_413 : decode cX11_init 413 = .ok (.iconst 0, 1) := by decide +kernel
theorem dX11_init_414 : decode cX11_init 414 = .ok (.istore_n 1, 1) := by decide +kernel
theorem dX11_init_415 : decode cX11_init 415 = .ok (.iload_n 1, 1) := by decide +kernel
theorem dX11_init_416 : decode cX11_init 416 = .ok (.sipush 2805, 3) := by decide +kernel
theorem dX11_init_419 : decode cX11_init 419 = .ok (.if_icmp .ge 16, 3) := by decide +kernel
theorem dX11_init_422 : decode cX11_init 422 = .ok (.aload_n 0, 1) := by decide +kernel
theorem dX11_init_423 : decode cX11_init 423 = .ok (.getfield 20, 3) := by decide +kernel
theorem dX11_init_426 : decode cX11_init 426 = .ok (.iload_n 1, 1) := by decide +kernel
theorem dX11_init_427 : decode cX11_init 427 = .ok (.iconst (-1), 1) := by decide +kernel
theorem dX11_init_428 : decode cX11_init 428 = .ok (.iastore, 1) := by decide +kernel
theorem dX11_init_429 : decode cX11_init 429 = .ok (.iinc 1 1, 3) := by decide +kernel
theorem dX11_init_432 : decode cX11_init 432 = .ok (.goto (-17), 3) := by decide +kernel
theorem dX11_init_435 : decode cX11_init 435 = .ok (.return_, 1) := by decide +kernel
theorem dX11_isIn_0 : decode cX11_isIn 0 = .ok (.iload_n 0, 1) := by decide +kernel
theorem dX11_isIn_1 : decode cX11_isIn 1 = .ok (.iload_n 1, 1) := by decide +kernel
theorem dX11_isIn_2 : decode cX11_isIn 2 = .ok (.if_icmp .lt 12, 3) := by decide +kernel
theorem dX11_isIn_5 : decode cX11_isIn 5 = .ok (.iload_n 0, 1) := by decide +kernel
theorem dX11_isIn_6 : decode cX11_isIn 6 = .ok (.iload_n 2, 1) := by decide +kernel
theorem dX11_isIn_7 : decode cX11_isIn 7 = .ok (.if_icmp .gt 7, 3) := by decide +kernel
theorem dX11_isIn_10 : decode cX11_isIn 10 = .ok (.iconst 1, 1) := by decide +kernel
theorem dX11_isIn_11 : decode cX11_isIn 11 = .ok (.goto 4, 3) := by decide +kernel
theorem dX11_isIn_14 : decode cX11_isIn 14 = .ok (.iconst 0, 1) := by decide +kernel
theorem dX11_isIn_15 : decode cX11_isIn 15 = .ok (.ireturn, 1) := by decide +kernel
theorem dX11_one_0 : decode cX11_one 0 = .ok (.iload_n 0, 1) := by decide +kernel
theorem dX11_one_1 : decode cX11_one 1 = .ok (.ifCond .eq 7, 3) := by decide +kernel
theorem dX11_one_4 : decode cX11_one 4 = .ok (.iconst 1, 1) := by decide +kernel
theorem dX11_one_5 : decode cX11_one 5 = .ok (.goto 4, 3) := by decide +kernel
theorem dX11_one_8 : decode cX11_one 8 = .ok (.iconst 0, 1) := by decide +kernel
theorem dX11_one_9 : decode cX11_one 9 = .ok (.ireturn, 1) := by decide +kernel
theorem dX11_isDay_0 : decode cX11_isDay 0 = .ok (.iload_n 0, 1) := by decide +kernel
theorem dX11_isDay_1 : decode cX11_isDay 1 = .ok (.iconst 0, 1) := by decide +kernel
theorem dX11_isDay_2 : decode cX11_isDay 2 = .ok (.sipush 1499, 3) := by decide +kernel
theorem dX11_isDay_5 : decode cX11_isDay 5 = .ok (.invokestatic 165, 3) := by decide +kernel
theorem dX11_isDay_8 : decode cX11_isDay 8 = .ok (.ireturn, 1) := by decide +kernel
theorem dX11_isYear_0 : decode cX11_isYear 0 = .ok (.iload_n 0, 1) := by decide +kernel
theorem dX11_isYear_1 : decode cX11_isYear 1 = .ok (.iconst 0, 1) := by decide +kernel
theorem dX11_isYear_2 : decode cX11_isYear 2 = .ok (.bipush 14, 2) := by decide +kernel
theorem dX11_isYear_4 : decode cX11_isYear 4 = .ok (.invokestatic 165, 3) := by decide +kernel
theorem dX11_isYear_7 : decode cX11_isYear 7 = .ok (.ireturn, 1) := by decide +kernel
theorem dX11_isHead_0 : decode cX11_isHead 0 = .ok (.iload_n 0, 1) := by decide +kernel
theorem dX11_isHead_1 : decode cX11_isHead 1 = .ok (.iconst 0, 1) := by decide +kernel
theorem dX11_isHead_2 : decode cX11_isHead 2 = .ok (.iconst 3, 1) := by decide +kernel
theorem dX11_isHead_3 : decode cX11_isHead 3 = .ok (.invokestatic 165, 3) := by decide +kernel
theorem dX11_isHead_6 : decode cX11_isHead 6 = .ok (.ireturn, 1) := by decide +kernel
theorem dX11_isReview_0 : decode cX11_isReview 0 = .ok (.iload_n 0, 1) := by decide +kernel
theorem dX11_isReview_1 : decode cX11_isReview 1 = .ok (.iconst 0, 1) := by decide +kernel
theorem dX11_isReview_2 : decode cX11_isReview 2 = .ok (.iconst 2, 1) := by decide +kernel
theorem dX11_isReview_3 : decode cX11_isReview 3 = .ok (.invokestatic 165, 3) := by decide +kernel
theorem dX11_isReview_6 : decode cX11_isReview 6 = .ok (.ireturn, 1) := by decide +kernel
theorem dX11_isFirm_0 : decode cX11_isFirm 0 = .ok (.iload_n 1, 1) := by decide +kernel
theorem dX11_isFirm_1 : decode cX11_isFirm 1 = .ok (.iconst 0, 1) := by decide +kernel
theorem dX11_isFirm_2 : decode cX11_isFirm 2 = .ok (.aload_n 0, 1) := by decide +kernel
theorem dX11_isFirm_3 : decode cX11_isFirm 3 = .ok (.getfield 169, 3) := by decide +kernel
theorem dX11_isFirm_6 : decode cX11_isFirm 6 = .ok (.iconst 1, 1) := by decide +kernel
theorem dX11_isFirm_7 : decode cX11_isFirm 7 = .ok (.isub, 1) := by decide +kernel
theorem dX11_isFirm_8 : decode cX11_isFirm 8 = .ok (.invokestatic 165, 3) := by decide +kernel
theorem dX11_isFirm_11 : decode cX11_isFirm 11 = .ok (.ireturn, 1) := by decide +kernel
theorem dX11_day_0 : decode cX11_day 0 = .ok (.iload_n 1, 1) := by decide +kernel
theorem dX11_day_1 : decode cX11_day 1 = .ok (.aload_n 0, 1) := by decide +kernel
theorem dX11_day_2 : decode cX11_day 2 = .ok (.getfield 172, 3) := by decide +kernel
theorem dX11_day_5 : decode cX11_day 5 = .ok (.if_icmp .le 10, 3) := by decide +kernel
theorem dX11_day_8 : decode cX11_day 8 = .ok (.iload_n 1, 1) := by decide +kernel
theorem dX11_day_9 : decode cX11_day 9 = .ok (.sipush 1499, 3) := by decide +kernel
theorem dX11_day_12 : decode cX11_day 12 = .ok (.if_icmp .le 5, 3) := by decide +kernel
theorem dX11_day_15 : decode cX11_day 15 = .ok (.iconst 0, 1) := by decide +kernel
theorem dX11_day_16 : decode cX11_day 16 = .ok (.ireturn, 1) := by decide +kernel
theorem dX11_day_17 : decode cX11_day 17 = .ok (.aload_n 0, 1) := by decide +kernel
theorem dX11_day_18 : decode cX11_day 18 = .ok (.iload_n 1, 1) := by decide +kernel
theorem dX11_day_19 : decode cX11_day 19 = .ok (.putfield 172, 3) := by decide +kernel
theorem dX11_day_22 : decode cX11_day 22 = .ok (.iconst 1, 1) := by decide +kernel
theorem dX11_day_23 : decode cX11_day 23 = .ok (.ireturn, 1) := by decide +kernel
theorem dX11_firm_0 : decode cX11_firm 0 = .ok (.iload_n 1, 1) := by decide +kernel
theorem dX11_firm_1 : decode cX11_firm 1 = .ok (.iconst 0, 1) := by decide +kernel
theorem dX11_firm_2 : decode cX11_firm 2 = .ok (.ldc 175, 2) := by decide +kernel
theorem dX11_firm_4 : decode cX11_firm 4 = .ok (.invokestatic 165, 3) := by decide +kernel
theorem dX11_firm_7 : decode cX11_firm 7 = .ok (.ifCond .eq 12, 3) := by decide +kernel
theorem dX11_firm_10 : decode cX11_firm 10 = .ok (.aload_n 0, 1) := by decide +kernel
theorem dX11_firm_11 : decode cX11_firm 11 = .ok (.getfield 169, 3) := by decide +kernel
theorem dX11_firm_14 : decode cX11_firm 14 = .ok (.bipush 11, 2) := by decide +kernel
theorem dX11_firm_16 : decode cX11_firm 16 = .ok (.if_icmp .ne 5, 3) := by decide +kernel
theorem dX11_firm_19 : decode cX11_firm 19 = .ok (.iconst (-1), 1) := by decide +kernel
theorem dX11_firm_20 : decode cX11_firm 20 = .ok (.ireturn, 1) := by decide +kernel
theorem dX11_firm_21 : decode cX11_firm 21 = .ok (.aload_n 0, 1) := by decide +kernel
theorem dX11_firm_22 : decode cX11_firm 22 = .ok (.getfield 16, 3) := by decide +kernel
theorem dX11_firm_25 : decode cX11_firm 25 = .ok (.aload_n 0, 1) := by decide +kernel
theorem dX11_firm_26 : decode cX11_firm 26 = .ok (.getfield 169, 3) := by decide +kernel
theorem dX11_firm_29 : decode cX11_firm 29 = .ok (.iload_n 1, 1) := by decide +kernel
theorem dX11_firm_30 : decode cX11_firm 30 = .ok (.i2l, 1) := by decide +kernel
theorem dX11_firm_31 : decode cX11_firm 31 = .ok (.lastore, 1) := by decide +kernel
theorem dX11_firm_32 : decode cX11_firm 32 = .ok (.aload_n 0, 1) := by decide +kernel
theorem dX11_firm_33 : decode cX11_firm 33 = .ok (.dup, 1) := by decide +kernel
theorem dX11_firm_34 : decode cX11_firm 34 = .ok (.getfield 169, 3) := by decide +kernel
theorem dX11_firm_37 : decode cX11_firm 37 = .ok (.iconst 1, 1) := by decide +kernel
theorem dX11_firm_38 : decode cX11_firm 38 = .ok (.iadd, 1) := by decide +kernel
theorem dX11_firm_39 : decode cX11_firm 39 = .ok (.putfield 169, 3) := by decide +kernel
theorem dX11_firm_42 : decode cX11_firm 42 = .ok (.aload_n 0, 1) := by decide +kernel
theorem dX11_firm_43 : decode cX11_firm 43 = .ok (.getfield 169, 3) := by decide +kernel
theorem dX11_firm_46 : decode cX11_firm 46 = .ok (.iconst 1, 1) := by decide +kernel
theorem dX11_firm_47 : decode cX11_firm 47 = .ok (.isub, 1) := by decide +kernel
theorem dX11_firm_48 : decode cX11_firm 48 = .ok (.ireturn, 1) := by decide +kernel
theorem dX11_keyOf_0 : decode cX11_keyOf 0 = .ok (.bipush 17, 2) := by decide +kernel
theorem dX11_keyOf_2 : decode cX11_keyOf 2 = .ok (.bipush 15, 2) := by decide +kernel
theorem dX11_keyOf_4 : decode cX11_keyOf 4 = .ok (.iload_n 0, 1) := by decide +kernel
theorem dX11_keyOf_5 : decode cX11_keyOf 5 = .ok (.imul, 1) := by decide +kernel
theorem dX11_keyOf_6 : decode cX11_keyOf 6 = .ok (.iload_n 1, 1) := by decide +kernel
theorem dX11_keyOf_7 : decode cX11_keyOf 7 = .ok (.iadd, 1) := by decide +kernel
theorem dX11_keyOf_8 : decode cX11_keyOf 8 = .ok (.imul, 1) := by decide +kernel
theorem dX11_keyOf_9 : decode cX11_keyOf 9 = .ok (.iload_n 2, 1) := by decide +kernel
theorem dX11_keyOf_10 : decode cX11_keyOf 10 = .ok (.iadd, 1) := by decide +kernel
theorem dX11_keyOf_11 : decode cX11_keyOf 11 = .ok (.ireturn, 1) := by decide +kernel
theorem dX11_mostOf_0 : decode cX11_mostOf 0 = .ok (.iload_n 0, 1) := by decide +kernel
theorem dX11_mostOf_1 : decode cX11_mostOf 1 = .ok (.iconst 3, 1) := by decide +kernel
theorem dX11_mostOf_2 : decode cX11_mostOf 2 = .ok (.if_icmp .ge 9, 3) := by decide +kernel
theorem dX11_mostOf_5 : decode cX11_mostOf 5 = .ok (.sipush 999, 3) := by decide +kernel
theorem dX11_mostOf_8 : decode cX11_mostOf 8 = .ok (.goto 17, 3) := by decide +kernel
theorem dX11_mostOf_11 : decode cX11_mostOf 11 = .ok (.iload_n 0, 1) := by decide +kernel
theorem dX11_mostOf_12 : decode cX11_mostOf 12 = .ok (.bipush 11, 2) := by decide +kernel
theorem dX11_mostOf_14 : decode cX11_mostOf 14 = .ok (.if_icmp .ge 8, 3) := by decide +kernel
theorem dX11_mostOf_17 : decode cX11_mostOf 17 = .ok (.ldc 176, 2) := by decide +kernel
theorem dX11_mostOf_19 : decode cX11_mostOf 19 = .ok (.goto 6, 3) := by decide +kernel
theorem dX11_mostOf_22 : decode cX11_mostOf 22 = .ok (.sipush 9999, 3) := by decide +kernel
theorem dX11_mostOf_25 : decode cX11_mostOf 25 = .ok (.ireturn, 1) := by decide +kernel
theorem dX11_fact_0 : decode cX11_fact 0 = .ok (.aload_n 0, 1) := by decide +kernel
theorem dX11_fact_1 : decode cX11_fact 1 = .ok (.iload_n 1, 1) := by decide +kernel
theorem dX11_fact_2 : decode cX11_fact 2 = .ok (.invokevirtual 177, 3) := by decide +kernel
theorem dX11_fact_5 : decode cX11_fact 5 = .ok (.ifCond .eq 43, 3) := by decide +kernel
theorem dX11_fact_8 : decode cX11_fact 8 = .ok (.iload_n 2, 1) := by decide +kernel
theorem dX11_fact_9 : decode cX11_fact 9 = .ok (.invokestatic 181, 3) := by decide +kernel
theorem dX11_fact_12 : decode cX11_fact 12 = .ok (.ifCond .eq 36, 3) := by decide +kernel
theorem dX11_fact_15 : decode cX11_fact 15 = .ok (.iload_n 3, 1) := by decide +kernel
theorem dX11_fact_16 : decode cX11_fact 16 = .ok (.iconst 0, 1) := by decide +kernel
theorem dX11_fact_17 : decode cX11_fact 17 = .ok (.bipush 16, 2) := by decide +kernel
theorem dX11_fact_19 : decode cX11_fact 19 = .ok (.invokestatic 165, 3) := by decide +kernel
theorem dX11_fact_22 : decode cX11_fact 22 = .ok (.ifCond .eq 26, 3) := by decide +kernel
theorem dX11_fact_25 : decode cX11_fact 25 = .ok (.iload 4, 2) := by decide +kernel
theorem dX11_fact_27 : decode cX11_fact 27 = .ok (.iconst 0, 1) := by decide +kernel
theorem dX11_fact_28 : decode cX11_fact 28 = .ok (.iload_n 3, 1) := by decide +kernel
theorem dX11_fact_29 : decode cX11_fact 29 = .ok (.invokestatic 184, 3) := by decide +kernel
theorem dX11_fact_32 : decode cX11_fact 32 = .ok (.invokestatic 165, 3) := by decide +kernel
theorem dX11_fact_35 : decode cX11_fact 35 = .ok (.ifCond .eq 13, 3) := by decide +kernel
theorem dX11_fact_38 : decode cX11_fact 38 = .ok (.aload_n 0, 1) := by decide +kernel
theorem dX11_fact_39 : decode cX11_fact 39 = .ok (.getfield 188, 3) := by decide +kernel
theorem dX11_fact_42 : decode cX11_fact 42 = .ok (.sipush 500, 3) := by decide +kernel
theorem dX11_fact_45 : decode cX11_fact 45 = .ok (.if_icmp .ne 5, 3) := by decide +kernel
theorem dX11_fact_48 : decode cX11_fact 48 = .ok (.iconst (-1), 1) := by decide +kernel
theorem dX11_fact_49 : decode cX11_fact 49 = .ok (.ireturn, 1) := by decide +kernel
theorem dX11_fact_50 : decode cX11_fact 50 = .ok (.aload_n 0, 1) := by decide +kernel
theorem dX11_fact_51 : decode cX11_fact 51 = .ok (.getfield 9, 3) := by decide +kernel
theorem dX11_fact_54 : decode cX11_fact 54 = .ok (.aload_n 0, 1) := by decide +kernel
theorem dX11_fact_55 : decode cX11_fact 55 = .ok (.getfield 188, 3) := by decide +kernel
theorem dX11_fact_58 : decode cX11_fact 58 = .ok (.iload 4, 2) := by decide +kernel
theorem dX11_fact_60 : decode cX11_fact 60 = .ok (.iastore, 1) := by decide +kernel
theorem dX11_fact_61 : decode cX11_fact 61 = .ok (.aload_n 0, 1) := by decide +kernel
theorem dX11_fact_62 : decode cX11_fact 62 = .ok (.getfield 13, 3) := by decide +kernel
theorem dX11_fact_65 : decode cX11_fact 65 = .ok (.aload_n 0, 1) := by decide +kernel
theorem dX11_fact_66 : decode cX11_fact 66 = .ok (.getfield 188, 3) := by decide +kernel
theorem dX11_fact_69 : decode cX11_fact 69 = .ok (.aload_n 0, 1) := by decide +kernel
theorem dX11_fact_70 : decode cX11_fact 70 = .ok (.getfield 172, 3) := by decide +kernel
theorem dX11_fact_73 : decode cX11_fact 73 = .ok (.iastore, 1) := by decide +kernel
theorem dX11_fact_74 : decode cX11_fact 74 = .ok (.aload_n 0, 1) := by decide +kernel
theorem dX11_fact_75 : decode cX11_fact 75 = .ok (.getfield 23, 3) := by decide +kernel
theorem dX11_fact_78 : decode cX11_fact 78 = .ok (.aload_n 0, 1) := by decide +kernel
theorem dX11_fact_79 : decode cX11_fact 79 = .ok (.getfield 188, 3) := by decide +kernel
theorem dX11_fact_82 : decode cX11_fact 82 = .ok (.aload_n 0, 1) := by decide +kernel
theorem dX11_fact_83 : decode cX11_fact 83 = .ok (.getfield 20, 3) := by decide +kernel
theorem dX11_fact_86 : decode cX11_fact 86 = .ok (.iload_n 1, 1) := by decide +kernel
theorem dX11_fact_87 : decode cX11_fact 87 = .ok (.iload_n 2, 1) := by decide +kernel
theorem dX11_fact_88 : decode cX11_fact 88 = .ok (.iload_n 3, 1) := by decide +kernel
theorem dX11_fact_89 : decode cX11_fact 89 = .ok (.invokestatic 191, 3) := by decide +kernel
theorem dX11_fact_92 : decode cX11_fact 92 = .ok (.iaload, 1) := by decide +kernel
theorem dX11_fact_93 : decode cX11_fact 93 = .ok (.iastore, 1) := by decide +kernel
theorem dX11_fact_94 : decode cX11_fact 94 = .ok (.aload_n 0, 1) := by decide +kernel
theorem dX11_fact_95 : decode cX11_fact 95 = .ok (.getfield 20, 3) := by decide +kernel
theorem dX11_fact_98 : decode cX11_fact 98 = .ok (.iload_n 1, 1) := by decide +kernel
theorem dX11_fact_99 : decode cX11_fact 99 = .ok (.iload_n 2, 1) := by decide +kernel
theorem dX11_fact_100 : decode cX11_fact 100 = .ok (.iload_n 3, 1) := by decide +kernel
theorem dX11_fact_101 : decode cX11_fact 101 = .ok (.invokestatic 191, 3) := by decide +kernel
theorem dX11_fact_104 : decode cX11_fact 104 = .ok (.aload_n 0, 1) := by decide +kernel
theorem dX11_fact_105 : decode cX11_fact 105 = .ok (.getfield 188, 3) := by decide +kernel
theorem dX11_fact_108 : decode cX11_fact 108 = .ok (.iastore, 1) := by decide +kernel
theorem dX11_fact_109 : decode cX11_fact 109 = .ok (.aload_n 0, 1) := by decide +kernel
theorem dX11_fact_110 : decode cX11_fact 110 = .ok (.dup, 1) := by decide +kernel
theorem dX11_fact_111 : decode cX11_fact 111 = .ok (.getfield 188, 3) := by decide +kernel
theorem dX11_fact_114 : decode cX11_fact 114 = .ok (.iconst 1, 1) := by decide +kernel
theorem dX11_fact_115 : decode cX11_fact 115 = .ok (.iadd, 1) := by decide +kernel
theorem dX11_fact_116 : decode cX11_fact 116 = .ok (.putfield 188, 3) := by decide +kernel
theorem dX11_fact_119 : decode cX11_fact 119 = .ok (.aload_n 0, 1) := by decide +kernel
theorem dX11_fact_120 : decode cX11_fact 120 = .ok (.getfield 188, 3) := by decide +kernel
theorem dX11_fact_123 : decode cX11_fact 123 = .ok (.iconst 1, 1) := by decide +kernel
theorem dX11_fact_124 : decode cX11_fact 124 = .ok (.isub, 1) := by decide +kernel
theorem dX11_fact_125 : decode cX11_fact 125 = .ok (.ireturn, 1) := by decide +kernel
theorem dX11_factBy_0 : decode cX11_factBy 0 = .ok (.aload_n 0, 1) := by decide +kernel
theorem dX11_factBy_1 : decode cX11_factBy 1 = .ok (.getfield 20, 3) := by decide +kernel
theorem dX11_factBy_4 : decode cX11_factBy 4 = .ok (.iload_n 1, 1) := by decide +kernel
theorem dX11_factBy_5 : decode cX11_factBy 5 = .ok (.iload_n 2, 1) := by decide +kernel
theorem dX11_factBy_6 : decode cX11_factBy 6 = .ok (.iload_n 3, 1) := by decide +kernel
theorem dX11_factBy_7 : decode cX11_factBy 7 = .ok (.invokestatic 191, 3) := by decide +kernel
theorem dX11_factBy_10 : decode cX11_factBy 10 = .ok (.iaload, 1) := by decide +kernel
theorem dX11_factBy_11 : decode cX11_factBy 11 = .ok (.istore 5, 2) := by decide +kernel
theorem dX11_factBy_13 : decode cX11_factBy 13 = .ok (.iload 5, 2) := by decide +kernel
theorem dX11_factBy_15 : decode cX11_factBy 15 = .ok (.iconst (-1), 1) := by decide +kernel
theorem dX11_factBy_16 : decode cX11_factBy 16 = .ok (.if_icmp .eq 27, 3) := by decide +kernel
theorem dX11_factBy_19 : decode cX11_factBy 19 = .ok (.aload_n 0, 1) := by decide +kernel
theorem dX11_factBy_20 : decode cX11_factBy 20 = .ok (.getfield 13, 3) := by decide +kernel
theorem dX11_factBy_23 : decode cX11_factBy 23 = .ok (.iload 5, 2) := by decide +kernel
theorem dX11_factBy_25 : decode cX11_factBy 25 = .ok (.iaload, 1) := by decide +kernel
theorem dX11_factBy_26 : decode cX11_factBy 26 = .ok (.iload 4, 2) := by decide +kernel
theorem dX11_factBy_28 : decode cX11_factBy 28 = .ok (.if_icmp .le 15, 3) := by decide +kernel
theorem dX11_factBy_31 : decode cX11_factBy 31 = .ok (.aload_n 0, 1) := by decide +kernel
theorem dX11_factBy_32 : decode cX11_factBy 32 = .ok (.getfield 23, 3) := by decide +kernel
theorem dX11_factBy_35 : decode cX11_factBy 35 = .ok (.iload 5, 2) := by decide +kernel
theorem dX11_factBy_37 : decode cX11_factBy 37 = .ok (.iaload, 1) := by decide +kernel
theorem dX11_factBy_38 : decode cX11_factBy 38 = .ok (.istore 5, 2) := by decide +kernel
theorem dX11_factBy_40 : decode cX11_factBy 40 = .ok (.goto (-27), 3) := by decide +kernel
theorem dX11_factBy_43 : decode cX11_factBy 43 = .ok (.iload 5, 2) := by decide +kernel
theorem dX11_factBy_45 : decode cX11_factBy 45 = .ok (.iconst (-1), 1) := by decide +kernel
theorem dX11_factBy_46 : decode cX11_factBy 46 = .ok (.if_icmp .ne 7, 3) := by decide +kernel
theorem dX11_factBy_49 : decode cX11_factBy 49 = .ok (.iconst (-1), 1) := by decide +kernel
theorem dX11_factBy_50 : decode cX11_factBy 50 = .ok (.goto 10, 3) := by decide +kernel
theorem dX11_factBy_53 : decode cX11_factBy 53 = .ok (.aload_n 0, 1) := by decide +kernel
theorem dX11_factBy_54 : decode cX11_factBy 54 = .ok (.getfield 9, 3) := by decide +kernel
theorem dX11_factBy_57 : decode cX11_factBy 57 = .ok (.iload 5, 2) := by decide +kernel
theorem dX11_factBy_59 : decode cX11_factBy 59 = .ok (.iaload, 1) := by decide +kernel
theorem dX11_factBy_60 : decode cX11_factBy 60 = .ok (.ireturn, 1) := by decide +kernel
theorem dX11_known_0 : decode cX11_known 0 = .ok (.aload_n 0, 1) := by decide +kernel
theorem dX11_known_1 : decode cX11_known 1 = .ok (.iload_n 1, 1) := by decide +kernel
theorem dX11_known_2 : decode cX11_known 2 = .ok (.invokevirtual 177, 3) := by decide +kernel
theorem dX11_known_5 : decode cX11_known 5 = .ok (.ifCond .eq 40, 3) := by decide +kernel
theorem dX11_known_8 : decode cX11_known 8 = .ok (.iload_n 2, 1) := by decide +kernel
theorem dX11_known_9 : decode cX11_known 9 = .ok (.invokestatic 181, 3) := by decide +kernel
theorem dX11_known_12 : decode cX11_known 12 = .ok (.ifCond .eq 33, 3) := by decide +kernel
theorem dX11_known_15 : decode cX11_known 15 = .ok (.iload_n 3, 1) := by decide +kernel
theorem dX11_known_16 : decode cX11_known 16 = .ok (.iconst 0, 1) := by decide +kernel
theorem dX11_known_17 : decode cX11_known 17 = .ok (.bipush 16, 2) := by decide +kernel
theorem dX11_known_19 : decode cX11_known 19 = .ok (.invokestatic 165, 3) := by decide +kernel
theorem dX11_known_22 : decode cX11_known 22 = .ok (.ifCond .eq 23, 3) := by decide +kernel
theorem dX11_known_25 : decode cX11_known 25 = .ok (.iload 4, 2) := by decide +kernel
theorem dX11_known_27 : decode cX11_known 27 = .ok (.invokestatic 195, 3) := by decide +kernel
theorem dX11_known_30 : decode cX11_known 30 = .ok (.ifCond .eq 15, 3) := by decide +kernel
theorem dX11_known_33 : decode cX11_known 33 = .ok (.aload_n 0, 1) := by decide +kernel
theorem dX11_known_34 : decode cX11_known 34 = .ok (.iload_n 1, 1) := by decide +kernel
theorem dX11_known_35 : decode cX11_known 35 = .ok (.iload_n 2, 1) := by decide +kernel
theorem dX11_known_36 : decode cX11_known 36 = .ok (.iload_n 3, 1) := by decide +kernel
theorem dX11_known_37 : decode cX11_known 37 = .ok (.iload 4, 2) := by decide +kernel
theorem dX11_known_39 : decode cX11_known 39 = .ok (.invokevirtual 198, 3) := by decide +kernel
theorem dX11_known_42 : decode cX11_known 42 = .ok (.goto 4, 3) := by decide +kernel
theorem dX11_known_45 : decode cX11_known 45 = .ok (.iconst (-1), 1) := by decide +kernel
theorem dX11_known_46 : decode cX11_known 46 = .ok (.ireturn, 1) := by decide +kernel
theorem dX11_work_0 : decode cX11_work 0 = .ok (.aload_n 0, 1) := by decide +kernel
theorem dX11_work_1 : decode cX11_work 1 = .ok (.iload_n 1, 1) := by decide +kernel
theorem dX11_work_2 : decode cX11_work 2 = .ok (.invokevirtual 177, 3) := by decide +kernel
theorem dX11_work_5 : decode cX11_work 5 = .ok (.ifCond .eq 29, 3) := by decide +kernel
theorem dX11_work_8 : decode cX11_work 8 = .ok (.iload_n 2, 1) := by decide +kernel
theorem dX11_work_9 : decode cX11_work 9 = .ok (.iconst 1, 1) := by decide +kernel
theorem dX11_work_10 : decode cX11_work 10 = .ok (.ldc 176, 2) := by decide +kernel
theorem dX11_work_12 : decode cX11_work 12 = .ok (.invokestatic 165, 3) := by decide +kernel
theorem dX11_work_15 : decode cX11_work 15 = .ok (.ifCond .eq 19, 3) := by decide +kernel
theorem dX11_work_18 : decode cX11_work 18 = .ok (.iload_n 3, 1) := by decide +kernel
theorem dX11_work_19 : decode cX11_work 19 = .ok (.invokestatic 181, 3) := by decide +kernel
theorem dX11_work_22 : decode cX11_work 22 = .ok (.ifCond .eq 12, 3) := by decide +kernel
theorem dX11_work_25 : decode cX11_work 25 = .ok (.aload_n 0, 1) := by decide +kernel
theorem dX11_work_26 : decode cX11_work 26 = .ok (.getfield 202, 3) := by decide +kernel
theorem dX11_work_29 : decode cX11_work 29 = .ok (.bipush 40, 2) := by decide +kernel
theorem dX11_work_31 : decode cX11_work 31 = .ok (.if_icmp .ne 5, 3) := by decide +kernel
theorem dX11_work_34 : decode cX11_work 34 = .ok (.iconst (-1), 1) := by decide +kernel
theorem dX11_work_35 : decode cX11_work 35 = .ok (.ireturn, 1) := by decide +kernel
theorem dX11_work_36 : decode cX11_work 36 = .ok (.aload_n 0, 1) := by decide +kernel
theorem dX11_work_37 : decode cX11_work 37 = .ok (.getfield 26, 3) := by decide +kernel
theorem dX11_work_40 : decode cX11_work 40 = .ok (.aload_n 0, 1) := by decide +kernel
theorem dX11_work_41 : decode cX11_work 41 = .ok (.getfield 202, 3) := by decide +kernel
theorem dX11_work_44 : decode cX11_work 44 = .ok (.iload_n 1, 1) := by decide +kernel
theorem dX11_work_45 : decode cX11_work 45 = .ok (.iastore, 1) := by decide +kernel
theorem dX11_work_46 : decode cX11_work 46 = .ok (.aload_n 0, 1) := by decide +kernel
theorem dX11_work_47 : decode cX11_work 47 = .ok (.getfield 29, 3) := by decide +kernel
theorem dX11_work_50 : decode cX11_work 50 = .ok (.aload_n 0, 1) := by decide +kernel
theorem dX11_work_51 : decode cX11_work 51 = .ok (.getfield 202, 3) := by decide +kernel
theorem dX11_work_54 : decode cX11_work 54 = .ok (.iload_n 2, 1) := by decide +kernel
theorem dX11_work_55 : decode cX11_work 55 = .ok (.iastore, 1) := by decide +kernel
theorem dX11_work_56 : decode cX11_work 56 = .ok (.aload_n 0, 1) := by decide +kernel
theorem dX11_work_57 : decode cX11_work 57 = .ok (.getfield 32, 3) := by decide +kernel
theorem dX11_work_60 : decode cX11_work 60 = .ok (.aload_n 0, 1) := by decide +kernel
theorem dX11_work_61 : decode cX11_work 61 = .ok (.getfield 202, 3) := by decide +kernel
theorem dX11_work_64 : decode cX11_work 64 = .ok (.iload_n 3, 1) := by decide +kernel
theorem dX11_work_65 : decode cX11_work 65 = .ok (.iastore, 1) := by decide +kernel
theorem dX11_work_66 : decode cX11_work 66 = .ok (.aload_n 0, 1) := by decide +kernel
theorem dX11_work_67 : decode cX11_work 67 = .ok (.getfield 35, 3) := by decide +kernel
theorem dX11_work_70 : decode cX11_work 70 = .ok (.aload_n 0, 1) := by decide +kernel
theorem dX11_work_71 : decode cX11_work 71 = .ok (.getfield 202, 3) := by decide +kernel
theorem dX11_work_74 : decode cX11_work 74 = .ok (.sipush 5000, 3) := by decide +kernel
theorem dX11_work_77 : decode cX11_work 77 = .ok (.iastore, 1) := by decide +kernel
theorem dX11_work_78 : decode cX11_work 78 = .ok (.aload_n 0, 1) := by decide +kernel
theorem dX11_work_79 : decode cX11_work 79 = .ok (.dup, 1) := by decide +kernel
theorem dX11_work_80 : decode cX11_work 80 = .ok (.getfield 202, 3) := by decide +kernel
theorem dX11_work_83 : decode cX11_work 83 = .ok (.iconst 1, 1) := by decide +kernel
theorem dX11_work_84 : decode cX11_work 84 = .ok (.iadd, 1) := by decide +kernel
theorem dX11_work_85 : decode cX11_work 85 = .ok (.putfield 202, 3) := by decide +kernel
theorem dX11_work_88 : decode cX11_work 88 = .ok (.aload_n 0, 1) := by decide +kernel
theorem dX11_work_89 : decode cX11_work 89 = .ok (.getfield 202, 3) := by decide +kernel
theorem dX11_work_92 : decode cX11_work 92 = .ok (.iconst 1, 1) := by decide +kernel
theorem dX11_work_93 : decode cX11_work 93 = .ok (.isub, 1) := by decide +kernel
theorem dX11_work_94 : decode cX11_work 94 = .ok (.ireturn, 1) := by decide +kernel
theorem dX11_done_0 : decode cX11_done 0 = .ok (.iload_n 1, 1) := by decide +kernel
theorem dX11_done_1 : decode cX11_done 1 = .ok (.iconst 0, 1) := by decide +kernel
theorem dX11_done_2 : decode cX11_done 2 = .ok (.aload_n 0, 1) := by decide +kernel
theorem dX11_done_3 : decode cX11_done 3 = .ok (.getfield 202, 3) := by decide +kernel
theorem dX11_done_6 : decode cX11_done 6 = .ok (.iconst 1, 1) := by decide +kernel
theorem dX11_done_7 : decode cX11_done 7 = .ok (.isub, 1) := by decide +kernel
theorem dX11_done_8 : decode cX11_done 8 = .ok (.invokestatic 165, 3) := by decide +kernel
theorem dX11_done_11 : decode cX11_done 11 = .ok (.ifCond .eq 15, 3) := by decide +kernel
theorem dX11_done_14 : decode cX11_done 14 = .ok (.aload_n 0, 1) := by decide +kernel
theorem dX11_done_15 : decode cX11_done 15 = .ok (.getfield 35, 3) := by decide +kernel
theorem dX11_done_18 : decode cX11_done 18 = .ok (.iload_n 1, 1) := by decide +kernel
theorem dX11_done_19 : decode cX11_done 19 = .ok (.iaload, 1) := by decide +kernel
theorem dX11_done_20 : decode cX11_done 20 = .ok (.sipush 5000, 3) := by decide +kernel
theorem dX11_done_23 : decode cX11_done 23 = .ok (.if_icmp .eq 5, 3) := by decide +kernel
theorem dX11_done_26 : decode cX11_done 26 = .ok (.iconst 0, 1) := by decide +kernel
theorem dX11_done_27 : decode cX11_done 27 = .ok (.ireturn, 1) := by decide +kernel
theorem dX11_done_28 : decode cX11_done 28 = .ok (.aload_n 0, 1) := by decide +kernel
theorem dX11_done_29 : decode cX11_done 29 = .ok (.getfield 35, 3) := by decide +kernel
theorem dX11_done_32 : decode cX11_done 32 = .ok (.iload_n 1, 1) := by decide +kernel
theorem dX11_done_33 : decode cX11_done 33 = .ok (.aload_n 0, 1) := by decide +kernel
theorem dX11_done_34 : decode cX11_done 34 = .ok (.getfield 172, 3) := by decide +kernel
theorem dX11_done_37 : decode cX11_done 37 = .ok (.iastore, 1) := by decide +kernel
theorem dX11_done_38 : decode cX11_done 38 = .ok (.iconst 1, 1) := by decide +kernel
theorem dX11_done_39 : decode cX11_done 39 = .ok (.ireturn, 1) := by decide +kernel
theorem dX11_wasDone_0 : decode cX11_wasDone 0 = .ok (.aload_n 0, 1) := by decide +kernel
theorem dX11_wasDone_1 : decode cX11_wasDone 1 = .ok (.getfield 35, 3) := by decide +kernel
theorem dX11_wasDone_4 : decode cX11_wasDone 4 = .ok (.iload_n 1, 1) := by decide +kernel
theorem dX11_wasDone_5 : decode cX11_wasDone 5 = .ok (.iaload, 1) := by decide +kernel
theorem dX11_wasDone_6 : decode cX11_wasDone 6 = .ok (.bipush 100, 2) := by decide +kernel
theorem dX11_wasDone_8 : decode cX11_wasDone 8 = .ok (.iload_n 2, 1) := by decide +kernel
theorem dX11_wasDone_9 : decode cX11_wasDone 9 = .ok (.imul, 1) := by decide +kernel
theorem dX11_wasDone_10 : decode cX11_wasDone 10 = .ok (.if_icmp .ge 7, 3) := by decide +kernel
theorem dX11_wasDone_13 : decode cX11_wasDone 13 = .ok (.iconst 1, 1) := by decide +kernel
theorem dX11_wasDone_14 : decode cX11_wasDone 14 = .ok (.goto 4, 3) := by decide +kernel
theorem dX11_wasDone_17 : decode cX11_wasDone 17 = .ok (.iconst 0, 1) := by decide +kernel
theorem dX11_wasDone_18 : decode cX11_wasDone 18 = .ok (.ireturn, 1) := by decide +kernel
theorem dX11_bench_0 : decode cX11_bench 0 = .ok (.aload_n 0, 1) := by decide +kernel
theorem dX11_bench_1 : decode cX11_bench 1 = .ok (.iload_n 1, 1) := by decide +kernel
theorem dX11_bench_2 : decode cX11_bench 2 = .ok (.invokevirtual 177, 3) := by decide +kernel
theorem dX11_bench_5 : decode cX11_bench 5 = .ok (.ifCond .eq 37, 3) := by decide +kernel
theorem dX11_bench_8 : decode cX11_bench 8 = .ok (.iload_n 2, 1) := by decide +kernel
theorem dX11_bench_9 : decode cX11_bench 9 = .ok (.invokestatic 205, 3) := by decide +kernel
theorem dX11_bench_12 : decode cX11_bench 12 = .ok (.ifCond .eq 30, 3) := by decide +kernel
theorem dX11_bench_15 : decode cX11_bench 15 = .ok (.iload_n 3, 1) := by decide +kernel
theorem dX11_bench_16 : decode cX11_bench 16 = .ok (.invokestatic 181, 3) := by decide +kernel
theorem dX11_bench_19 : decode cX11_bench 19 = .ok (.ifCond .eq 23, 3) := by decide +kernel
theorem dX11_bench_22 : decode cX11_bench 22 = .ok (.iload 4, 2) := by decide +kernel
theorem dX11_bench_24 : decode cX11_bench 24 = .ok (.iconst 0, 1) := by decide +kernel
theorem dX11_bench_25 : decode cX11_bench 25 = .ok (.ldc 176, 2) := by decide +kernel
theorem dX11_bench_27 : decode cX11_bench 27 = .ok (.invokestatic 165, 3) := by decide +kernel
theorem dX11_bench_30 : decode cX11_bench 30 = .ok (.ifCond .eq 12, 3) := by decide +kernel
theorem dX11_bench_33 : decode cX11_bench 33 = .ok (.aload_n 0, 1) := by decide +kernel
theorem dX11_bench_34 : decode cX11_bench 34 = .ok (.getfield 208, 3) := by decide +kernel
theorem dX11_bench_37 : decode cX11_bench 37 = .ok (.bipush 20, 2) := by decide +kernel
theorem dX11_bench_39 : decode cX11_bench 39 = .ok (.if_icmp .ne 5, 3) := by decide +kernel
theorem dX11_bench_42 : decode cX11_bench 42 = .ok (.iconst (-1), 1) := by decide +kernel
theorem dX11_bench_43 : decode cX11_bench 43 = .ok (.ireturn, 1) := by decide +kernel
theorem dX11_bench_44 : decode cX11_bench 44 = .ok (.aload_n 0, 1) := by decide +kernel
theorem dX11_bench_45 : decode cX11_bench 45 = .ok (.getfield 38, 3) := by decide +kernel
theorem dX11_bench_48 : decode cX11_bench 48 = .ok (.aload_n 0, 1) := by decide +kernel
theorem dX11_bench_49 : decode cX11_bench 49 = .ok (.getfield 208, 3) := by decide +kernel
theorem dX11_bench_52 : decode cX11_bench 52 = .ok (.iload_n 1, 1) := by decide +kernel
theorem dX11_bench_53 : decode cX11_bench 53 = .ok (.iastore, 1) := by decide +kernel
theorem dX11_bench_54 : decode cX11_bench 54 = .ok (.aload_n 0, 1) := by decide +kernel
theorem dX11_bench_55 : decode cX11_bench 55 = .ok (.getfield 41, 3) := by decide +kernel
theorem dX11_bench_58 : decode cX11_bench 58 = .ok (.aload_n 0, 1) := by decide +kernel
theorem dX11_bench_59 : decode cX11_bench 59 = .ok (.getfield 208, 3) := by decide +kernel
theorem dX11_bench_62 : decode cX11_bench 62 = .ok (.iload_n 2, 1) := by decide +kernel
theorem dX11_bench_63 : decode cX11_bench 63 = .ok (.iastore, 1) := by decide +kernel
theorem dX11_bench_64 : decode cX11_bench 64 = .ok (.aload_n 0, 1) := by decide +kernel
theorem dX11_bench_65 : decode cX11_bench 65 = .ok (.getfield 44, 3) := by decide +kernel
theorem dX11_bench_68 : decode cX11_bench 68 = .ok (.aload_n 0, 1) := by decide +kernel
theorem dX11_bench_69 : decode cX11_bench 69 = .ok (.getfield 208, 3) := by decide +kernel
theorem dX11_bench_72 : decode cX11_bench 72 = .ok (.iload_n 3, 1) := by decide +kernel
theorem dX11_bench_73 : decode cX11_bench 73 = .ok (.iastore, 1) := by decide +kernel
theorem dX11_bench_74 : decode cX11_bench 74 = .ok (.aload_n 0, 1) := by decide +kernel
theorem dX11_bench_75 : decode cX11_bench 75 = .ok (.getfield 47, 3) := by decide +kernel
theorem dX11_bench_78 : decode cX11_bench 78 = .ok (.aload_n 0, 1) := by decide +kernel
theorem dX11_bench_79 : decode cX11_bench 79 = .ok (.getfield 208, 3) := by decide +kernel
theorem dX11_bench_82 : decode cX11_bench 82 = .ok (.iload 4, 2) := by decide +kernel
theorem dX11_bench_84 : decode cX11_bench 84 = .ok (.iastore, 1) := by decide +kernel
theorem dX11_bench_85 : decode cX11_bench 85 = .ok (.aload_n 0, 1) := by decide +kernel
theorem dX11_bench_86 : decode cX11_bench 86 = .ok (.getfield 50, 3) := by decide +kernel
theorem dX11_bench_89 : decode cX11_bench 89 = .ok (.aload_n 0, 1) := by decide +kernel
theorem dX11_bench_90 : decode cX11_bench 90 = .ok (.getfield 208, 3) := by decide +kernel
theorem dX11_bench_93 : decode cX11_bench 93 = .ok (.aload_n 0, 1) := by decide +kernel
theorem dX11_bench_94 : decode cX11_bench 94 = .ok (.getfield 172, 3) := by decide +kernel
theorem dX11_bench_97 : decode cX11_bench 97 = .ok (.iastore, 1) := by decide +kernel
theorem dX11_bench_98 : decode cX11_bench 98 = .ok (.aload_n 0, 1) := by decide +kernel
theorem dX11_bench_99 : decode cX11_bench 99 = .ok (.dup, 1) := by decide +kernel
theorem dX11_bench_100 : decode cX11_bench 100 = .ok (.getfield 208, 3) := by decide +kernel
theorem dX11_bench_103 : decode cX11_bench 103 = .ok (.iconst 1, 1) := by decide +kernel
theorem dX11_bench_104 : decode cX11_bench 104 = .ok (.iadd, 1) := by decide +kernel
theorem dX11_bench_105 : decode cX11_bench 105 = .ok (.putfield 208, 3) := by decide +kernel
theorem dX11_bench_108 : decode cX11_bench 108 = .ok (.aload_n 0, 1) := by decide +kernel
theorem dX11_bench_109 : decode cX11_bench 109 = .ok (.getfield 208, 3) := by decide +kernel
theorem dX11_bench_112 : decode cX11_bench 112 = .ok (.ireturn, 1) := by decide +kernel
theorem dX11_log_0 : decode cX11_log 0 = .ok (.aload_n 0, 1) := by decide +kernel
theorem dX11_log_1 : decode cX11_log 1 = .ok (.iload_n 1, 1) := by decide +kernel
theorem dX11_log_2 : decode cX11_log 2 = .ok (.invokevirtual 177, 3) := by decide +kernel
theorem dX11_log_5 : decode cX11_log 5 = .ok (.ifCond .eq 40, 3) := by decide +kernel
theorem dX11_log_8 : decode cX11_log 8 = .ok (.iload_n 2, 1) := by decide +kernel
theorem dX11_log_9 : decode cX11_log 9 = .ok (.aload_n 0, 1) := by decide +kernel
theorem dX11_log_10 : decode cX11_log 10 = .ok (.getfield 172, 3) := by decide +kernel
theorem dX11_log_13 : decode cX11_log 13 = .ok (.bipush 100, 2) := by decide +kernel
theorem dX11_log_15 : decode cX11_log 15 = .ok (.idiv, 1) := by decide +kernel
theorem dX11_log_16 : decode cX11_log 16 = .ok (.iconst 1, 1) := by decide +kernel
theorem dX11_log_17 : decode cX11_log 17 = .ok (.iadd, 1) := by decide +kernel
theorem dX11_log_18 : decode cX11_log 18 = .ok (.bipush 14, 2) := by decide +kernel
theorem dX11_log_20 : decode cX11_log 20 = .ok (.invokestatic 165, 3) := by decide +kernel
theorem dX11_log_23 : decode cX11_log 23 = .ok (.ifCond .eq 22, 3) := by decide +kernel
theorem dX11_log_26 : decode cX11_log 26 = .ok (.iload_n 3, 1) := by decide +kernel
theorem dX11_log_27 : decode cX11_log 27 = .ok (.iconst 1, 1) := by decide +kernel
theorem dX11_log_28 : decode cX11_log 28 = .ok (.ldc 176, 2) := by decide +kernel
theorem dX11_log_30 : decode cX11_log 30 = .ok (.invokestatic 165, 3) := by decide +kernel
theorem dX11_log_33 : decode cX11_log 33 = .ok (.ifCond .eq 12, 3) := by decide +kernel
theorem dX11_log_36 : decode cX11_log 36 = .ok (.aload_n 0, 1) := by decide +kernel
theorem dX11_log_37 : decode cX11_log 37 = .ok (.getfield 211, 3) := by decide +kernel
theorem dX11_log_40 : decode cX11_log 40 = .ok (.bipush 20, 2) := by decide +kernel
theorem dX11_log_42 : decode cX11_log 42 = .ok (.if_icmp .ne 5, 3) := by decide +kernel
theorem dX11_log_45 : decode cX11_log 45 = .ok (.iconst (-1), 1) := by decide +kernel
theorem dX11_log_46 : decode cX11_log 46 = .ok (.ireturn, 1) := by decide +kernel
theorem dX11_log_47 : decode cX11_log 47 = .ok (.aload_n 0, 1) := by decide +kernel
theorem dX11_log_48 : decode cX11_log 48 = .ok (.getfield 53, 3) := by decide +kernel
theorem dX11_log_51 : decode cX11_log 51 = .ok (.aload_n 0, 1) := by decide +kernel
theorem dX11_log_52 : decode cX11_log 52 = .ok (.getfield 211, 3) := by decide +kernel
theorem dX11_log_55 : decode cX11_log 55 = .ok (.iload_n 1, 1) := by decide +kernel
theorem dX11_log_56 : decode cX11_log 56 = .ok (.iastore, 1) := by decide +kernel
theorem dX11_log_57 : decode cX11_log 57 = .ok (.aload_n 0, 1) := by decide +kernel
theorem dX11_log_58 : decode cX11_log 58 = .ok (.getfield 56, 3) := by decide +kernel
theorem dX11_log_61 : decode cX11_log 61 = .ok (.aload_n 0, 1) := by decide +kernel
theorem dX11_log_62 : decode cX11_log 62 = .ok (.getfield 211, 3) := by decide +kernel
theorem dX11_log_65 : decode cX11_log 65 = .ok (.iload_n 2, 1) := by decide +kernel
theorem dX11_log_66 : decode cX11_log 66 = .ok (.iastore, 1) := by decide +kernel
theorem dX11_log_67 : decode cX11_log 67 = .ok (.aload_n 0, 1) := by decide +kernel
theorem dX11_log_68 : decode cX11_log 68 = .ok (.getfield 59, 3) := by decide +kernel
theorem dX11_log_71 : decode cX11_log 71 = .ok (.aload_n 0, 1) := by decide +kernel
theorem dX11_log_72 : decode cX11_log 72 = .ok (.getfield 211, 3) := by decide +kernel
theorem dX11_log_75 : decode cX11_log 75 = .ok (.iload_n 3, 1) := by decide +kernel
theorem dX11_log_76 : decode cX11_log 76 = .ok (.iastore, 1) := by decide +kernel
theorem dX11_log_77 : decode cX11_log 77 = .ok (.aload_n 0, 1) := by decide +kernel
theorem dX11_log_78 : decode cX11_log 78 = .ok (.getfield 62, 3) := by decide +kernel
theorem dX11_log_81 : decode cX11_log 81 = .ok (.aload_n 0, 1) := by decide +kernel
theorem dX11_log_82 : decode cX11_log 82 = .ok (.getfield 211, 3) := by decide +kernel
theorem dX11_log_85 : decode cX11_log 85 = .ok (.aload_n 0, 1) := by decide +kernel
theorem dX11_log_86 : decode cX11_log 86 = .ok (.getfield 172, 3) := by decide +kernel
theorem dX11_log_89 : decode cX11_log 89 = .ok (.iastore, 1) := by decide +kernel
theorem dX11_log_90 : decode cX11_log 90 = .ok (.aload_n 0, 1) := by decide +kernel
theorem dX11_log_91 : decode cX11_log 91 = .ok (.dup, 1) := by decide +kernel
theorem dX11_log_92 : decode cX11_log 92 = .ok (.getfield 211, 3) := by decide +kernel
theorem dX11_log_95 : decode cX11_log 95 = .ok (.iconst 1, 1) := by decide +kernel
theorem dX11_log_96 : decode cX11_log 96 = .ok (.iadd, 1) := by decide +kernel
theorem dX11_log_97 : decode cX11_log 97 = .ok (.putfield 211, 3) := by decide +kernel
theorem dX11_log_100 : decode cX11_log 100 = .ok (.aload_n 0, 1) := by decide +kernel
theorem dX11_log_101 : decode cX11_log 101 = .ok (.getfield 211, 3) := by decide +kernel
theorem dX11_log_104 : decode cX11_log 104 = .ok (.ireturn, 1) := by decide +kernel
theorem dX11_feed_0 : decode cX11_feed 0 = .ok (.aload_n 0, 1) := by decide +kernel
theorem dX11_feed_1 : decode cX11_feed 1 = .ok (.getfield 214, 3) := by decide +kernel
theorem dX11_feed_4 : decode cX11_feed 4 = .ok (.bipush 20, 2) := by decide +kernel
theorem dX11_feed_6 : decode cX11_feed 6 = .ok (.iadd, 1) := by decide +kernel
theorem dX11_feed_7 : decode cX11_feed 7 = .ok (.sipush 900, 3) := by decide +kernel
theorem dX11_feed_10 : decode cX11_feed 10 = .ok (.if_icmp .le 5, 3) := by decide +kernel
theorem dX11_feed_13 : decode cX11_feed 13 = .ok (.iconst (-1), 1) := by decide +kernel
theorem dX11_feed_14 : decode cX11_feed 14 = .ok (.ireturn, 1) := by decide +kernel
theorem dX11_feed_15 : decode cX11_feed 15 = .ok (.aload_n 0, 1) := by decide +kernel
theorem dX11_feed_16 : decode cX11_feed 16 = .ok (.iload_n 1, 1) := by decide +kernel
theorem dX11_feed_17 : decode cX11_feed 17 = .ok (.invokevirtual 217, 3) := by decide +kernel
theorem dX11_feed_20 : decode cX11_feed 20 = .ok (.aload_n 0, 1) := by decide +kernel
theorem dX11_feed_21 : decode cX11_feed 21 = .ok (.iload_n 2, 1) := by decide +kernel
theorem dX11_feed_22 : decode cX11_feed 22 = .ok (.invokevirtual 217, 3) := by decide +kernel
theorem dX11_feed_25 : decode cX11_feed 25 = .ok (.aload_n 0, 1) := by decide +kernel
theorem dX11_feed_26 : decode cX11_feed 26 = .ok (.iload_n 3, 1) := by decide +kernel
theorem dX11_feed_27 : decode cX11_feed 27 = .ok (.invokevirtual 217, 3) := by decide +kernel
theorem dX11_feed_30 : decode cX11_feed 30 = .ok (.aload_n 0, 1) := by decide +kernel
theorem dX11_feed_31 : decode cX11_feed 31 = .ok (.iload 4, 2) := by decide +kernel
theorem dX11_feed_33 : decode cX11_feed 33 = .ok (.invokevirtual 217, 3) := by decide +kernel
theorem dX11_feed_36 : decode cX11_feed 36 = .ok (.aload_n 0, 1) := by decide +kernel
theorem dX11_feed_37 : decode cX11_feed 37 = .ok (.iload 5, 2) := by decide +kernel
theorem dX11_feed_39 : decode cX11_feed 39 = .ok (.invokevirtual 217, 3) := by decide +kernel
theorem dX11_feed_42 : decode cX11_feed 42 = .ok (.aload_n 0, 1) := by decide +kernel
theorem dX11_feed_43 : decode cX11_feed 43 = .ok (.getfield 214, 3) := by decide +kernel
theorem dX11_feed_46 : decode cX11_feed 46 = .ok (.ireturn, 1) := by decide +kernel
theorem dX11_four_0 : decode cX11_four 0 = .ok (.bipush 24, 2) := by decide +kernel
theorem dX11_four_2 : decode cX11_four 2 = .ok (.istore_n 2, 1) := by decide +kernel
theorem dX11_four_3 : decode cX11_four 3 = .ok (.iload_n 2, 1) := by decide +kernel
theorem dX11_four_4 : decode cX11_four 4 = .ok (.ifCond .lt 32, 3) := by decide +kernel
theorem dX11_four_7 : decode cX11_four 7 = .ok (.aload_n 0, 1) := by decide +kernel
theorem dX11_four_8 : decode cX11_four 8 = .ok (.getfield 131, 3) := by decide +kernel
theorem dX11_four_11 : decode cX11_four 11 = .ok (.aload_n 0, 1) := by decide +kernel
theorem dX11_four_12 : decode cX11_four 12 = .ok (.getfield 214, 3) := by decide +kernel
theorem dX11_four_15 : decode cX11_four 15 = .ok (.iload_n 1, 1) := by decide +kernel
theorem dX11_four_16 : decode cX11_four 16 = .ok (.iload_n 2, 1) := by decide +kernel
theorem dX11_four_17 : decode cX11_four 17 = .ok (.ishr, 1) := by decide +kernel
theorem dX11_four_18 : decode cX11_four 18 = .ok (.i2b, 1) := by decide +kernel
theorem dX11_four_19 : decode cX11_four 19 = .ok (.bastore, 1) := by decide +kernel
theorem dX11_four_20 : decode cX11_four 20 = .ok (.aload_n 0, 1) := by decide +kernel
theorem dX11_four_21 : decode cX11_four 21 = .ok (.dup, 1) := by decide +kernel
theorem dX11_four_22 : decode cX11_four 22 = .ok (.getfield 214, 3) := by decide +kernel
theorem dX11_four_25 : decode cX11_four 25 = .ok (.iconst 1, 1) := by decide +kernel
theorem dX11_four_26 : decode cX11_four 26 = .ok (.iadd, 1) := by decide +kernel
theorem dX11_four_27 : decode cX11_four 27 = .ok (.putfield 214, 3) := by decide +kernel
theorem dX11_four_30 : decode cX11_four 30 = .ok (.iinc 2 (-8), 3) := by decide +kernel
theorem dX11_four_33 : decode cX11_four 33 = .ok (.goto (-30), 3) := by decide +kernel
theorem dX11_four_36 : decode cX11_four 36 = .ok (.return_, 1) := by decide +kernel
theorem dX11_blanks_0 : decode cX11_blanks 0 = .ok (.aload_n 0, 1) := by decide +kernel
theorem dX11_blanks_1 : decode cX11_blanks 1 = .ok (.getfield 221, 3) := by decide +kernel
theorem dX11_blanks_4 : decode cX11_blanks 4 = .ok (.aload_n 0, 1) := by decide +kernel
theorem dX11_blanks_5 : decode cX11_blanks 5 = .ok (.getfield 224, 3) := by decide +kernel
theorem dX11_blanks_8 : decode cX11_blanks 8 = .ok (.if_icmp .ge 44, 3) := by decide +kernel
theorem dX11_blanks_11 : decode cX11_blanks 11 = .ok (.aload_n 0, 1) := by decide +kernel
theorem dX11_blanks_12 : decode cX11_blanks 12 = .ok (.getfield 135, 3) := by decide +kernel
theorem dX11_blanks_15 : decode cX11_blanks 15 = .ok (.aload_n 0, 1) := by decide +kernel
theorem dX11_blanks_16 : decode cX11_blanks 16 = .ok (.getfield 221, 3) := by decide +kernel
theorem dX11_blanks_19 : decode cX11_blanks 19 = .ok (.baload, 1) := by decide +kernel
theorem dX11_blanks_20 : decode cX11_blanks 20 = .ok (.bipush 32, 2) := by decide +kernel
theorem dX11_blanks_22 : decode cX11_blanks 22 = .ok (.if_icmp .eq 17, 3) := by decide +kernel
theorem dX11_blanks_25 : decode cX11_blanks 25 = .ok (.aload_n 0, 1) := by decide +kernel
theorem dX11_blanks_26 : decode cX11_blanks 26 = .ok (.getfield 135, 3) := by decide +kernel
theorem dX11_blanks_29 : decode cX11_blanks 29 = .ok (.aload_n 0, 1) := by decide +kernel
theorem dX11_blanks_30 : decode cX11_blanks 30 = .ok (.getfield 221, 3) := by decide +kernel
theorem dX11_blanks_33 : decode cX11_blanks 33 = .ok (.baload, 1) := by decide +kernel
theorem dX11_blanks_34 : decode cX11_blanks 34 = .ok (.bipush 10, 2) := by decide +kernel
theorem dX11_blanks_36 : decode cX11_blanks 36 = .ok (.if_icmp .ne 16, 3) := by decide +kernel
theorem dX11_blanks_39 : decode cX11_blanks 39 = .ok (.aload_n 0, 1) := by decide +kernel
theorem dX11_blanks_40 : decode cX11_blanks 40 = .ok (.dup, 1) := by decide +kernel
theorem dX11_blanks_41 : decode cX11_blanks 41 = .ok (.getfield 221, 3) := by decide +kernel
theorem dX11_blanks_44 : decode cX11_blanks 44 = .ok (.iconst 1, 1) := by decide +kernel
theorem dX11_blanks_45 : decode cX11_blanks 45 = .ok (.iadd, 1) := by decide +kernel
theorem dX11_blanks_46 : decode cX11_blanks 46 = .ok (.putfield 221, 3) := by decide +kernel
theorem dX11_blanks_49 : decode cX11_blanks 49 = .ok (.goto (-49), 3) := by decide +kernel
theorem dX11_blanks_52 : decode cX11_blanks 52 = .ok (.return_, 1) := by decide +kernel
theorem dX11_word_0 : decode cX11_word 0 = .ok (.aload_n 0, 1) := by decide +kernel
theorem dX11_word_1 : decode cX11_word 1 = .ok (.invokevirtual 227, 3) := by decide +kernel
theorem dX11_word_4 : decode cX11_word 4 = .ok (.aload_n 0, 1) := by decide +kernel
theorem dX11_word_5 : decode cX11_word 5 = .ok (.aload_n 0, 1) := by decide +kernel
theorem dX11_word_6 : decode cX11_word 6 = .ok (.getfield 221, 3) := by decide +kernel
theorem dX11_word_9 : decode cX11_word 9 = .ok (.putfield 230, 3) := by decide +kernel
theorem dX11_word_12 : decode cX11_word 12 = .ok (.lconst 0, 1) := by decide +kernel
theorem dX11_word_13 : decode cX11_word 13 = .ok (.lstore_n 1, 1) := by decide +kernel
theorem dX11_word_14 : decode cX11_word 14 = .ok (.aload_n 0, 1) := by decide +kernel
theorem dX11_word_15 : decode cX11_word 15 = .ok (.getfield 230, 3) := by decide +kernel
theorem dX11_word_18 : decode cX11_word 18 = .ok (.aload_n 0, 1) := by decide +kernel
theorem dX11_word_19 : decode cX11_word 19 = .ok (.getfield 224, 3) := by decide +kernel
theorem dX11_word_22 : decode cX11_word 22 = .ok (.if_icmp .ge 78, 3) := by decide +kernel
theorem dX11_word_25 : decode cX11_word 25 = .ok (.aload_n 0, 1) := by decide +kernel
theorem dX11_word_26 : decode cX11_word 26 = .ok (.getfield 135, 3) := by decide +kernel
theorem dX11_word_29 : decode cX11_word 29 = .ok (.aload_n 0, 1) := by decide +kernel
theorem dX11_word_30 : decode cX11_word 30 = .ok (.getfield 230, 3) := by decide +kernel
theorem dX11_word_33 : decode cX11_word 33 = .ok (.baload, 1) := by decide +kernel
theorem dX11_word_34 : decode cX11_word 34 = .ok (.bipush 97, 2) := by decide +kernel
theorem dX11_word_36 : decode cX11_word 36 = .ok (.if_icmp .lt 64, 3) := by decide +kernel
theorem dX11_word_39 : decode cX11_word 39 = .ok (.aload_n 0, 1) := by decide +kernel
theorem dX11_word_40 : decode cX11_word 40 = .ok (.getfield 135, 3) := by decide +kernel
theorem dX11_word_43 : decode cX11_word 43 = .ok (.aload_n 0, 1) := by decide +kernel
theorem dX11_word_44 : decode cX11_word 44 = .ok (.getfield 230, 3) := by decide +kernel
theorem dX11_word_47 : decode cX11_word 47 = .ok (.baload, 1) := by decide +kernel
theorem dX11_word_48 : decode cX11_word 48 = .ok (.bipush 122, 2) := by decide +kernel
theorem dX11_word_50 : decode cX11_word 50 = .ok (.if_icmp .gt 50, 3) := by decide +kernel
theorem dX11_word_53 : decode cX11_word 53 = .ok (.aload_n 0, 1) := by decide +kernel
theorem dX11_word_54 : decode cX11_word 54 = .ok (.getfield 230, 3) := by decide +kernel
theorem dX11_word_57 : decode cX11_word 57 = .ok (.aload_n 0, 1) := by decide +kernel
theorem dX11_word_58 : decode cX11_word 58 = .ok (.getfield 221, 3) := by decide +kernel
theorem dX11_word_61 : decode cX11_word 61 = .ok (.isub, 1) := by decide +kernel
theorem dX11_word_62 : decode cX11_word 62 = .ok (.bipush 7, 2) := by decide +kernel
theorem dX11_word_64 : decode cX11_word 64 = .ok (.if_icmp .ge 21, 3) := by decide +kernel
theorem dX11_word_67 : decode cX11_word 67 = .ok (.lload_n 1, 1) := by decide +kernel
theorem dX11_word_68 : decode cX11_word 68 = .ok (.bipush 8, 2) := by decide +kernel
theorem dX11_word_70 : decode cX11_word 70 = .ok (.lshl, 1) := by decide +kernel
theorem dX11_word_71 : decode cX11_word 71 = .ok (.aload_n 0, 1) := by decide +kernel
theorem dX11_word_72 : decode cX11_word 72 = .ok (.getfield 135, 3) := by decide +kernel
theorem dX11_word_75 : decode cX11_word 75 = .ok (.aload_n 0, 1) := by decide +kernel
theorem dX11_word_76 : decode cX11_word 76 = .ok (.getfield 230, 3) := by decide +kernel
theorem dX11_word_79 : decode cX11_word 79 = .ok (.baload, 1) := by decide +kernel
theorem dX11_word_80 : decode cX11_word 80 = .ok (.i2l, 1) := by decide +kernel
theorem dX11_word_81 : decode cX11_word 81 = .ok (.lor, 1) := by decide +kernel
theorem dX11_word_82 : decode cX11_word 82 = .ok (.goto 4, 3) := by decide +kernel
theorem dX11_word_85 : decode cX11_word 85 = .ok (.lconst 0, 1) := by decide +kernel
theorem dX11_word_86 : decode cX11_word 86 = .ok (.lstore_n 1, 1) := by decide +kernel
theorem dX11_word_87 : decode cX11_word 87 = .ok (.aload_n 0, 1) := by decide +kernel
theorem dX11_word_88 : decode cX11_word 88 = .ok (.dup, 1) := by decide +kernel
theorem dX11_word_89 : decode cX11_word 89 = .ok (.getfield 230, 3) := by decide +kernel
theorem dX11_word_92 : decode cX11_word 92 = .ok (.iconst 1, 1) := by decide +kernel
theorem dX11_word_93 : decode cX11_word 93 = .ok (.iadd, 1) := by decide +kernel
theorem dX11_word_94 : decode cX11_word 94 = .ok (.putfield 230, 3) := by decide +kernel
theorem dX11_word_97 : decode cX11_word 97 = .ok (.goto (-83), 3) := by decide +kernel
theorem dX11_word_100 : decode cX11_word 100 = .ok (.aload_n 0, 1) := by decide +kernel
theorem dX11_word_101 : decode cX11_word 101 = .ok (.getfield 230, 3) := by decide +kernel
theorem dX11_word_104 : decode cX11_word 104 = .ok (.aload_n 0, 1) := by decide +kernel
theorem dX11_word_105 : decode cX11_word 105 = .ok (.getfield 221, 3) := by decide +kernel
theorem dX11_word_108 : decode cX11_word 108 = .ok (.isub, 1) := by decide +kernel
theorem dX11_word_109 : decode cX11_word 109 = .ok (.bipush 7, 2) := by decide +kernel
theorem dX11_word_111 : decode cX11_word 111 = .ok (.if_icmp .le 7, 3) := by decide +kernel
theorem dX11_word_114 : decode cX11_word 114 = .ok (.lconst 0, 1) := by decide +kernel
theorem dX11_word_115 : decode cX11_word 115 = .ok (.goto 4, 3) := by decide +kernel
theorem dX11_word_118 : decode cX11_word 118 = .ok (.lload_n 1, 1) := by decide +kernel
theorem dX11_word_119 : decode cX11_word 119 = .ok (.lreturn, 1) := by decide +kernel
theorem dX11_takes_0 : decode cX11_takes 0 = .ok (.aload_n 0, 1) := by decide +kernel
theorem dX11_takes_1 : decode cX11_takes 1 = .ok (.invokevirtual 233, 3) := by decide +kernel
theorem dX11_takes_4 : decode cX11_takes 4 = .ok (.lload_n 1, 1) := by decide +kernel
theorem dX11_takes_5 : decode cX11_takes 5 = .ok (.lcmp, 1) := by decide +kernel
theorem dX11_takes_6 : decode cX11_takes 6 = .ok (.ifCond .eq 5, 3) := by decide +kernel
theorem dX11_takes_9 : decode cX11_takes 9 = .ok (.iconst 0, 1) := by decide +kernel
theorem dX11_takes_10 : decode cX11_takes 10 = .ok (.ireturn, 1) := by decide +kernel
theorem dX11_takes_11 : decode cX11_takes 11 = .ok (.aload_n 0, 1) := by decide +kernel
theorem dX11_takes_12 : decode cX11_takes 12 = .ok (.aload_n 0, 1) := by decide +kernel
theorem dX11_takes_13 : decode cX11_takes 13 = .ok (.getfield 230, 3) := by decide +kernel
theorem dX11_takes_16 : decode cX11_takes 16 = .ok (.putfield 221, 3) := by decide +kernel
theorem dX11_takes_19 : decode cX11_takes 19 = .ok (.iconst 1, 1) := by decide +kernel
theorem dX11_takes_20 : decode cX11_takes 20 = .ok (.ireturn, 1) := by decide +kernel
theorem dX11_takesSign_0 : decode cX11_takesSign 0 = .ok (.aload_n 0, 1) := by decide +kernel
theorem dX11_takesSign_1 : decode cX11_takesSign 1 = .ok (.invokevirtual 227, 3) := by decide +kernel
theorem dX11_takesSign_4 : decode cX11_takesSign 4 = .ok (.aload_n 0, 1) := by decide +kernel
theorem dX11_takesSign_5 : decode cX11_takesSign 5 = .ok (.getfield 221, 3) := by decide +kernel
theorem dX11_takesSign_8 : decode cX11_takesSign 8 = .ok (.aload_n 0, 1) := by decide +kernel
theorem dX11_takesSign_9 : decode cX11_takesSign 9 = .ok (.getfield 224, 3) := by decide +kernel
theorem dX11_takesSign_12 : decode cX11_takesSign 12 = .ok (.if_icmp .eq 16, 3) := by decide +kernel
theorem dX11_takesSign_15 : decode cX11_takesSign 15 = .ok (.aload_n 0, 1) := by decide +kernel
theorem dX11_takesSign_16 : decode cX11_takesSign 16 = .ok (.getfield 135, 3) := by decide +kernel
theorem dX11_takesSign_19 : decode cX11_takesSign 19 = .ok (.aload_n 0, 1) := by decide +kernel
theorem dX11_takesSign_20 : decode cX11_takesSign 20 = .ok (.getfield 221, 3) := by decide +kernel
theorem dX11_takesSign_23 : decode cX11_takesSign 23 = .ok (.baload, 1) := by decide +kernel
theorem dX11_takesSign_24 : decode cX11_takesSign 24 = .ok (.iload_n 1, 1) := by decide +kernel
theorem dX11_takesSign_25 : decode cX11_takesSign 25 = .ok (.if_icmp .eq 5, 3) := by decide +kernel
theorem dX11_takesSign_28 : decode cX11_takesSign 28 = .ok (.iconst 0, 1) := by decide +kernel
theorem dX11_takesSign_29 : decode cX11_takesSign 29 = .ok (.ireturn, 1) := by decide +kernel
theorem dX11_takesSign_30 : decode cX11_takesSign 30 = .ok (.aload_n 0, 1) := by decide +kernel
theorem dX11_takesSign_31 : decode cX11_takesSign 31 = .ok (.dup, 1) := by decide +kernel
theorem dX11_takesSign_32 : decode cX11_takesSign 32 = .ok (.getfield 221, 3) := by decide +kernel
theorem dX11_takesSign_35 : decode cX11_takesSign 35 = .ok (.iconst 1, 1) := by decide +kernel
theorem dX11_takesSign_36 : decode cX11_takesSign 36 = .ok (.iadd, 1) := by decide +kernel
theorem dX11_takesSign_37 : decode cX11_takesSign 37 = .ok (.putfield 221, 3) := by decide +kernel
theorem dX11_takesSign_40 : decode cX11_takesSign 40 = .ok (.iconst 1, 1) := by decide +kernel
theorem dX11_takesSign_41 : decode cX11_takesSign 41 = .ok (.ireturn, 1) := by decide +kernel
theorem dX11_takesNumber_0 : decode cX11_takesNumber 0 = .ok (.aload_n 0, 1) := by decide +kernel
theorem dX11_takesNumber_1 : decode cX11_takesNumber 1 = .ok (.invokevirtual 227, 3) := by decide +kernel
theorem dX11_takesNumber_4 : decode cX11_takesNumber 4 = .ok (.aload_n 0, 1) := by decide +kernel
theorem dX11_takesNumber_5 : decode cX11_takesNumber 5 = .ok (.getfield 221, 3) := by decide +kernel
theorem dX11_takesNumber_8 : decode cX11_takesNumber 8 = .ok (.istore_n 3, 1) := by decide +kernel
theorem dX11_takesNumber_9 : decode cX11_takesNumber 9 = .ok (.aload_n 0, 1) := by decide +kernel
theorem dX11_takesNumber_10 : decode cX11_takesNumber 10 = .ok (.iconst 0, 1) := by decide +kernel
theorem dX11_takesNumber_11 : decode cX11_takesNumber 11 = .ok (.putfield 237, 3) := by decide +kernel
theorem dX11_takesNumber_14 : decode cX11_takesNumber 14 = .ok (.iload_n 3, 1) := by decide +kernel
theorem dX11_takesNumber_15 : decode cX11_takesNumber 15 = .ok (.aload_n 0, 1) := by decide +kernel
theorem dX11_takesNumber_16 : decode cX11_takesNumber 16 = .ok (.getfield 224, 3) := by decide +kernel
theorem dX11_takesNumber_19 : decode cX11_takesNumber 19 = .ok (.if_icmp .ge 62, 3) := by decide +kernel
theorem dX11_takesNumber_22 : decode cX11_takesNumber 22 = .ok (.aload_n 0, 1) := by decide +kernel
theorem dX11_takesNumber_23 : decode cX11_takesNumber 23 = .ok (.getfield 135, 3) := by decide +kernel
theorem dX11_takesNumber_26 : decode cX11_takesNumber 26 = .ok (.iload_n 3, 1) := by decide +kernel
theorem dX11_takesNumber_27 : decode cX11_takesNumber 27 = .ok (.baload, 1) := by decide +kernel
theorem dX11_takesNumber_28 : decode cX11_takesNumber 28 = .ok (.bipush 48, 2) := by decide +kernel
theorem dX11_takesNumber_30 : decode cX11_takesNumber 30 = .ok (.if_icmp .lt 51, 3) := by decide +kernel
theorem dX11_takesNumber_33 : decode cX11_takesNumber 33 = .ok (.aload_n 0, 1) := by decide +kernel
theorem dX11_takesNumber_34 : decode cX11_takesNumber 34 = .ok (.getfield 135, 3) := by decide +kernel
theorem dX11_takesNumber_37 : decode cX11_takesNumber 37 = .ok (.iload_n 3, 1) := by decide +kernel
theorem dX11_takesNumber_38 : decode cX11_takesNumber 38 = .ok (.baload, 1) := by decide +kernel
theorem dX11_takesNumber_39 : decode cX11_takesNumber 39 = .ok (.bipush 57, 2) := by decide +kernel
theorem dX11_takesNumber_41 : decode cX11_takesNumber 41 = .ok (.if_icmp .gt 40, 3) := by decide +kernel
theorem dX11_takesNumber_44 : decode cX11_takesNumber 44 = .ok (.iload_n 3, 1) := by decide +kernel
theorem dX11_takesNumber_45 : decode cX11_takesNumber 45 = .ok (.aload_n 0, 1) := by decide +kernel
theorem dX11_takesNumber_46 : decode cX11_takesNumber 46 = .ok (.getfield 221, 3) := by decide +kernel
theorem dX11_takesNumber_49 : decode cX11_takesNumber 49 = .ok (.isub, 1) := by decide +kernel
theorem dX11_takesNumber_50 : decode cX11_takesNumber 50 = .ok (.iconst 5, 1) := by decide +kernel
theorem dX11_takesNumber_51 : decode cX11_takesNumber 51 = .ok (.if_icmp .ge 24, 3) := by decide +kernel
theorem dX11_takesNumber_54 : decode cX11_takesNumber 54 = .ok (.aload_n 0, 1) := by decide +kernel
theorem dX11_takesNumber_55 : decode cX11_takesNumber 55 = .ok (.bipush 10, 2) := by decide +kernel
theorem dX11_takesNumber_57 : decode cX11_takesNumber 57 = .ok (.aload_n 0, 1) := by decide +kernel
theorem dX11_takesNumber_58 : decode cX11_takesNumber 58 = .ok (.getfield 237, 3) := by decide +kernel
theorem dX11_takesNumber_61 : decode cX11_takesNumber 61 = .ok (.imul, 1) := by decide +kernel
theorem dX11_takesNumber_62 : decode cX11_takesNumber 62 = .ok (.aload_n 0, 1) := by decide +kernel
theorem dX11_takesNumber_63 : decode cX11_takesNumber 63 = .ok (.getfield 135, 3) := by decide +kernel
theorem dX11_takesNumber_66 : decode cX11_takesNumber 66 = .ok (.iload_n 3, 1) := by decide +kernel
theorem dX11_takesNumber_67 : decode cX11_takesNumber 67 = .ok (.baload, 1) := by decide +kernel
theorem dX11_takesNumber_68 : decode cX11_takesNumber 68 = .ok (.iadd, 1) := by decide +kernel
theorem dX11_takesNumber_69 : decode cX11_takesNumber 69 = .ok (.bipush 48, 2) := by decide +kernel
theorem dX11_takesNumber_71 : decode cX11_takesNumber 71 = .ok (.isub, 1) := by decide +kernel
theorem dX11_takesNumber_72 : decode cX11_takesNumber 72 = .ok (.putfield 237, 3) := by decide +kernel
theorem dX11_takesNumber_75 : decode cX11_takesNumber 75 = .ok (.iinc 3 1, 3) := by decide +kernel
theorem dX11_takesNumber_78 : decode cX11_takesNumber 78 = .ok (.goto (-64), 3) := by decide +kernel
theorem dX11_takesNumber_81 : decode cX11_takesNumber 81 = .ok (.iload_n 3, 1) := by decide +kernel
theorem dX11_takesNumber_82 : decode cX11_takesNumber 82 = .ok (.aload_n 0, 1) := by decide +kernel
theorem dX11_takesNumber_83 : decode cX11_takesNumber 83 = .ok (.getfield 221, 3) := by decide +kernel
theorem dX11_takesNumber_86 : decode cX11_takesNumber 86 = .ok (.if_icmp .eq 25, 3) := by decide +kernel
theorem dX11_takesNumber_89 : decode cX11_takesNumber 89 = .ok (.iload_n 3, 1) := by decide +kernel
theorem dX11_takesNumber_90 : decode cX11_takesNumber 90 = .ok (.aload_n 0, 1) := by decide +kernel
theorem dX11_takesNumber_91 : decode cX11_takesNumber 91 = .ok (.getfield 221, 3) := by decide +kernel
theorem dX11_takesNumber_94 : decode cX11_takesNumber 94 = .ok (.isub, 1) := by decide +kernel
theorem dX11_takesNumber_95 : decode cX11_takesNumber 95 = .ok (.iconst 5, 1) := by decide +kernel
theorem dX11_takesNumber_96 : decode cX11_takesNumber 96 = .ok (.if_icmp .gt 15, 3) := by decide +kernel
theorem dX11_takesNumber_99 : decode cX11_takesNumber 99 = .ok (.aload_n 0, 1) := by decide +kernel
theorem dX11_takesNumber_100 : decode cX11_takesNumber 100 = .ok (.getfield 237, 3) := by decide +kernel
theorem dX11_takesNumber_103 : decode cX11_takesNumber 103 = .ok (.iload_n 1, 1) := by decide +kernel
theorem dX11_takesNumber_104 : decode cX11_takesNumber 104 = .ok (.iload_n 2, 1) := by decide +kernel
theorem dX11_takesNumber_105 : decode cX11_takesNumber 105 = .ok (.invokestatic 165, 3) := by decide +kernel
theorem dX11_takesNumber_108 : decode cX11_takesNumber 108 = .ok (.ifCond .ne 5, 3) := by decide +kernel
theorem dX11_takesNumber_111 : decode cX11_takesNumber 111 = .ok (.iconst 0, 1) := by decide +kernel
theorem dX11_takesNumber_112 : decode cX11_takesNumber 112 = .ok (.ireturn, 1) := by decide +kernel
theorem dX11_takesNumber_113 : decode cX11_takesNumber 113 = .ok (.aload_n 0, 1) := by decide +kernel
theorem dX11_takesNumber_114 : decode cX11_takesNumber 114 = .ok (.iload_n 3, 1) := by decide +kernel
theorem dX11_takesNumber_115 : decode cX11_takesNumber 115 = .ok (.putfield 221, 3) := by decide +kernel
theorem dX11_takesNumber_118 : decode cX11_takesNumber 118 = .ok (.iconst 1, 1) := by decide +kernel
theorem dX11_takesNumber_119 : decode cX11_takesNumber 119 = .ok (.ireturn, 1) := by decide +kernel
theorem dX11_takesPlain_0 : decode cX11_takesPlain 0 = .ok (.aload_n 0, 1) := by decide +kernel
theorem dX11_takesPlain_1 : decode cX11_takesPlain 1 = .ok (.iconst 0, 1) := by decide +kernel
theorem dX11_takesPlain_2 : decode cX11_takesPlain 2 = .ok (.ldc 176, 2) := by decide +kernel
theorem dX11_takesPlain_4 : decode cX11_takesPlain 4 = .ok (.invokevirtual 240, 3) := by decide +kernel
theorem dX11_takesPlain_7 : decode cX11_takesPlain 7 = .ok (.ireturn, 1) := by decide +kernel
theorem dX11_node_0 : decode cX11_node 0 = .ok (.ldc 244, 2) := by decide +kernel
theorem dX11_node_2 : decode cX11_node 2 = .ok (.aload_n 0, 1) := by decide +kernel
theorem dX11_node_3 : decode cX11_node 3 = .ok (.getfield 78, 3) := by decide +kernel
theorem dX11_node_6 : decode cX11_node 6 = .ok (.bipush 13, 2) := by decide +kernel
theorem dX11_node_8 : decode cX11_node 8 = .ok (.iaload, 1) := by decide +kernel
theorem dX11_node_9 : decode cX11_node 9 = .ok (.iadd, 1) := by decide +kernel
theorem dX11_node_10 : decode cX11_node 10 = .ok (.istore_n 2, 1) := by decide +kernel
theorem dX11_node_11 : decode cX11_node 11 = .ok (.aload_n 0, 1) := by decide +kernel
theorem dX11_node_12 : decode cX11_node 12 = .ok (.getfield 109, 3) := by decide +kernel
theorem dX11_node_15 : decode cX11_node 15 = .ok (.iload_n 2, 1) := by decide +kernel
theorem dX11_node_16 : decode cX11_node 16 = .ok (.iload_n 1, 1) := by decide +kernel
theorem dX11_node_17 : decode cX11_node 17 = .ok (.iastore, 1) := by decide +kernel
theorem dX11_node_18 : decode cX11_node 18 = .ok (.aload_n 0, 1) := by decide +kernel
theorem dX11_node_19 : decode cX11_node 19 = .ok (.getfield 112, 3) := by decide +kernel
theorem dX11_node_22 : decode cX11_node 22 = .ok (.iload_n 2, 1) := by decide +kernel
theorem dX11_node_23 : decode cX11_node 23 = .ok (.iconst (-1), 1) := by decide +kernel
theorem dX11_node_24 : decode cX11_node 24 = .ok (.iastore, 1) := by decide +kernel
theorem dX11_node_25 : decode cX11_node 25 = .ok (.aload_n 0, 1) := by decide +kernel
theorem dX11_node_26 : decode cX11_node 26 = .ok (.getfield 115, 3) := by decide +kernel
theorem dX11_node_29 : decode cX11_node 29 = .ok (.iload_n 2, 1) := by decide +kernel
theorem dX11_node_30 : decode cX11_node 30 = .ok (.iconst (-1), 1) := by decide +kernel
theorem dX11_node_31 : decode cX11_node 31 = .ok (.iastore, 1) := by decide +kernel
theorem dX11_node_32 : decode cX11_node 32 = .ok (.aload_n 0, 1) := by decide +kernel
theorem dX11_node_33 : decode cX11_node 33 = .ok (.getfield 78, 3) := by decide +kernel
theorem dX11_node_36 : decode cX11_node 36 = .ok (.bipush 13, 2) := by decide +kernel
theorem dX11_node_38 : decode cX11_node 38 = .ok (.dup2, 1) := by decide +kernel
theorem dX11_node_39 : decode cX11_node 39 = .ok (.iaload, 1) := by decide +kernel
theorem dX11_node_40 : decode cX11_node 40 = .ok (.iconst 1, 1) := by decide +kernel
theorem dX11_node_41 : decode cX11_node 41 = .ok (.iadd, 1) := by decide +kernel
theorem dX11_node_42 : decode cX11_node 42 = .ok (.iastore, 1) := by decide +kernel
theorem dX11_node_43 : decode cX11_node 43 = .ok (.iload_n 2, 1) := by decide +kernel
theorem dX11_node_44 : decode cX11_node 44 = .ok (.ireturn, 1) := by decide +kernel
theorem dX11_any_0 : decode cX11_any 0 = .ok (.aload_n 0, 1) := by decide +kernel
theorem dX11_any_1 : decode cX11_any 1 = .ok (.iconst 0, 1) := by decide +kernel
theorem dX11_any_2 : decode cX11_any 2 = .ok (.invokevirtual 245, 3) := by decide +kernel
theorem dX11_any_5 : decode cX11_any 5 = .ok (.istore_n 1, 1) := by decide +kernel
theorem dX11_any_6 : decode cX11_any 6 = .ok (.iconst (-1), 1) := by decide +kernel
theorem dX11_any_7 : decode cX11_any 7 = .ok (.istore_n 2, 1) := by decide +kernel
theorem dX11_any_8 : decode cX11_any 8 = .ok (.aload_n 0, 1) := by decide +kernel
theorem dX11_any_9 : decode cX11_any 9 = .ok (.invokevirtual 248, 3) := by decide +kernel
theorem dX11_any_12 : decode cX11_any 12 = .ok (.istore_n 3, 1) := by decide +kernel
theorem dX11_any_13 : decode cX11_any 13 = .ok (.iload_n 3, 1) := by decide +kernel
theorem dX11_any_14 : decode cX11_any 14 = .ok (.iconst (-1), 1) := by decide +kernel
theorem dX11_any_15 : decode cX11_any 15 = .ok (.if_icmp .ne 5, 3) := by decide +kernel
theorem dX11_any_18 : decode cX11_any 18 = .ok (.iconst (-1), 1) := by decide +kernel
theorem dX11_any_19 : decode cX11_any 19 = .ok (.ireturn, 1) := by decide +kernel
theorem dX11_any_20 : decode cX11_any 20 = .ok (.iload_n 2, 1) := by decide +kernel
theorem dX11_any_21 : decode cX11_any 21 = .ok (.iconst (-1), 1) := by decide +kernel
theorem dX11_any_22 : decode cX11_any 22 = .ok (.if_icmp .ne 13, 3) := by decide +kernel
theorem dX11_any_25 : decode cX11_any 25 = .ok (.aload_n 0, 1) := by decide +kernel
theorem dX11_any_26 : decode cX11_any 26 = .ok (.getfield 112, 3) := by decide +kernel
theorem dX11_any_29 : decode cX11_any 29 = .ok (.iload_n 1, 1) := by decide +kernel
theorem dX11_any_30 : decode cX11_any 30 = .ok (.iload_n 3, 1) := by decide +kernel
theorem dX11_any_31 : decode cX11_any 31 = .ok (.iastore, 1) := by decide +kernel
theorem dX11_any_32 : decode cX11_any 32 = .ok (.goto 10, 3) := by decide +kernel
theorem dX11_any_35 : decode cX11_any 35 = .ok (.aload_n 0, 1) := by decide +kernel
theorem dX11_any_36 : decode cX11_any 36 = .ok (.getfield 115, 3) := by decide +kernel
theorem dX11_any_39 : decode cX11_any 39 = .ok (.iload_n 2, 1) := by decide +kernel
theorem dX11_any_40 : decode cX11_any 40 = .ok (.iload_n 3, 1) := by decide +kernel
theorem dX11_any_41 : decode cX11_any 41 = .ok (.iastore, 1) := by decide +kernel
theorem dX11_any_42 : decode cX11_any 42 = .ok (.iload_n 3, 1) := by decide +kernel
theorem dX11_any_43 : decode cX11_any 43 = .ok (.istore_n 2, 1) := by decide +kernel
theorem dX11_any_44 : decode cX11_any 44 = .ok (.aload_n 0, 1) := by decide +kernel
theorem dX11_any_45 : decode cX11_any 45 = .ok (.ldc2_w 252, 3) := by decide +kernel
theorem dX11_any_48 : decode cX11_any 48 = .ok (.invokevirtual 254, 3) := by decide +kernel
theorem dX11_any_51 : decode cX11_any 51 = .ok (.ifCond .ne (-43), 3) := by decide +kernel
theorem dX11_any_54 : decode cX11_any 54 = .ok (.iload_n 1, 1) := by decide +kernel
theorem dX11_any_55 : decode cX11_any 55 = .ok (.ireturn, 1) := by decide +kernel
theorem dX11_all_0 : decode cX11_all 0 = .ok (.aload_n 0, 1) := by decide +kernel
theorem dX11_all_1 : decode cX11_all 1 = .ok (.iconst 1, 1) := by decide +kernel
theorem dX11_all_2 : decode cX11_all 2 = .ok (.invokevirtual 245, 3) := by decide +kernel
theorem dX11_all_5 : decode cX11_all 5 = .ok (.istore_n 1, 1) := by decide +kernel
theorem dX11_all_6 : decode cX11_all 6 = .ok (.iconst (-1), 1) := by decide +kernel
theorem dX11_all_7 : decode cX11_all 7 = .ok (.istore_n 2, 1) := by decide +kernel
theorem dX11_all_8 : decode cX11_all 8 = .ok (.aload_n 0, 1) := by decide +kernel
theorem dX11_all_9 : decode cX11_all 9 = .ok (.invokevirtual 258, 3) := by decide +kernel
theorem dX11_all_12 : decode cX11_all 12 = .ok (.istore_n 3, 1) := by decide +kernel
theorem dX11_all_13 : decode cX11_all 13 = .ok (.iload_n 3, 1) := by decide +kernel
theorem dX11_all_14 : decode cX11_all 14 = .ok (.iconst (-1), 1) := by decide +kernel
theorem dX11_all_15 : decode cX11_all 15 = .ok (.if_icmp .ne 5, 3) := by decide +kernel
theorem dX11_all_18 : decode cX11_all 18 = .ok (.iconst (-1), 1) := by decide +kernel
theorem dX11_all_19 : decode cX11_all 19 = .ok (.ireturn, 1) := by decide +kernel
theorem dX11_all_20 : decode cX11_all 20 = .ok (.iload_n 2, 1) := by decide +kernel
theorem dX11_all_21 : decode cX11_all 21 = .ok (.iconst (-1), 1) := by decide +kernel
theorem dX11_all_22 : decode cX11_all 22 = .ok (.if_icmp .ne 13, 3) := by decide +kernel
theorem dX11_all_25 : decode cX11_all 25 = .ok (.aload_n 0, 1) := by decide +kernel
theorem dX11_all_26 : decode cX11_all 26 = .ok (.getfield 112, 3) := by decide +kernel
theorem dX11_all_29 : decode cX11_all 29 = .ok (.iload_n 1, 1) := by decide +kernel
theorem dX11_all_30 : decode cX11_all 30 = .ok (.iload_n 3, 1) := by decide +kernel
theorem dX11_all_31 : decode cX11_all 31 = .ok (.iastore, 1) := by decide +kernel
theorem dX11_all_32 : decode cX11_all 32 = .ok (.goto 10, 3) := by decide +kernel
theorem dX11_all_35 : decode cX11_all 35 = .ok (.aload_n 0, 1) := by decide +kernel
theorem dX11_all_36 : decode cX11_all 36 = .ok (.getfield 115, 3) := by decide +kernel
theorem dX11_all_39 : decode cX11_all 39 = .ok (.iload_n 2, 1) := by decide +kernel
theorem dX11_all_40 : decode cX11_all 40 = .ok (.iload_n 3, 1) := by decide +kernel
theorem dX11_all_41 : decode cX11_all 41 = .ok (.iastore, 1) := by decide +kernel
theorem dX11_all_42 : decode cX11_all 42 = .ok (.iload_n 3, 1) := by decide +kernel
theorem dX11_all_43 : decode cX11_all 43 = .ok (.istore_n 2, 1) := by decide +kernel
theorem dX11_all_44 : decode cX11_all 44 = .ok (.aload_n 0, 1) := by decide +kernel
theorem dX11_all_45 : decode cX11_all 45 = .ok (.ldc2_w 261, 3) := by decide +kernel
theorem dX11_all_48 : decode cX11_all 48 = .ok (.invokevirtual 254, 3) := by decide +kernel
theorem dX11_all_51 : decode cX11_all 51 = .ok (.ifCond .ne (-43), 3) := by decide +kernel
theorem dX11_all_54 : decode cX11_all 54 = .ok (.iload_n 1, 1) := by decide +kernel
theorem dX11_all_55 : decode cX11_all 55 = .ok (.ireturn, 1) := by decide +kernel
theorem dX11_asked_0 : decode cX11_asked 0 = .ok (.lload_n 0, 1) := by decide +kernel
theorem dX11_asked_1 : decode cX11_asked 1 = .ok (.ldc2_w 263, 3) := by decide +kernel
theorem dX11_asked_4 : decode cX11_asked 4 = .ok (.lcmp, 1) := by decide +kernel
theorem dX11_asked_5 : decode cX11_asked 5 = .ok (.ifCond .ne 7, 3) := by decide +kernel
theorem dX11_asked_8 : decode cX11_asked 8 = .ok (.iconst 0, 1) := by decide +kernel
theorem dX11_asked_9 : decode cX11_asked 9 = .ok (.goto 52, 3) := by decide +kernel
theorem dX11_asked_12 : decode cX11_asked 12 = .ok (.lload_n 0, 1) := by decide +kernel
theorem dX11_asked_13 : decode cX11_asked 13 = .ok (.ldc2_w 265, 3) := by decide +kernel
theorem dX11_asked_16 : decode cX11_asked 16 = .ok (.lcmp, 1) := by decide +kernel
theorem dX11_asked_17 : decode cX11_asked 17 = .ok (.ifCond .ne 7, 3) := by decide +kernel
theorem dX11_asked_20 : decode cX11_asked 20 = .ok (.iconst 1, 1) := by decide +kernel
theorem dX11_asked_21 : decode cX11_asked 21 = .ok (.goto 40, 3) := by decide +kernel
theorem dX11_asked_24 : decode cX11_asked 24 = .ok (.lload_n 0, 1) := by decide +kernel
theorem dX11_asked_25 : decode cX11_asked 25 = .ok (.ldc2_w 267, 3) := by decide +kernel
theorem dX11_asked_28 : decode cX11_asked 28 = .ok (.lcmp, 1) := by decide +kernel
theorem dX11_asked_29 : decode cX11_asked 29 = .ok (.ifCond .ne 7, 3) := by decide +kernel
theorem dX11_asked_32 : decode cX11_asked 32 = .ok (.iconst 2, 1) := by decide +kernel
theorem dX11_asked_33 : decode cX11_asked 33 = .ok (.goto 28, 3) := by decide +kernel
theorem dX11_asked_36 : decode cX11_asked 36 = .ok (.lload_n 0, 1) := by decide +kernel
theorem dX11_asked_37 : decode cX11_asked 37 = .ok (.ldc2_w 269, 3) := by decide +kernel
theorem dX11_asked_40 : decode cX11_asked 40 = .ok (.lcmp, 1) := by decide +kernel
theorem dX11_asked_41 : decode cX11_asked 41 = .ok (.ifCond .ne 7, 3) := by decide +kernel
theorem dX11_asked_44 : decode cX11_asked 44 = .ok (.iconst 3, 1) := by decide +kernel
theorem dX11_asked_45 : decode cX11_asked 45 = .ok (.goto 16, 3) := by decide +kernel
theorem dX11_asked_48 : decode cX11_asked 48 = .ok (.lload_n 0, 1) := by decide +kernel
theorem dX11_asked_49 : decode cX11_asked 49 = .ok (.ldc2_w 271, 3) := by decide +kernel
theorem dX11_asked_52 : decode cX11_asked 52 = .ok (.lcmp, 1) := by decide +kernel
theorem dX11_asked_53 : decode cX11_asked 53 = .ok (.ifCond .ne 7, 3) := by decide +kernel
theorem dX11_asked_56 : decode cX11_asked 56 = .ok (.iconst 4, 1) := by decide +kernel
theorem dX11_asked_57 : decode cX11_asked 57 = .ok (.goto 4, 3) := by decide +kernel
theorem dX11_asked_60 : decode cX11_asked 60 = .ok (.iconst (-1), 1) := by decide +kernel
theorem dX11_asked_61 : decode cX11_asked 61 = .ok (.ireturn, 1) := by decide +kernel
theorem dX11_single_0 : decode cX11_single 0 = .ok (.aload_n 0, 1) := by decide +kernel
theorem dX11_single_1 : decode cX11_single 1 = .ok (.invokevirtual 233, 3) := by decide +kernel
theorem dX11_single_4 : decode cX11_single 4 = .ok (.ldc2_w 273, 3) := by decide +kernel
theorem dX11_single_7 : decode cX11_single 7 = .ok (.lcmp, 1) := by decide +kernel
theorem dX11_single_8 : decode cX11_single 8 = .ok (.ifCond .ne 71, 3) := by decide +kernel
theorem dX11_single_11 : decode cX11_single 11 = .ok (.aload_n 0, 1) := by decide +kernel
theorem dX11_single_12 : decode cX11_single 12 = .ok (.getfield 275, 3) := by decide +kernel
theorem dX11_single_15 : decode cX11_single 15 = .ok (.bipush 10, 2) := by decide +kernel
theorem dX11_single_17 : decode cX11_single 17 = .ok (.if_icmp .ne 5, 3) := by decide +kernel
theorem dX11_single_20 : decode cX11_single 20 = .ok (.iconst (-1), 1) := by decide +kernel
theorem dX11_single_21 : decode cX11_single 21 = .ok (.ireturn, 1) := by decide +kernel
theorem dX11_single_22 : decode cX11_single 22 = .ok (.aload_n 0, 1) := by decide +kernel
theorem dX11_single_23 : decode cX11_single 23 = .ok (.dup, 1) := by decide +kernel
theorem dX11_single_24 : decode cX11_single 24 = .ok (.getfield 275, 3) := by decide +kernel
theorem dX11_single_27 : decode cX11_single 27 = .ok (.iconst 1, 1) := by decide +kernel
theorem dX11_single_28 : decode cX11_single 28 = .ok (.iadd, 1) := by decide +kernel
theorem dX11_single_29 : decode cX11_single 29 = .ok (.putfield 275, 3) := by decide +kernel
theorem dX11_single_32 : decode cX11_single 32 = .ok (.aload_n 0, 1) := by decide +kernel
theorem dX11_single_33 : decode cX11_single 33 = .ok (.aload_n 0, 1) := by decide +kernel
theorem dX11_single_34 : decode cX11_single 34 = .ok (.getfield 230, 3) := by decide +kernel
theorem dX11_single_37 : decode cX11_single 37 = .ok (.putfield 221, 3) := by decide +kernel
theorem dX11_single_40 : decode cX11_single 40 = .ok (.aload_n 0, 1) := by decide +kernel
theorem dX11_single_41 : decode cX11_single 41 = .ok (.iconst 2, 1) := by decide +kernel
theorem dX11_single_42 : decode cX11_single 42 = .ok (.invokevirtual 245, 3) := by decide +kernel
theorem dX11_single_45 : decode cX11_single 45 = .ok (.istore_n 1, 1) := by decide +kernel
theorem dX11_single_46 : decode cX11_single 46 = .ok (.aload_n 0, 1) := by decide +kernel
theorem dX11_single_47 : decode cX11_single 47 = .ok (.invokevirtual 258, 3) := by decide +kernel
theorem dX11_single_50 : decode cX11_single 50 = .ok (.istore_n 2, 1) := by decide +kernel
theorem dX11_single_51 : decode cX11_single 51 = .ok (.aload_n 0, 1) := by decide +kernel
theorem dX11_single_52 : decode cX11_single 52 = .ok (.getfield 112, 3) := by decide +kernel
theorem dX11_single_55 : decode cX11_single 55 = .ok (.iload_n 1, 1) := by decide +kernel
theorem dX11_single_56 : decode cX11_single 56 = .ok (.iload_n 2, 1) := by decide +kernel
theorem dX11_single_57 : decode cX11_single 57 = .ok (.iastore, 1) := by decide +kernel
theorem dX11_single_58 : decode cX11_single 58 = .ok (.aload_n 0, 1) := by decide +kernel
theorem dX11_single_59 : decode cX11_single 59 = .ok (.dup, 1) := by decide +kernel
theorem dX11_single_60 : decode cX11_single 60 = .ok (.getfield 275, 3) := by decide +kernel
theorem dX11_single_63 : decode cX11_single 63 = .ok (.iconst 1, 1) := by decide +kernel
theorem dX11_single_64 : decode cX11_single 64 = .ok (.isub, 1) := by decide +kernel
theorem dX11_single_65 : decode cX11_single 65 = .ok (.putfield 275, 3) := by decide +kernel
theorem dX11_single_68 : decode cX11_single 68 = .ok (.iload_n 2, 1) := by decide +kernel
theorem dX11_single_69 : decode cX11_single 69 = .ok (.iconst (-1), 1) := by decide +kernel
theorem dX11_single_70 : decode cX11_single 70 = .ok (.if_icmp .ne 7, 3) := by decide +kernel
theorem dX11_single_73 : decode cX11_single 73 = .ok (.iconst (-1), 1) := by decide +kernel
theorem dX11_single_74 : decode cX11_single 74 = .ok (.goto 4, 3) := by decide +kernel
theorem dX11_single_77 : decode cX11_single 77 = .ok (.iload_n 1, 1) := by decide +kernel
theorem dX11_single_78 : decode cX11_single 78 = .ok (.ireturn, 1) := by decide +kernel
theorem dX11_single_79 : decode cX11_single 79 = .ok (.aload_n 0, 1) := by decide +kernel
theorem dX11_single_80 : decode cX11_single 80 = .ok (.getfield 221, 3) := by decide +kernel
theorem dX11_single_83 : decode cX11_single 83 = .ok (.aload_n 0, 1) := by decide +kernel
theorem dX11_single_84 : decode cX11_single 84 = .ok (.getfield 224, 3) := by decide +kernel
theorem dX11_single_87 : decode cX11_single 87 = .ok (.if_icmp .ge 83, 3) := by decide +kernel
theorem dX11_single_90 : decode cX11_single 90 = .ok (.aload_n 0, 1) := by decide +kernel
theorem dX11_single_91 : decode cX11_single 91 = .ok (.getfield 135, 3) := by decide +kernel
theorem dX11_single_94 : decode cX11_single 94 = .ok (.aload_n 0, 1) := by decide +kernel
theorem dX11_single_95 : decode cX11_single 95 = .ok (.getfield 221, 3) := by decide +kernel
theorem dX11_single_98 : decode cX11_single 98 = .ok (.baload, 1) := by decide +kernel
theorem dX11_single_99 : decode cX11_single 99 = .ok (.bipush 40, 2) := by decide +kernel
theorem dX11_single_101 : decode cX11_single 101 = .ok (.if_icmp .ne 69, 3) := by decide +kernel
theorem dX11_single_104 : decode cX11_single 104 = .ok (.aload_n 0, 1) := by decide +kernel
theorem dX11_single_105 : decode cX11_single 105 = .ok (.getfield 275, 3) := by decide +kernel
theorem dX11_single_108 : decode cX11_single 108 = .ok (.bipush 10, 2) := by decide +kernel
theorem dX11_single_110 : decode cX11_single 110 = .ok (.if_icmp .ne 5, 3) := by decide +kernel
theorem dX11_single_113 : decode cX11_single 113 = .ok (.iconst (-1), 1) := by decide +kernel
theorem dX11_single_114 : decode cX11_single 114 = .ok (.ireturn, 1) := by decide +kernel
theorem dX11_single_115 : decode cX11_single 115 = .ok (.aload_n 0, 1) := by decide +kernel
theorem dX11_single_116 : decode cX11_single 116 = .ok (.dup, 1) := by decide +kernel
theorem dX11_single_117 : decode cX11_single 117 = .ok (.getfield 275, 3) := by decide +kernel
theorem dX11_single_120 : decode cX11_single 120 = .ok (.iconst 1, 1) := by decide +kernel
theorem dX11_single_121 : decode cX11_single 121 = .ok (.iadd, 1) := by decide +kernel
theorem dX11_single_122 : decode cX11_single 122 = .ok (.putfield 275, 3) := by decide +kernel
theorem dX11_single_125 : decode cX11_single 125 = .ok (.aload_n 0, 1) := by decide +kernel
theorem dX11_single_126 : decode cX11_single 126 = .ok (.dup, 1) := by decide +kernel
theorem dX11_single_127 : decode cX11_single 127 = .ok (.getfield 221, 3) := by decide +kernel
theorem dX11_single_130 : decode cX11_single 130 = .ok (.iconst 1, 1) := by decide +kernel
theorem dX11_single_131 : decode cX11_single 131 = .ok (.iadd, 1) := by decide +kernel
theorem dX11_single_132 : decode cX11_single 132 = .ok (.putfield 221, 3) := by decide +kernel
theorem dX11_single_135 : decode cX11_single 135 = .ok (.aload_n 0, 1) := by decide +kernel
theorem dX11_single_136 : decode cX11_single 136 = .ok (.invokevirtual 278, 3) := by decide +kernel
theorem dX11_single_139 : decode cX11_single 139 = .ok (.istore_n 1, 1) := by decide +kernel
theorem dX11_single_140 : decode cX11_single 140 = .ok (.aload_n 0, 1) := by decide +kernel
theorem dX11_single_141 : decode cX11_single 141 = .ok (.dup, 1) := by decide +kernel
theorem dX11_single_142 : decode cX11_single 142 = .ok (.getfield 275, 3) := by decide +kernel
theorem dX11_single_145 : decode cX11_single 145 = .ok (.iconst 1, 1) := by decide +kernel
theorem dX11_single_146 : decode cX11_single 146 = .ok (.isub, 1) := by decide +kernel
theorem dX11_single_147 : decode cX11_single 147 = .ok (.putfield 275, 3) := by decide +kernel
theorem dX11_single_150 : decode cX11_single 150 = .ok (.iload_n 1, 1) := by decide +kernel
theorem dX11_single_151 : decode cX11_single 151 = .ok (.iconst (-1), 1) := by decide +kernel
theorem dX11_single_152 : decode cX11_single 152 = .ok (.if_icmp .eq 12, 3) := by decide +kernel
theorem dX11_single_155 : decode cX11_single 155 = .ok (.aload_n 0, 1) := by decide +kernel
theorem dX11_single_156 : decode cX11_single 156 = .ok (.bipush 41, 2) := by decide +kernel
theorem dX11_single_158 : decode cX11_single 158 = .ok (.invokevirtual 281, 3) := by decide +kernel
theorem dX11_single_161 : decode cX11_single 161 = .ok (.ifCond .ne 7, 3) := by decide +kernel
theorem dX11_single_164 : decode cX11_single 164 = .ok (.iconst (-1), 1) := by decide +kernel
theorem dX11_single_165 : decode cX11_single 165 = .ok (.goto 4, 3) := by decide +kernel
theorem dX11_single_168 : decode cX11_single 168 = .ok (.iload_n 1, 1) := by decide +kernel
theorem dX11_single_169 : decode cX11_single 169 = .ok (.ireturn, 1) := by decide +kernel
theorem dX11_single_170 : decode cX11_single 170 = .ok (.aload_n 0, 1) := by decide +kernel
theorem dX11_single_171 : decode cX11_single 171 = .ok (.iconst 3, 1) := by decide +kernel
theorem dX11_single_172 : decode cX11_single 172 = .ok (.invokevirtual 245, 3) := by decide +kernel
theorem dX11_single_175 : decode cX11_single 175 = .ok (.istore_n 1, 1) := by decide +kernel
theorem dX11_single_176 : decode cX11_single 176 = .ok (.aload_n 0, 1) := by decide +kernel
theorem dX11_single_177 : decode cX11_single 177 = .ok (.getfield 118, 3) := by decide +kernel
theorem dX11_single_180 : decode cX11_single 180 = .ok (.iload_n 1, 1) := by decide +kernel
theorem dX11_single_181 : decode cX11_single 181 = .ok (.aload_n 0, 1) := by decide +kernel
theorem dX11_single_182 : decode cX11_single 182 = .ok (.invokevirtual 233, 3) := by decide +kernel
theorem dX11_single_185 : decode cX11_single 185 = .ok (.invokestatic 284, 3) := by decide +kernel
theorem dX11_single_188 : decode cX11_single 188 = .ok (.iastore, 1) := by decide +kernel
theorem dX11_single_189 : decode cX11_single 189 = .ok (.aload_n 0, 1) := by decide +kernel
theorem dX11_single_190 : decode cX11_single 190 = .ok (.getfield 118, 3) := by decide +kernel
theorem dX11_single_193 : decode cX11_single 193 = .ok (.iload_n 1, 1) := by decide +kernel
theorem dX11_single_194 : decode cX11_single 194 = .ok (.iaload, 1) := by decide +kernel
theorem dX11_single_195 : decode cX11_single 195 = .ok (.iconst (-1), 1) := by decide +kernel
theorem dX11_single_196 : decode cX11_single 196 = .ok (.if_icmp .ne 5, 3) := by decide +kernel
theorem dX11_single_199 : decode cX11_single 199 = .ok (.iconst (-1), 1) := by decide +kernel
theorem dX11_single_200 : decode cX11_single 200 = .ok (.ireturn, 1) := by decide +kernel
theorem dX11_single_201 : decode cX11_single 201 = .ok (.aload_n 0, 1) := by decide +kernel
theorem dX11_single_202 : decode cX11_single 202 = .ok (.aload_n 0, 1) := by decide +kernel
theorem dX11_single_203 : decode cX11_single 203 = .ok (.getfield 230, 3) := by decide +kernel
theorem dX11_single_206 : decode cX11_single 206 = .ok (.putfield 221, 3) := by decide +kernel
theorem dX11_single_209 : decode cX11_single 209 = .ok (.aload_n 0, 1) := by decide +kernel
theorem dX11_single_210 : decode cX11_single 210 = .ok (.getfield 121, 3) := by decide +kernel
theorem dX11_single_213 : decode cX11_single 213 = .ok (.iload_n 1, 1) := by decide +kernel
theorem dX11_single_214 : decode cX11_single 214 = .ok (.aload_n 0, 1) := by decide +kernel
theorem dX11_single_215 : decode cX11_single 215 = .ok (.bipush 60, 2) := by decide +kernel
theorem dX11_single_217 : decode cX11_single 217 = .ok (.invokevirtual 281, 3) := by decide +kernel
theorem dX11_single_220 : decode cX11_single 220 = .ok (.ifCond .eq 8, 3) := by decide +kernel
theorem dX11_single_223 : decode cX11_single 223 = .ok (.bipush 60, 2) := by decide +kernel
theorem dX11_single_225 : decode cX11_single 225 = .ok (.goto 32, 3) := by decide +kernel
theorem dX11_single_228 : decode cX11_single 228 = .ok (.aload_n 0, 1) := by decide +kernel
theorem dX11_single_229 : decode cX11_single 229 = .ok (.bipush 62, 2) := by decide +kernel
theorem dX11_single_231 : decode cX11_single 231 = .ok (.invokevirtual 281, 3) := by decide +kernel
theorem dX11_single_234 : decode cX11_single 234 = .ok (.ifCond .eq 8, 3) := by decide +kernel
theorem dX11_single_237 : decode cX11_single 237 = .ok (.bipush 62, 2) := by decide +kernel
theorem dX11_single_239 : decode cX11_single 239 = .ok (.goto 18, 3) := by decide +kernel
theorem dX11_single_242 : decode cX11_single 242 = .ok (.aload_n 0, 1) := by decide +kernel
theorem dX11_single_243 : decode cX11_single 243 = .ok (.bipush 61, 2) := by decide +kernel
theorem dX11_single_245 : decode cX11_single 245 = .ok (.invokevirtual 281, 3) := by decide +kernel
theorem dX11_single_248 : decode cX11_single 248 = .ok (.ifCond .eq 8, 3) := by decide +kernel
theorem dX11_single_251 : decode cX11_single 251 = .ok (.bipush 61, 2) := by decide +kernel
theorem dX11_single_253 : decode cX11_single 253 = .ok (.goto 4, 3) := by decide +kernel
theorem dX11_single_256 : decode cX11_single 256 = .ok (.iconst (-1), 1) := by decide +kernel
theorem dX11_single_257 : decode cX11_single 257 = .ok (.iastore, 1) := by decide +kernel
theorem dX11_single_258 : decode cX11_single 258 = .ok (.aload_n 0, 1) := by decide +kernel
theorem dX11_single_259 : decode cX11_single 259 = .ok (.getfield 121, 3) := by decide +kernel
theorem dX11_single_262 : decode cX11_single 262 = .ok (.iload_n 1, 1) := by decide +kernel
theorem dX11_single_263 : decode cX11_single 263 = .ok (.iaload, 1) := by decide +kernel
theorem dX11_single_264 : decode cX11_single 264 = .ok (.iconst (-1), 1) := by decide +kernel
theorem dX11_single_265 : decode cX11_single 265 = .ok (.if_icmp .eq 10, 3) := by decide +kernel
theorem dX11_single_268 : decode cX11_single 268 = .ok (.aload_n 0, 1) := by decide +kernel
theorem dX11_single_269 : decode cX11_single 269 = .ok (.invokevirtual 288, 3) := by decide +kernel
theorem dX11_single_272 : decode cX11_single 272 = .ok (.ifCond .ne 5, 3) := by decide +kernel
theorem dX11_single_275 : decode cX11_single 275 = .ok (.iconst (-1), 1) := by decide +kernel
theorem dX11_single_276 : decode cX11_single 276 = .ok (.ireturn, 1) := by decide +kernel
theorem dX11_single_277 : decode cX11_single 277 = .ok (.aload_n 0, 1) := by decide +kernel
theorem dX11_single_278 : decode cX11_single 278 = .ok (.getfield 124, 3) := by decide +kernel
theorem dX11_single_281 : decode cX11_single 281 = .ok (.iload_n 1, 1) := by decide +kernel
theorem dX11_single_282 : decode cX11_single 282 = .ok (.aload_n 0, 1) := by decide +kernel
theorem dX11_single_283 : decode cX11_single 283 = .ok (.getfield 237, 3) := by decide +kernel
theorem dX11_single_286 : decode cX11_single 286 = .ok (.iastore, 1) := by decide +kernel
theorem dX11_single_287 : decode cX11_single 287 = .ok (.iload_n 1, 1) := by decide +kernel
theorem dX11_single_288 : decode cX11_single 288 = .ok (.ireturn, 1) := by decide +kernel
theorem dX11_head_0 : decode cX11_head 0 = .ok (.aload_n 0, 1) := by decide +kernel
theorem dX11_head_1 : decode cX11_head 1 = .ok (.getfield 84, 3) := by decide +kernel
theorem dX11_head_4 : decode cX11_head 4 = .ok (.iload_n 1, 1) := by decide +kernel
theorem dX11_head_5 : decode cX11_head 5 = .ok (.aload_n 0, 1) := by decide +kernel
theorem dX11_head_6 : decode cX11_head 6 = .ok (.ldc2_w 292, 3) := by decide +kernel
theorem dX11_head_9 : decode cX11_head 9 = .ok (.invokevirtual 254, 3) := by decide +kernel
theorem dX11_head_12 : decode cX11_head 12 = .ok (.ifCond .eq 7, 3) := by decide +kernel
theorem dX11_head_15 : decode cX11_head 15 = .ok (.iconst 0, 1) := by decide +kernel
theorem dX11_head_16 : decode cX11_head 16 = .ok (.goto 46, 3) := by decide +kernel
theorem dX11_head_19 : decode cX11_head 19 = .ok (.aload_n 0, 1) := by decide +kernel
theorem dX11_head_20 : decode cX11_head 20 = .ok (.ldc2_w 294, 3) := by decide +kernel
theorem dX11_head_23 : decode cX11_head 23 = .ok (.invokevirtual 254, 3) := by decide +kernel
theorem dX11_head_26 : decode cX11_head 26 = .ok (.ifCond .eq 7, 3) := by decide +kernel
theorem dX11_head_29 : decode cX11_head 29 = .ok (.iconst 1, 1) := by decide +kernel
theorem dX11_head_30 : decode cX11_head 30 = .ok (.goto 32, 3) := by decide +kernel
theorem dX11_head_33 : decode cX11_head 33 = .ok (.aload_n 0, 1) := by decide +kernel
theorem dX11_head_34 : decode cX11_head 34 = .ok (.ldc2_w 296, 3) := by decide +kernel
theorem dX11_head_37 : decode cX11_head 37 = .ok (.invokevirtual 254, 3) := by decide +kernel
theorem dX11_head_40 : decode cX11_head 40 = .ok (.ifCond .eq 7, 3) := by decide +kernel
theorem dX11_head_43 : decode cX11_head 43 = .ok (.iconst 2, 1) := by decide +kernel
theorem dX11_head_44 : decode cX11_head 44 = .ok (.goto 18, 3) := by decide +kernel
theorem dX11_head_47 : decode cX11_head 47 = .ok (.aload_n 0, 1) := by decide +kernel
theorem dX11_head_48 : decode cX11_head 48 = .ok (.ldc2_w 298, 3) := by decide +kernel
theorem dX11_head_51 : decode cX11_head 51 = .ok (.invokevirtual 254, 3) := by decide +kernel
theorem dX11_head_54 : decode cX11_head 54 = .ok (.ifCond .eq 7, 3) := by decide +kernel
theorem dX11_head_57 : decode cX11_head 57 = .ok (.iconst 3, 1) := by decide +kernel
theorem dX11_head_58 : decode cX11_head 58 = .ok (.goto 4, 3) := by decide +kernel
theorem dX11_head_61 : decode cX11_head 61 = .ok (.iconst (-1), 1) := by decide +kernel
theorem dX11_head_62 : decode cX11_head 62 = .ok (.iastore, 1) := by decide +kernel
theorem dX11_head_63 : decode cX11_head 63 = .ok (.aload_n 0, 1) := by decide +kernel
theorem dX11_head_64 : decode cX11_head 64 = .ok (.getfield 84, 3) := by decide +kernel
theorem dX11_head_67 : decode cX11_head 67 = .ok (.iload_n 1, 1) := by decide +kernel
theorem dX11_head_68 : decode cX11_head 68 = .ok (.iaload, 1) := by decide +kernel
theorem dX11_head_69 : decode cX11_head 69 = .ok (.iconst (-1), 1) := by decide +kernel
theorem dX11_head_70 : decode cX11_head 70 = .ok (.if_icmp .eq 7, 3) := by decide +kernel
theorem dX11_head_73 : decode cX11_head 73 = .ok (.iconst 1, 1) := by decide +kernel
theorem dX11_head_74 : decode cX11_head 74 = .ok (.goto 4, 3) := by decide +kernel
theorem dX11_head_77 : decode cX11_head 77 = .ok (.iconst 0, 1) := by decide +kernel
theorem dX11_head_78 : decode cX11_head 78 = .ok (.ireturn, 1) := by decide +kernel
theorem dX11_allow_0 : decode cX11_allow 0 = .ok (.aload_n 0, 1) := by decide +kernel
theorem dX11_allow_1 : decode cX11_allow 1 = .ok (.getfield 81, 3) := by decide +kernel
theorem dX11_allow_4 : decode cX11_allow 4 = .ok (.iload_n 1, 1) := by decide +kernel
theorem dX11_allow_5 : decode cX11_allow 5 = .ok (.iconst 0, 1) := by decide +kernel
theorem dX11_allow_6 : decode cX11_allow 6 = .ok (.iastore, 1) := by decide +kernel
theorem dX11_allow_7 : decode cX11_allow 7 = .ok (.aload_n 0, 1) := by decide +kernel
theorem dX11_allow_8 : decode cX11_allow 8 = .ok (.iload_n 1, 1) := by decide +kernel
theorem dX11_allow_9 : decode cX11_allow 9 = .ok (.invokevirtual 300, 3) := by decide +kernel
theorem dX11_allow_12 : decode cX11_allow 12 = .ok (.ifCond .ne 5, 3) := by decide +kernel
theorem dX11_allow_15 : decode cX11_allow 15 = .ok (.iconst 0, 1) := by decide +kernel
theorem dX11_allow_16 : decode cX11_allow 16 = .ok (.ireturn, 1) := by decide +kernel
theorem dX11_allow_17 : decode cX11_allow 17 = .ok (.aload_n 0, 1) := by decide +kernel
theorem dX11_allow_18 : decode cX11_allow 18 = .ok (.getfield 87, 3) := by decide +kernel
theorem dX11_allow_21 : decode cX11_allow 21 = .ok (.iload_n 1, 1) := by decide +kernel
theorem dX11_allow_22 : decode cX11_allow 22 = .ok (.aload_n 0, 1) := by decide +kernel
theorem dX11_allow_23 : decode cX11_allow 23 = .ok (.ldc2_w 303, 3) := by decide +kernel
theorem dX11_allow_26 : decode cX11_allow 26 = .ok (.invokevirtual 254, 3) := by decide +kernel
theorem dX11_allow_29 : decode cX11_allow 29 = .ok (.ifCond .eq 7, 3) := by decide +kernel
theorem dX11_allow_32 : decode cX11_allow 32 = .ok (.iconst 0, 1) := by decide +kernel
theorem dX11_allow_33 : decode cX11_allow 33 = .ok (.goto 46, 3) := by decide +kernel
theorem dX11_allow_36 : decode cX11_allow 36 = .ok (.aload_n 0, 1) := by decide +kernel
theorem dX11_allow_37 : decode cX11_allow 37 = .ok (.ldc2_w 305, 3) := by decide +kernel
theorem dX11_allow_40 : decode cX11_allow 40 = .ok (.invokevirtual 254, 3) := by decide +kernel
theorem dX11_allow_43 : decode cX11_allow 43 = .ok (.ifCond .eq 7, 3) := by decide +kernel
theorem dX11_allow_46 : decode cX11_allow 46 = .ok (.iconst 1, 1) := by decide +kernel
theorem dX11_allow_47 : decode cX11_allow 47 = .ok (.goto 32, 3) := by decide +kernel
theorem dX11_allow_50 : decode cX11_allow 50 = .ok (.aload_n 0, 1) := by decide +kernel
theorem dX11_allow_51 : decode cX11_allow 51 = .ok (.ldc2_w 307, 3) := by decide +kernel
theorem dX11_allow_54 : decode cX11_allow 54 = .ok (.invokevirtual 254, 3) := by decide +kernel
theorem dX11_allow_57 : decode cX11_allow 57 = .ok (.ifCond .eq 7, 3) := by decide +kernel
theorem dX11_allow_60 : decode cX11_allow 60 = .ok (.iconst 2, 1) := by decide +kernel
theorem dX11_allow_61 : decode cX11_allow 61 = .ok (.goto 18, 3) := by decide +kernel
theorem dX11_allow_64 : decode cX11_allow 64 = .ok (.aload_n 0, 1) := by decide +kernel
theorem dX11_allow_65 : decode cX11_allow 65 = .ok (.ldc2_w 309, 3) := by decide +kernel
theorem dX11_allow_68 : decode cX11_allow 68 = .ok (.invokevirtual 254, 3) := by decide +kernel
theorem dX11_allow_71 : decode cX11_allow 71 = .ok (.ifCond .eq 7, 3) := by decide +kernel
theorem dX11_allow_74 : decode cX11_allow 74 = .ok (.iconst 3, 1) := by decide +kernel
theorem dX11_allow_75 : decode cX11_allow 75 = .ok (.goto 4, 3) := by decide +kernel
theorem dX11_allow_78 : decode cX11_allow 78 = .ok (.iconst (-1), 1) := by decide +kernel
theorem dX11_allow_79 : decode cX11_allow 79 = .ok (.iastore, 1) := by decide +kernel
theorem dX11_allow_80 : decode cX11_allow 80 = .ok (.aload_n 0, 1) := by decide +kernel
theorem dX11_allow_81 : decode cX11_allow 81 = .ok (.getfield 87, 3) := by decide +kernel
theorem dX11_allow_84 : decode cX11_allow 84 = .ok (.iload_n 1, 1) := by decide +kernel
theorem dX11_allow_85 : decode cX11_allow 85 = .ok (.iaload, 1) := by decide +kernel
theorem dX11_allow_86 : decode cX11_allow 86 = .ok (.iconst (-1), 1) := by decide +kernel
theorem dX11_allow_87 : decode cX11_allow 87 = .ok (.if_icmp .ne 5, 3) := by decide +kernel
theorem dX11_allow_90 : decode cX11_allow 90 = .ok (.iconst 0, 1) := by decide +kernel
theorem dX11_allow_91 : decode cX11_allow 91 = .ok (.ireturn, 1) := by decide +kernel
theorem dX11_allow_92 : decode cX11_allow 92 = .ok (.aload_n 0, 1) := by decide +kernel
theorem dX11_allow_93 : decode cX11_allow 93 = .ok (.getfield 90, 3) := by decide +kernel
theorem dX11_allow_96 : decode cX11_allow 96 = .ok (.iload_n 1, 1) := by decide +kernel
theorem dX11_allow_97 : decode cX11_allow 97 = .ok (.iconst 0, 1) := by decide +kernel
theorem dX11_allow_98 : decode cX11_allow 98 = .ok (.iastore, 1) := by decide +kernel
theorem dX11_allow_99 : decode cX11_allow 99 = .ok (.aload_n 0, 1) := by decide +kernel
theorem dX11_allow_100 : decode cX11_allow 100 = .ok (.getfield 87, 3) := by decide +kernel
theorem dX11_allow_103 : decode cX11_allow 103 = .ok (.iload_n 1, 1) := by decide +kernel
theorem dX11_allow_104 : decode cX11_allow 104 = .ok (.iaload, 1) := by decide +kernel
theorem dX11_allow_105 : decode cX11_allow 105 = .ok (.iconst 3, 1) := by decide +kernel
theorem dX11_allow_106 : decode cX11_allow 106 = .ok (.if_icmp .eq 24, 3) := by decide +kernel
theorem dX11_allow_109 : decode cX11_allow 109 = .ok (.aload_n 0, 1) := by decide +kernel
theorem dX11_allow_110 : decode cX11_allow 110 = .ok (.iconst 0, 1) := by decide +kernel
theorem dX11_allow_111 : decode cX11_allow 111 = .ok (.iconst 2, 1) := by decide +kernel
theorem dX11_allow_112 : decode cX11_allow 112 = .ok (.invokevirtual 240, 3) := by decide +kernel
theorem dX11_allow_115 : decode cX11_allow 115 = .ok (.ifCond .ne 5, 3) := by decide +kernel
theorem dX11_allow_118 : decode cX11_allow 118 = .ok (.iconst 0, 1) := by decide +kernel
theorem dX11_allow_119 : decode cX11_allow 119 = .ok (.ireturn, 1) := by decide +kernel
theorem dX11_allow_120 : decode cX11_allow 120 = .ok (.aload_n 0, 1) := by decide +kernel
theorem dX11_allow_121 : decode cX11_allow 121 = .ok (.getfield 90, 3) := by decide +kernel
theorem dX11_allow_124 : decode cX11_allow 124 = .ok (.iload_n 1, 1) := by decide +kernel
theorem dX11_allow_125 : decode cX11_allow 125 = .ok (.aload_n 0, 1) := by decide +kernel
theorem dX11_allow_126 : decode cX11_allow 126 = .ok (.getfield 237, 3) := by decide +kernel
theorem dX11_allow_129 : decode cX11_allow 129 = .ok (.iastore, 1) := by decide +kernel
theorem dX11_allow_130 : decode cX11_allow 130 = .ok (.aload_n 0, 1) := by decide +kernel
theorem dX11_allow_131 : decode cX11_allow 131 = .ok (.iconst 0, 1) := by decide +kernel
theorem dX11_allow_132 : decode cX11_allow 132 = .ok (.sipush 200, 3) := by decide +kernel
theorem dX11_allow_135 : decode cX11_allow 135 = .ok (.invokevirtual 240, 3) := by decide +kernel
theorem dX11_allow_138 : decode cX11_allow 138 = .ok (.ifCond .ne 5, 3) := by decide +kernel
theorem dX11_allow_141 : decode cX11_allow 141 = .ok (.iconst 0, 1) := by decide +kernel
theorem dX11_allow_142 : decode cX11_allow 142 = .ok (.ireturn, 1) := by decide +kernel
theorem dX11_allow_143 : decode cX11_allow 143 = .ok (.aload_n 0, 1) := by decide +kernel
theorem dX11_allow_144 : decode cX11_allow 144 = .ok (.getfield 93, 3) := by decide +kernel
theorem dX11_allow_147 : decode cX11_allow 147 = .ok (.iload_n 1, 1) := by decide +kernel
theorem dX11_allow_148 : decode cX11_allow 148 = .ok (.aload_n 0, 1) := by decide +kernel
theorem dX11_allow_149 : decode cX11_allow 149 = .ok (.getfield 237, 3) := by decide +kernel
theorem dX11_allow_152 : decode cX11_allow 152 = .ok (.iastore, 1) := by decide +kernel
theorem dX11_allow_153 : decode cX11_allow 153 = .ok (.iconst 1, 1) := by decide +kernel
theorem dX11_allow_154 : decode cX11_allow 154 = .ok (.ireturn, 1) := by decide +kernel
theorem dX11_share_0 : decode cX11_share 0 = .ok (.aload_n 0, 1) := by decide +kernel
theorem dX11_share_1 : decode cX11_share 1 = .ok (.getfield 81, 3) := by decide +kernel
theorem dX11_share_4 : decode cX11_share 4 = .ok (.iload_n 1, 1) := by decide +kernel
theorem dX11_share_5 : decode cX11_share 5 = .ok (.iconst 1, 1) := by decide +kernel
theorem dX11_share_6 : decode cX11_share 6 = .ok (.iastore, 1) := by decide +kernel
theorem dX11_share_7 : decode cX11_share 7 = .ok (.aload_n 0, 1) := by decide +kernel
theorem dX11_share_8 : decode cX11_share 8 = .ok (.iload_n 1, 1) := by decide +kernel
theorem dX11_share_9 : decode cX11_share 9 = .ok (.invokevirtual 300, 3) := by decide +kernel
theorem dX11_share_12 : decode cX11_share 12 = .ok (.ifCond .eq 13, 3) := by decide +kernel
theorem dX11_share_15 : decode cX11_share 15 = .ok (.aload_n 0, 1) := by decide +kernel
theorem dX11_share_16 : decode cX11_share 16 = .ok (.iconst 0, 1) := by decide +kernel
theorem dX11_share_17 : decode cX11_share 17 = .ok (.bipush 100, 2) := by decide +kernel
theorem dX11_share_19 : decode cX11_share 19 = .ok (.invokevirtual 240, 3) := by decide +kernel
theorem dX11_share_22 : decode cX11_share 22 = .ok (.ifCond .ne 5, 3) := by decide +kernel
theorem dX11_share_25 : decode cX11_share 25 = .ok (.iconst 0, 1) := by decide +kernel
theorem dX11_share_26 : decode cX11_share 26 = .ok (.ireturn, 1) := by decide +kernel
theorem dX11_share_27 : decode cX11_share 27 = .ok (.aload_n 0, 1) := by decide +kernel
theorem dX11_share_28 : decode cX11_share 28 = .ok (.getfield 90, 3) := by decide +kernel
theorem dX11_share_31 : decode cX11_share 31 = .ok (.iload_n 1, 1) := by decide +kernel
theorem dX11_share_32 : decode cX11_share 32 = .ok (.aload_n 0, 1) := by decide +kernel
theorem dX11_share_33 : decode cX11_share 33 = .ok (.getfield 237, 3) := by decide +kernel
theorem dX11_share_36 : decode cX11_share 36 = .ok (.iastore, 1) := by decide +kernel
theorem dX11_share_37 : decode cX11_share 37 = .ok (.aload_n 0, 1) := by decide +kernel
theorem dX11_share_38 : decode cX11_share 38 = .ok (.iconst 0, 1) := by decide +kernel
theorem dX11_share_39 : decode cX11_share 39 = .ok (.bipush 100, 2) := by decide +kernel
theorem dX11_share_41 : decode cX11_share 41 = .ok (.invokevirtual 240, 3) := by decide +kernel
theorem dX11_share_44 : decode cX11_share 44 = .ok (.ifCond .ne 5, 3) := by decide +kernel
theorem dX11_share_47 : decode cX11_share 47 = .ok (.iconst 0, 1) := by decide +kernel
theorem dX11_share_48 : decode cX11_share 48 = .ok (.ireturn, 1) := by decide +kernel
theorem dX11_share_49 : decode cX11_share 49 = .ok (.aload_n 0, 1) := by decide +kernel
theorem dX11_share_50 : decode cX11_share 50 = .ok (.getfield 93, 3) := by decide +kernel
theorem dX11_share_53 : decode cX11_share 53 = .ok (.iload_n 1, 1) := by decide +kernel
theorem dX11_share_54 : decode cX11_share 54 = .ok (.aload_n 0, 1) := by decide +kernel
theorem dX11_share_55 : decode cX11_share 55 = .ok (.getfield 237, 3) := by decide +kernel
theorem dX11_share_58 : decode cX11_share 58 = .ok (.iastore, 1) := by decide +kernel
theorem dX11_share_59 : decode cX11_share 59 = .ok (.iconst 1, 1) := by decide +kernel
theorem dX11_share_60 : decode cX11_share 60 = .ok (.ireturn, 1) := by decide +kernel
theorem dX11_target_0 : decode cX11_target 0 = .ok (.aload_n 0, 1) := by decide +kernel
theorem dX11_target_1 : decode cX11_target 1 = .ok (.getfield 81, 3) := by decide +kernel
theorem dX11_target_4 : decode cX11_target 4 = .ok (.iload_n 1, 1) := by decide +kernel
theorem dX11_target_5 : decode cX11_target 5 = .ok (.iconst 2, 1) := by decide +kernel
theorem dX11_target_6 : decode cX11_target 6 = .ok (.iastore, 1) := by decide +kernel
theorem dX11_target_7 : decode cX11_target 7 = .ok (.aload_n 0, 1) := by decide +kernel
theorem dX11_target_8 : decode cX11_target 8 = .ok (.iconst 0, 1) := by decide +kernel
theorem dX11_target_9 : decode cX11_target 9 = .ok (.iconst 2, 1) := by decide +kernel
theorem dX11_target_10 : decode cX11_target 10 = .ok (.invokevirtual 240, 3) := by decide +kernel
theorem dX11_target_13 : decode cX11_target 13 = .ok (.ifCond .ne 5, 3) := by decide +kernel
theorem dX11_target_16 : decode cX11_target 16 = .ok (.iconst 0, 1) := by decide +kernel
theorem dX11_target_17 : decode cX11_target 17 = .ok (.ireturn, 1) := by decide +kernel
theorem dX11_target_18 : decode cX11_target 18 = .ok (.aload_n 0, 1) := by decide +kernel
theorem dX11_target_19 : decode cX11_target 19 = .ok (.getfield 84, 3) := by decide +kernel
theorem dX11_target_22 : decode cX11_target 22 = .ok (.iload_n 1, 1) := by decide +kernel
theorem dX11_target_23 : decode cX11_target 23 = .ok (.aload_n 0, 1) := by decide +kernel
theorem dX11_target_24 : decode cX11_target 24 = .ok (.getfield 237, 3) := by decide +kernel
theorem dX11_target_27 : decode cX11_target 27 = .ok (.iastore, 1) := by decide +kernel
theorem dX11_target_28 : decode cX11_target 28 = .ok (.aload_n 0, 1) := by decide +kernel
theorem dX11_target_29 : decode cX11_target 29 = .ok (.getfield 87, 3) := by decide +kernel
theorem dX11_target_32 : decode cX11_target 32 = .ok (.iload_n 1, 1) := by decide +kernel
theorem dX11_target_33 : decode cX11_target 33 = .ok (.aload_n 0, 1) := by decide +kernel
theorem dX11_target_34 : decode cX11_target 34 = .ok (.ldc2_w 311, 3) := by decide +kernel
theorem dX11_target_37 : decode cX11_target 37 = .ok (.invokevirtual 254, 3) := by decide +kernel
theorem dX11_target_40 : decode cX11_target 40 = .ok (.ifCond .eq 7, 3) := by decide +kernel
theorem dX11_target_43 : decode cX11_target 43 = .ok (.iconst 0, 1) := by decide +kernel
theorem dX11_target_44 : decode cX11_target 44 = .ok (.goto 18, 3) := by decide +kernel
theorem dX11_target_47 : decode cX11_target 47 = .ok (.aload_n 0, 1) := by decide +kernel
theorem dX11_target_48 : decode cX11_target 48 = .ok (.ldc2_w 313, 3) := by decide +kernel
theorem dX11_target_51 : decode cX11_target 51 = .ok (.invokevirtual 254, 3) := by decide +kernel
theorem dX11_target_54 : decode cX11_target 54 = .ok (.ifCond .eq 7, 3) := by decide +kernel
theorem dX11_target_57 : decode cX11_target 57 = .ok (.iconst 1, 1) := by decide +kernel
theorem dX11_target_58 : decode cX11_target 58 = .ok (.goto 4, 3) := by decide +kernel
theorem dX11_target_61 : decode cX11_target 61 = .ok (.iconst (-1), 1) := by decide +kernel
theorem dX11_target_62 : decode cX11_target 62 = .ok (.iastore, 1) := by decide +kernel
theorem dX11_target_63 : decode cX11_target 63 = .ok (.aload_n 0, 1) := by decide +kernel
theorem dX11_target_64 : decode cX11_target 64 = .ok (.getfield 87, 3) := by decide +kernel
theorem dX11_target_67 : decode cX11_target 67 = .ok (.iload_n 1, 1) := by decide +kernel
theorem dX11_target_68 : decode cX11_target 68 = .ok (.iaload, 1) := by decide +kernel
theorem dX11_target_69 : decode cX11_target 69 = .ok (.iconst (-1), 1) := by decide +kernel
theorem dX11_target_70 : decode cX11_target 70 = .ok (.if_icmp .eq 10, 3) := by decide +kernel
theorem dX11_target_73 : decode cX11_target 73 = .ok (.aload_n 0, 1) := by decide +kernel
theorem dX11_target_74 : decode cX11_target 74 = .ok (.invokevirtual 288, 3) := by decide +kernel
theorem dX11_target_77 : decode cX11_target 77 = .ok (.ifCond .ne 5, 3) := by decide +kernel
theorem dX11_target_80 : decode cX11_target 80 = .ok (.iconst 0, 1) := by decide +kernel
theorem dX11_target_81 : decode cX11_target 81 = .ok (.ireturn, 1) := by decide +kernel
theorem dX11_target_82 : decode cX11_target 82 = .ok (.aload_n 0, 1) := by decide +kernel
theorem dX11_target_83 : decode cX11_target 83 = .ok (.getfield 90, 3) := by decide +kernel
theorem dX11_target_86 : decode cX11_target 86 = .ok (.iload_n 1, 1) := by decide +kernel
theorem dX11_target_87 : decode cX11_target 87 = .ok (.aload_n 0, 1) := by decide +kernel
theorem dX11_target_88 : decode cX11_target 88 = .ok (.getfield 237, 3) := by decide +kernel
theorem dX11_target_91 : decode cX11_target 91 = .ok (.iastore, 1) := by decide +kernel
theorem dX11_target_92 : decode cX11_target 92 = .ok (.aload_n 0, 1) := by decide +kernel
theorem dX11_target_93 : decode cX11_target 93 = .ok (.ldc2_w 315, 3) := by decide +kernel
theorem dX11_target_96 : decode cX11_target 96 = .ok (.invokevirtual 254, 3) := by decide +kernel
theorem dX11_target_99 : decode cX11_target 99 = .ok (.ifCond .eq 13, 3) := by decide +kernel
theorem dX11_target_102 : decode cX11_target 102 = .ok (.aload_n 0, 1) := by decide +kernel
theorem dX11_target_103 : decode cX11_target 103 = .ok (.iconst 1, 1) := by decide +kernel
theorem dX11_target_104 : decode cX11_target 104 = .ok (.ldc 176, 2) := by decide +kernel
theorem dX11_target_106 : decode cX11_target 106 = .ok (.invokevirtual 240, 3) := by decide +kernel
theorem dX11_target_109 : decode cX11_target 109 = .ok (.ifCond .ne 5, 3) := by decide +kernel
theorem dX11_target_112 : decode cX11_target 112 = .ok (.iconst 0, 1) := by decide +kernel
theorem dX11_target_113 : decode cX11_target 113 = .ok (.ireturn, 1) := by decide +kernel
theorem dX11_target_114 : decode cX11_target 114 = .ok (.aload_n 0, 1) := by decide +kernel
theorem dX11_target_115 : decode cX11_target 115 = .ok (.getfield 93, 3) := by decide +kernel
theorem dX11_target_118 : decode cX11_target 118 = .ok (.iload_n 1, 1) := by decide +kernel
theorem dX11_target_119 : decode cX11_target 119 = .ok (.aload_n 0, 1) := by decide +kernel
theorem dX11_target_120 : decode cX11_target 120 = .ok (.getfield 237, 3) := by decide +kernel
theorem dX11_target_123 : decode cX11_target 123 = .ok (.iastore, 1) := by decide +kernel
theorem dX11_target_124 : decode cX11_target 124 = .ok (.aload_n 0, 1) := by decide +kernel
theorem dX11_target_125 : decode cX11_target 125 = .ok (.ldc2_w 317, 3) := by decide +kernel
theorem dX11_target_128 : decode cX11_target 128 = .ok (.invokevirtual 254, 3) := by decide +kernel
theorem dX11_target_131 : decode cX11_target 131 = .ok (.ifCond .eq 10, 3) := by decide +kernel
theorem dX11_target_134 : decode cX11_target 134 = .ok (.aload_n 0, 1) := by decide +kernel
theorem dX11_target_135 : decode cX11_target 135 = .ok (.invokevirtual 288, 3) := by decide +kernel
theorem dX11_target_138 : decode cX11_target 138 = .ok (.ifCond .ne 5, 3) := by decide +kernel
theorem dX11_target_141 : decode cX11_target 141 = .ok (.iconst 0, 1) := by decide +kernel
theorem dX11_target_142 : decode cX11_target 142 = .ok (.ireturn, 1) := by decide +kernel
theorem dX11_target_143 : decode cX11_target 143 = .ok (.aload_n 0, 1) := by decide +kernel
theorem dX11_target_144 : decode cX11_target 144 = .ok (.getfield 96, 3) := by decide +kernel
theorem dX11_target_147 : decode cX11_target 147 = .ok (.iload_n 1, 1) := by decide +kernel
theorem dX11_target_148 : decode cX11_target 148 = .ok (.aload_n 0, 1) := by decide +kernel
theorem dX11_target_149 : decode cX11_target 149 = .ok (.getfield 237, 3) := by decide +kernel
theorem dX11_target_152 : decode cX11_target 152 = .ok (.iastore, 1) := by decide +kernel
theorem dX11_target_153 : decode cX11_target 153 = .ok (.aload_n 0, 1) := by decide +kernel
theorem dX11_target_154 : decode cX11_target 154 = .ok (.ldc2_w 319, 3) := by decide +kernel
theorem dX11_target_157 : decode cX11_target 157 = .ok (.invokevirtual 254, 3) := by decide +kernel
theorem dX11_target_160 : decode cX11_target 160 = .ok (.ifCond .eq 10, 3) := by decide +kernel
theorem dX11_target_163 : decode cX11_target 163 = .ok (.aload_n 0, 1) := by decide +kernel
theorem dX11_target_164 : decode cX11_target 164 = .ok (.invokevirtual 288, 3) := by decide +kernel
theorem dX11_target_167 : decode cX11_target 167 = .ok (.ifCond .ne 5, 3) := by decide +kernel
theorem dX11_target_170 : decode cX11_target 170 = .ok (.iconst 0, 1) := by decide +kernel
theorem dX11_target_171 : decode cX11_target 171 = .ok (.ireturn, 1) := by decide +kernel
theorem dX11_target_172 : decode cX11_target 172 = .ok (.aload_n 0, 1) := by decide +kernel
theorem dX11_target_173 : decode cX11_target 173 = .ok (.getfield 99, 3) := by decide +kernel
theorem dX11_target_176 : decode cX11_target 176 = .ok (.iload_n 1, 1) := by decide +kernel
theorem dX11_target_177 : decode cX11_target 177 = .ok (.aload_n 0, 1) := by decide +kernel
theorem dX11_target_178 : decode cX11_target 178 = .ok (.getfield 237, 3) := by decide +kernel
theorem dX11_target_181 : decode cX11_target 181 = .ok (.iastore, 1) := by decide +kernel
theorem dX11_target_182 : decode cX11_target 182 = .ok (.aload_n 0, 1) := by decide +kernel
theorem dX11_target_183 : decode cX11_target 183 = .ok (.ldc2_w 321, 3) := by decide +kernel
theorem dX11_target_186 : decode cX11_target 186 = .ok (.invokevirtual 254, 3) := by decide +kernel
theorem dX11_target_189 : decode cX11_target 189 = .ok (.ifCond .eq 10, 3) := by decide +kernel
theorem dX11_target_192 : decode cX11_target 192 = .ok (.aload_n 0, 1) := by decide +kernel
theorem dX11_target_193 : decode cX11_target 193 = .ok (.invokevirtual 288, 3) := by decide +kernel
theorem dX11_target_196 : decode cX11_target 196 = .ok (.ifCond .ne 5, 3) := by decide +kernel
theorem dX11_target_199 : decode cX11_target 199 = .ok (.iconst 0, 1) := by decide +kernel
theorem dX11_target_200 : decode cX11_target 200 = .ok (.ireturn, 1) := by decide +kernel
theorem dX11_target_201 : decode cX11_target 201 = .ok (.aload_n 0, 1) := by decide +kernel
theorem dX11_target_202 : decode cX11_target 202 = .ok (.getfield 102, 3) := by decide +kernel
theorem dX11_target_205 : decode cX11_target 205 = .ok (.iload_n 1, 1) := by decide +kernel
theorem dX11_target_206 : decode cX11_target 206 = .ok (.aload_n 0, 1) := by decide +kernel
theorem dX11_target_207 : decode cX11_target 207 = .ok (.getfield 237, 3) := by decide +kernel
theorem dX11_target_210 : decode cX11_target 210 = .ok (.iastore, 1) := by decide +kernel
theorem dX11_target_211 : decode cX11_target 211 = .ok (.iconst 1, 1) := by decide +kernel
theorem dX11_target_212 : decode cX11_target 212 = .ok (.ireturn, 1) := by decide +kernel
theorem dX11_plain_0 : decode cX11_plain 0 = .ok (.aload_n 0, 1) := by decide +kernel
theorem dX11_plain_1 : decode cX11_plain 1 = .ok (.getfield 81, 3) := by decide +kernel
theorem dX11_plain_4 : decode cX11_plain 4 = .ok (.iload_n 1, 1) := by decide +kernel
theorem dX11_plain_5 : decode cX11_plain 5 = .ok (.iload_n 2, 1) := by decide +kernel
theorem dX11_plain_6 : decode cX11_plain 6 = .ok (.iastore, 1) := by decide +kernel
theorem dX11_plain_7 : decode cX11_plain 7 = .ok (.aload_n 0, 1) := by decide +kernel
theorem dX11_plain_8 : decode cX11_plain 8 = .ok (.getfield 84, 3) := by decide +kernel
theorem dX11_plain_11 : decode cX11_plain 11 = .ok (.iload_n 1, 1) := by decide +kernel
theorem dX11_plain_12 : decode cX11_plain 12 = .ok (.iconst 0, 1) := by decide +kernel
theorem dX11_plain_13 : decode cX11_plain 13 = .ok (.iastore, 1) := by decide +kernel
theorem dX11_plain_14 : decode cX11_plain 14 = .ok (.aload_n 0, 1) := by decide +kernel
theorem dX11_plain_15 : decode cX11_plain 15 = .ok (.iload_n 3, 1) := by decide +kernel
theorem dX11_plain_16 : decode cX11_plain 16 = .ok (.iload 4, 2) := by decide +kernel
theorem dX11_plain_18 : decode cX11_plain 18 = .ok (.invokevirtual 240, 3) := by decide +kernel
theorem dX11_plain_21 : decode cX11_plain 21 = .ok (.ifCond .ne 5, 3) := by decide +kernel
theorem dX11_plain_24 : decode cX11_plain 24 = .ok (.iconst 0, 1) := by decide +kernel
theorem dX11_plain_25 : decode cX11_plain 25 = .ok (.ireturn, 1) := by decide +kernel
theorem dX11_plain_26 : decode cX11_plain 26 = .ok (.aload_n 0, 1) := by decide +kernel
theorem dX11_plain_27 : decode cX11_plain 27 = .ok (.getfield 90, 3) := by decide +kernel
theorem dX11_plain_30 : decode cX11_plain 30 = .ok (.iload_n 1, 1) := by decide +kernel
theorem dX11_plain_31 : decode cX11_plain 31 = .ok (.aload_n 0, 1) := by decide +kernel
theorem dX11_plain_32 : decode cX11_plain 32 = .ok (.getfield 237, 3) := by decide +kernel
theorem dX11_plain_35 : decode cX11_plain 35 = .ok (.iastore, 1) := by decide +kernel
theorem dX11_plain_36 : decode cX11_plain 36 = .ok (.iconst 1, 1) := by decide +kernel
theorem dX11_plain_37 : decode cX11_plain 37 = .ok (.ireturn, 1) := by decide +kernel
theorem dX11_rule_0 : decode cX11_rule 0 = .ok (.aload_n 0, 1) := by decide +kernel
theorem dX11_rule_1 : decode cX11_rule 1 = .ok (.ldc2_w 323, 3) := by decide +kernel
theorem dX11_rule_4 : decode cX11_rule 4 = .ok (.invokevirtual 254, 3) := by decide +kernel
theorem dX11_rule_7 : decode cX11_rule 7 = .ok (.ifCond .eq 9, 3) := by decide +kernel
theorem dX11_rule_10 : decode cX11_rule 10 = .ok (.aload_n 0, 1) := by decide +kernel
theorem dX11_rule_11 : decode cX11_rule 11 = .ok (.iload_n 1, 1) := by decide +kernel
theorem dX11_rule_12 : decode cX11_rule 12 = .ok (.invokevirtual 325, 3) := by decide +kernel
theorem dX11_rule_15 : decode cX11_rule 15 = .ok (.ireturn, 1) := by decide +kernel
theorem dX11_rule_16 : decode cX11_rule 16 = .ok (.aload_n 0, 1) := by decide +kernel
theorem dX11_rule_17 : decode cX11_rule 17 = .ok (.ldc2_w 328, 3) := by decide +kernel
theorem dX11_rule_20 : decode cX11_rule 20 = .ok (.invokevirtual 254, 3) := by decide +kernel
theorem dX11_rule_23 : decode cX11_rule 23 = .ok (.ifCond .eq 9, 3) := by decide +kernel
theorem dX11_rule_26 : decode cX11_rule 26 = .ok (.aload_n 0, 1) := by decide +kernel
theorem dX11_rule_27 : decode cX11_rule 27 = .ok (.iload_n 1, 1) := by decide +kernel
theorem dX11_rule_28 : decode cX11_rule 28 = .ok (.invokevirtual 330, 3) := by decide +kernel
theorem dX11_rule_31 : decode cX11_rule 31 = .ok (.ireturn, 1) := by decide +kernel
theorem dX11_rule_32 : decode cX11_rule 32 = .ok (.aload_n 0, 1) := by decide +kernel
theorem dX11_rule_33 : decode cX11_rule 33 = .ok (.ldc2_w 333, 3) := by decide +kernel
theorem dX11_rule_36 : decode cX11_rule 36 = .ok (.invokevirtual 254, 3) := by decide +kernel
theorem dX11_rule_39 : decode cX11_rule 39 = .ok (.ifCond .eq 9, 3) := by decide +kernel
theorem dX11_rule_42 : decode cX11_rule 42 = .ok (.aload_n 0, 1) := by decide +kernel
theorem dX11_rule_43 : decode cX11_rule 43 = .ok (.iload_n 1, 1) := by decide +kernel
theorem dX11_rule_44 : decode cX11_rule 44 = .ok (.invokevirtual 335, 3) := by decide +kernel
theorem dX11_rule_47 : decode cX11_rule 47 = .ok (.ireturn, 1) := by decide +kernel
theorem dX11_rule_48 : decode cX11_rule 48 = .ok (.aload_n 0, 1) := by decide +kernel
theorem dX11_rule_49 : decode cX11_rule 49 = .ok (.ldc2_w 338, 3) := by decide +kernel
theorem dX11_rule_52 : decode cX11_rule 52 = .ok (.invokevirtual 254, 3) := by decide +kernel
theorem dX11_rule_55 : decode cX11_rule 55 = .ok (.ifCond .eq 14, 3) := by decide +kernel
theorem dX11_rule_58 : decode cX11_rule 58 = .ok (.aload_n 0, 1) := by decide +kernel
theorem dX11_rule_59 : decode cX11_rule 59 = .ok (.iload_n 1, 1) := by decide +kernel
theorem dX11_rule_60 : decode cX11_rule 60 = .ok (.iconst 3, 1) := by decide +kernel
theorem dX11_rule_61 : decode cX11_rule 61 = .ok (.iconst 0, 1) := by decide +kernel
theorem dX11_rule_62 : decode cX11_rule 62 = .ok (.sipush 500, 3) := by decide +kernel
theorem dX11_rule_65 : decode cX11_rule 65 = .ok (.invokevirtual 340, 3) := by decide +kernel
theorem dX11_rule_68 : decode cX11_rule 68 = .ok (.ireturn, 1) := by decide +kernel
theorem dX11_rule_69 : decode cX11_rule 69 = .ok (.aload_n 0, 1) := by decide +kernel
theorem dX11_rule_70 : decode cX11_rule 70 = .ok (.ldc2_w 344, 3) := by decide +kernel
theorem dX11_rule_73 : decode cX11_rule 73 = .ok (.invokevirtual 254, 3) := by decide +kernel
theorem dX11_rule_76 : decode cX11_rule 76 = .ok (.ifCond .eq 15, 3) := by decide +kernel
theorem dX11_rule_79 : decode cX11_rule 79 = .ok (.aload_n 0, 1) := by decide +kernel
theorem dX11_rule_80 : decode cX11_rule 80 = .ok (.iload_n 1, 1) := by decide +kernel
theorem dX11_rule_81 : decode cX11_rule 81 = .ok (.iconst 4, 1) := by decide +kernel
theorem dX11_rule_82 : decode cX11_rule 82 = .ok (.bipush 50, 2) := by decide +kernel
theorem dX11_rule_84 : decode cX11_rule 84 = .ok (.sipush 150, 3) := by decide +kernel
theorem dX11_rule_87 : decode cX11_rule 87 = .ok (.invokevirtual 340, 3) := by decide +kernel
theorem dX11_rule_90 : decode cX11_rule 90 = .ok (.ireturn, 1) := by decide +kernel
theorem dX11_rule_91 : decode cX11_rule 91 = .ok (.aload_n 0, 1) := by decide +kernel
theorem dX11_rule_92 : decode cX11_rule 92 = .ok (.ldc2_w 346, 3) := by decide +kernel
theorem dX11_rule_95 : decode cX11_rule 95 = .ok (.invokevirtual 254, 3) := by decide +kernel
theorem dX11_rule_98 : decode cX11_rule 98 = .ok (.ifCond .eq 13, 3) := by decide +kernel
theorem dX11_rule_101 : decode cX11_rule 101 = .ok (.aload_n 0, 1) := by decide +kernel
theorem dX11_rule_102 : decode cX11_rule 102 = .ok (.iload_n 1, 1) := by decide +kernel
theorem dX11_rule_103 : decode cX11_rule 103 = .ok (.iconst 5, 1) := by decide +kernel
theorem dX11_rule_104 : decode cX11_rule 104 = .ok (.iconst 0, 1) := by decide +kernel
theorem dX11_rule_105 : decode cX11_rule 105 = .ok (.bipush 100, 2) := by decide +kernel
theorem dX11_rule_107 : decode cX11_rule 107 = .ok (.invokevirtual 340, 3) := by decide +kernel
theorem dX11_rule_110 : decode cX11_rule 110 = .ok (.ireturn, 1) := by decide +kernel
theorem dX11_rule_111 : decode cX11_rule 111 = .ok (.aload_n 0, 1) := by decide +kernel
theorem dX11_rule_112 : decode cX11_rule 112 = .ok (.ldc2_w 348, 3) := by decide +kernel
theorem dX11_rule_115 : decode cX11_rule 115 = .ok (.invokevirtual 254, 3) := by decide +kernel
theorem dX11_rule_118 : decode cX11_rule 118 = .ok (.ifCond .eq 14, 3) := by decide +kernel
theorem dX11_rule_121 : decode cX11_rule 121 = .ok (.aload_n 0, 1) := by decide +kernel
theorem dX11_rule_122 : decode cX11_rule 122 = .ok (.iload_n 1, 1) := by decide +kernel
theorem dX11_rule_123 : decode cX11_rule 123 = .ok (.bipush 6, 2) := by decide +kernel
theorem dX11_rule_125 : decode cX11_rule 125 = .ok (.iconst 0, 1) := by decide +kernel
theorem dX11_rule_126 : decode cX11_rule 126 = .ok (.bipush 100, 2) := by decide +kernel
theorem dX11_rule_128 : decode cX11_rule 128 = .ok (.invokevirtual 340, 3) := by decide +kernel
theorem dX11_rule_131 : decode cX11_rule 131 = .ok (.ireturn, 1) := by decide +kernel
theorem dX11_rule_132 : decode cX11_rule 132 = .ok (.aload_n 0, 1) := by decide +kernel
theorem dX11_rule_133 : decode cX11_rule 133 = .ok (.ldc2_w 350, 3) := by decide +kernel
theorem dX11_rule_136 : decode cX11_rule 136 = .ok (.invokevirtual 254, 3) := by decide +kernel
theorem dX11_rule_139 : decode cX11_rule 139 = .ok (.ifCond .eq 14, 3) := by decide +kernel
theorem dX11_rule_142 : decode cX11_rule 142 = .ok (.aload_n 0, 1) := by decide +kernel
theorem dX11_rule_143 : decode cX11_rule 143 = .ok (.iload_n 1, 1) := by decide +kernel
theorem dX11_rule_144 : decode cX11_rule 144 = .ok (.bipush 7, 2) := by decide +kernel
theorem dX11_rule_146 : decode cX11_rule 146 = .ok (.iconst 0, 1) := by decide +kernel
theorem dX11_rule_147 : decode cX11_rule 147 = .ok (.bipush 100, 2) := by decide +kernel
theorem dX11_rule_149 : decode cX11_rule 149 = .ok (.invokevirtual 340, 3) := by decide +kernel
theorem dX11_rule_152 : decode cX11_rule 152 = .ok (.ireturn, 1) := by decide +kernel
theorem dX11_rule_153 : decode cX11_rule 153 = .ok (.aload_n 0, 1) := by decide +kernel
theorem dX11_rule_154 : decode cX11_rule 154 = .ok (.ldc2_w 352, 3) := by decide +kernel
theorem dX11_rule_157 : decode cX11_rule 157 = .ok (.invokevirtual 254, 3) := by decide +kernel
theorem dX11_rule_160 : decode cX11_rule 160 = .ok (.ifCond .eq 20, 3) := by decide +kernel
theorem dX11_rule_163 : decode cX11_rule 163 = .ok (.aload_n 0, 1) := by decide +kernel
theorem dX11_rule_164 : decode cX11_rule 164 = .ok (.iload_n 1, 1) := by decide +kernel
theorem dX11_rule_165 : decode cX11_rule 165 = .ok (.bipush 8, 2) := by decide +kernel
theorem dX11_rule_167 : decode cX11_rule 167 = .ok (.iconst 0, 1) := by decide +kernel
theorem dX11_rule_168 : decode cX11_rule 168 = .ok (.bipush 100, 2) := by decide +kernel
theorem dX11_rule_170 : decode cX11_rule 170 = .ok (.invokevirtual 340, 3) := by decide +kernel
theorem dX11_rule_173 : decode cX11_rule 173 = .ok (.ifCond .eq 7, 3) := by decide +kernel
theorem dX11_rule_176 : decode cX11_rule 176 = .ok (.iconst 1, 1) := by decide +kernel
theorem dX11_rule_177 : decode cX11_rule 177 = .ok (.goto 4, 3) := by decide +kernel
theorem dX11_rule_180 : decode cX11_rule 180 = .ok (.iconst 0, 1) := by decide +kernel
theorem dX11_rule_181 : decode cX11_rule 181 = .ok (.ireturn, 1) := by decide +kernel
theorem dX11_own_0 : decode cX11_own 0 = .ok (.sipush 3900, 3) := by decide +kernel
theorem dX11_own_3 : decode cX11_own 3 = .ok (.aload_n 0, 1) := by decide +kernel
theorem dX11_own_4 : decode cX11_own 4 = .ok (.getfield 69, 3) := by decide +kernel
theorem dX11_own_7 : decode cX11_own 7 = .ok (.bipush 13, 2) := by decide +kernel
theorem dX11_own_9 : decode cX11_own 9 = .ok (.iaload, 1) := by decide +kernel
theorem dX11_own_10 : decode cX11_own 10 = .ok (.iadd, 1) := by decide +kernel
theorem dX11_own_11 : decode cX11_own 11 = .ok (.istore_n 1, 1) := by decide +kernel
theorem dX11_own_12 : decode cX11_own 12 = .ok (.aload_n 0, 1) := by decide +kernel
theorem dX11_own_13 : decode cX11_own 13 = .ok (.iload_n 1, 1) := by decide +kernel
theorem dX11_own_14 : decode cX11_own 14 = .ok (.invokevirtual 354, 3) := by decide +kernel
theorem dX11_own_17 : decode cX11_own 17 = .ok (.ifCond .ne 5, 3) := by decide +kernel
theorem dX11_own_20 : decode cX11_own 20 = .ok (.iconst 0, 1) := by decide +kernel
theorem dX11_own_21 : decode cX11_own 21 = .ok (.ireturn, 1) := by decide +kernel
theorem dX11_own_22 : decode cX11_own 22 = .ok (.aload_n 0, 1) := by decide +kernel
theorem dX11_own_23 : decode cX11_own 23 = .ok (.getfield 105, 3) := by decide +kernel
theorem dX11_own_26 : decode cX11_own 26 = .ok (.iload_n 1, 1) := by decide +kernel
theorem dX11_own_27 : decode cX11_own 27 = .ok (.iconst (-1), 1) := by decide +kernel
theorem dX11_own_28 : decode cX11_own 28 = .ok (.iastore, 1) := by decide +kernel
theorem dX11_own_29 : decode cX11_own 29 = .ok (.aload_n 0, 1) := by decide +kernel
theorem dX11_own_30 : decode cX11_own 30 = .ok (.ldc2_w 357, 3) := by decide +kernel
theorem dX11_own_33 : decode cX11_own 33 = .ok (.invokevirtual 254, 3) := by decide +kernel
theorem dX11_own_36 : decode cX11_own 36 = .ok (.ifCond .eq 30, 3) := by decide +kernel
theorem dX11_own_39 : decode cX11_own 39 = .ok (.aload_n 0, 1) := by decide +kernel
theorem dX11_own_40 : decode cX11_own 40 = .ok (.iconst 0, 1) := by decide +kernel
theorem dX11_own_41 : decode cX11_own 41 = .ok (.putfield 275, 3) := by decide +kernel
theorem dX11_own_44 : decode cX11_own 44 = .ok (.aload_n 0, 1) := by decide +kernel
theorem dX11_own_45 : decode cX11_own 45 = .ok (.getfield 105, 3) := by decide +kernel
theorem dX11_own_48 : decode cX11_own 48 = .ok (.iload_n 1, 1) := by decide +kernel
theorem dX11_own_49 : decode cX11_own 49 = .ok (.aload_n 0, 1) := by decide +kernel
theorem dX11_own_50 : decode cX11_own 50 = .ok (.invokevirtual 278, 3) := by decide +kernel
theorem dX11_own_53 : decode cX11_own 53 = .ok (.iastore, 1) := by decide +kernel
theorem dX11_own_54 : decode cX11_own 54 = .ok (.aload_n 0, 1) := by decide +kernel
theorem dX11_own_55 : decode cX11_own 55 = .ok (.getfield 105, 3) := by decide +kernel
theorem dX11_own_58 : decode cX11_own 58 = .ok (.iload_n 1, 1) := by decide +kernel
theorem dX11_own_59 : decode cX11_own 59 = .ok (.iaload, 1) := by decide +kernel
theorem dX11_own_60 : decode cX11_own 60 = .ok (.iconst (-1), 1) := by decide +kernel
theorem dX11_own_61 : decode cX11_own 61 = .ok (.if_icmp .ne 5, 3) := by decide +kernel
theorem dX11_own_64 : decode cX11_own 64 = .ok (.iconst 0, 1) := by decide +kernel
theorem dX11_own_65 : decode cX11_own 65 = .ok (.ireturn, 1) := by decide +kernel
theorem dX11_own_66 : decode cX11_own 66 = .ok (.aload_n 0, 1) := by decide +kernel
theorem dX11_own_67 : decode cX11_own 67 = .ok (.bipush 59, 2) := by decide +kernel
theorem dX11_own_69 : decode cX11_own 69 = .ok (.invokevirtual 281, 3) := by decide +kernel
theorem dX11_own_72 : decode cX11_own 72 = .ok (.ifCond .ne 5, 3) := by decide +kernel
theorem dX11_own_75 : decode cX11_own 75 = .ok (.iconst 0, 1) := by decide +kernel
theorem dX11_own_76 : decode cX11_own 76 = .ok (.ireturn, 1) := by decide +kernel
theorem dX11_own_77 : decode cX11_own 77 = .ok (.aload_n 0, 1) := by decide +kernel
theorem dX11_own_78 : decode cX11_own 78 = .ok (.getfield 69, 3) := by decide +kernel
theorem dX11_own_81 : decode cX11_own 81 = .ok (.bipush 13, 2) := by decide +kernel
theorem dX11_own_83 : decode cX11_own 83 = .ok (.dup2, 1) := by decide +kernel
theorem dX11_own_84 : decode cX11_own 84 = .ok (.iaload, 1) := by decide +kernel
theorem dX11_own_85 : decode cX11_own 85 = .ok (.iconst 1, 1) := by decide +kernel
theorem dX11_own_86 : decode cX11_own 86 = .ok (.iadd, 1) := by decide +kernel
theorem dX11_own_87 : decode cX11_own 87 = .ok (.iastore, 1) := by decide +kernel
theorem dX11_own_88 : decode cX11_own 88 = .ok (.iconst 1, 1) := by decide +kernel
theorem dX11_own_89 : decode cX11_own 89 = .ok (.ireturn, 1) := by decide +kernel
theorem dX11_strike_0 : decode cX11_strike 0 = .ok (.aload_n 0, 1) := by decide +kernel
theorem dX11_strike_1 : decode cX11_strike 1 = .ok (.invokevirtual 227, 3) := by decide +kernel
theorem dX11_strike_4 : decode cX11_strike 4 = .ok (.aload_n 0, 1) := by decide +kernel
theorem dX11_strike_5 : decode cX11_strike 5 = .ok (.getfield 221, 3) := by decide +kernel
theorem dX11_strike_8 : decode cX11_strike 8 = .ok (.istore_n 2, 1) := by decide +kernel
theorem dX11_strike_9 : decode cX11_strike 9 = .ok (.aload_n 0, 1) := by decide +kernel
theorem dX11_strike_10 : decode cX11_strike 10 = .ok (.iconst 0, 1) := by decide +kernel
theorem dX11_strike_11 : decode cX11_strike 11 = .ok (.iload_n 1, 1) := by decide +kernel
theorem dX11_strike_12 : decode cX11_strike 12 = .ok (.iconst 1, 1) := by decide +kernel
theorem dX11_strike_13 : decode cX11_strike 13 = .ok (.isub, 1) := by decide +kernel
theorem dX11_strike_14 : decode cX11_strike 14 = .ok (.invokevirtual 240, 3) := by decide +kernel
theorem dX11_strike_17 : decode cX11_strike 17 = .ok (.ifCond .ne 5, 3) := by decide +kernel
theorem dX11_strike_20 : decode cX11_strike 20 = .ok (.iconst 0, 1) := by decide +kernel
theorem dX11_strike_21 : decode cX11_strike 21 = .ok (.ireturn, 1) := by decide +kernel
theorem dX11_strike_22 : decode cX11_strike 22 = .ok (.aload_n 0, 1) := by decide +kernel
theorem dX11_strike_23 : decode cX11_strike 23 = .ok (.getfield 237, 3) := by decide +kernel
theorem dX11_strike_26 : decode cX11_strike 26 = .ok (.istore_n 3, 1) := by decide +kernel
theorem dX11_strike_27 : decode cX11_strike 27 = .ok (.aload_n 0, 1) := by decide +kernel
theorem dX11_strike_28 : decode cX11_strike 28 = .ok (.getfield 127, 3) := by decide +kernel
theorem dX11_strike_31 : decode cX11_strike 31 = .ok (.iload_n 3, 1) := by decide +kernel
theorem dX11_strike_32 : decode cX11_strike 32 = .ok (.baload, 1) := by decide +kernel
theorem dX11_strike_33 : decode cX11_strike 33 = .ok (.ifCond .eq 10, 3) := by decide +kernel
theorem dX11_strike_36 : decode cX11_strike 36 = .ok (.aload_n 0, 1) := by decide +kernel
theorem dX11_strike_37 : decode cX11_strike 37 = .ok (.iload_n 2, 1) := by decide +kernel
theorem dX11_strike_38 : decode cX11_strike 38 = .ok (.putfield 221, 3) := by decide +kernel
theorem dX11_strike_41 : decode cX11_strike 41 = .ok (.iconst 0, 1) := by decide +kernel
theorem dX11_strike_42 : decode cX11_strike 42 = .ok (.ireturn, 1) := by decide +kernel
theorem dX11_strike_43 : decode cX11_strike 43 = .ok (.aload_n 0, 1) := by decide +kernel
theorem dX11_strike_44 : decode cX11_strike 44 = .ok (.bipush 59, 2) := by decide +kernel
theorem dX11_strike_46 : decode cX11_strike 46 = .ok (.invokevirtual 281, 3) := by decide +kernel
theorem dX11_strike_49 : decode cX11_strike 49 = .ok (.ifCond .ne 5, 3) := by decide +kernel
theorem dX11_strike_52 : decode cX11_strike 52 = .ok (.iconst 0, 1) := by decide +kernel
theorem dX11_strike_53 : decode cX11_strike 53 = .ok (.ireturn, 1) := by decide +kernel
theorem dX11_strike_54 : decode cX11_strike 54 = .ok (.aload_n 0, 1) := by decide +kernel
theorem dX11_strike_55 : decode cX11_strike 55 = .ok (.getfield 127, 3) := by decide +kernel
theorem dX11_strike_58 : decode cX11_strike 58 = .ok (.iload_n 3, 1) := by decide +kernel
theorem dX11_strike_59 : decode cX11_strike 59 = .ok (.iconst 1, 1) := by decide +kernel
theorem dX11_strike_60 : decode cX11_strike 60 = .ok (.bastore, 1) := by decide +kernel
theorem dX11_strike_61 : decode cX11_strike 61 = .ok (.iconst 1, 1) := by decide +kernel
theorem dX11_strike_62 : decode cX11_strike 62 = .ok (.ireturn, 1) := by decide +kernel
theorem dX11_reads_0 : decode cX11_reads 0 = .ok (.iconst 0, 1) := by decide +kernel
theorem dX11_reads_1 : decode cX11_reads 1 = .ok (.istore_n 3, 1) := by decide +kernel
theorem dX11_reads_2 : decode cX11_reads 2 = .ok (.iload_n 3, 1) := by decide +kernel
theorem dX11_reads_3 : decode cX11_reads 3 = .ok (.iload_n 1, 1) := by decide +kernel
theorem dX11_reads_4 : decode cX11_reads 4 = .ok (.if_icmp .ge 21, 3) := by decide +kernel
theorem dX11_reads_7 : decode cX11_reads 7 = .ok (.aload_n 0, 1) := by decide +kernel
theorem dX11_reads_8 : decode cX11_reads 8 = .ok (.getfield 135, 3) := by decide +kernel
theorem dX11_reads_11 : decode cX11_reads 11 = .ok (.iload_n 3, 1) := by decide +kernel
theorem dX11_reads_12 : decode cX11_reads 12 = .ok (.aload_n 0, 1) := by decide +kernel
theorem dX11_reads_13 : decode cX11_reads 13 = .ok (.getfield 131, 3) := by decide +kernel
theorem dX11_reads_16 : decode cX11_reads 16 = .ok (.iload_n 3, 1) := by decide +kernel
theorem dX11_reads_17 : decode cX11_reads 17 = .ok (.baload, 1) := by decide +kernel
theorem dX11_reads_18 : decode cX11_reads 18 = .ok (.bastore, 1) := by decide +kernel
theorem dX11_reads_19 : decode cX11_reads 19 = .ok (.iinc 3 1, 3) := by decide +kernel
theorem dX11_reads_22 : decode cX11_reads 22 = .ok (.goto (-20), 3) := by decide +kernel
theorem dX11_reads_25 : decode cX11_reads 25 = .ok (.aload_n 0, 1) := by decide +kernel
theorem dX11_reads_26 : decode cX11_reads 26 = .ok (.iload_n 1, 1) := by decide +kernel
theorem dX11_reads_27 : decode cX11_reads 27 = .ok (.putfield 224, 3) := by decide +kernel
theorem dX11_reads_30 : decode cX11_reads 30 = .ok (.aload_n 0, 1) := by decide +kernel
theorem dX11_reads_31 : decode cX11_reads 31 = .ok (.iconst 0, 1) := by decide +kernel
theorem dX11_reads_32 : decode cX11_reads 32 = .ok (.putfield 214, 3) := by decide +kernel
theorem dX11_reads_35 : decode cX11_reads 35 = .ok (.aload_n 0, 1) := by decide +kernel
theorem dX11_reads_36 : decode cX11_reads 36 = .ok (.iconst 0, 1) := by decide +kernel
theorem dX11_reads_37 : decode cX11_reads 37 = .ok (.putfield 221, 3) := by decide +kernel
theorem dX11_reads_40 : decode cX11_reads 40 = .ok (.aload_n 0, 1) := by decide +kernel
theorem dX11_reads_41 : decode cX11_reads 41 = .ok (.getfield 69, 3) := by decide +kernel
theorem dX11_reads_44 : decode cX11_reads 44 = .ok (.bipush 13, 2) := by decide +kernel
theorem dX11_reads_46 : decode cX11_reads 46 = .ok (.iconst 0, 1) := by decide +kernel
theorem dX11_reads_47 : decode cX11_reads 47 = .ok (.iastore, 1) := by decide +kernel
theorem dX11_reads_48 : decode cX11_reads 48 = .ok (.aload_n 0, 1) := by decide +kernel
theorem dX11_reads_49 : decode cX11_reads 49 = .ok (.getfield 78, 3) := by decide +kernel
theorem dX11_reads_52 : decode cX11_reads 52 = .ok (.bipush 13, 2) := by decide +kernel
theorem dX11_reads_54 : decode cX11_reads 54 = .ok (.iconst 0, 1) := by decide +kernel
theorem dX11_reads_55 : decode cX11_reads 55 = .ok (.iastore, 1) := by decide +kernel
theorem dX11_reads_56 : decode cX11_reads 56 = .ok (.iconst 0, 1) := by decide +kernel
theorem dX11_reads_57 : decode cX11_reads 57 = .ok (.istore_n 3, 1) := by decide +kernel
theorem dX11_reads_58 : decode cX11_reads 58 = .ok (.iconst 1, 1) := by decide +kernel
theorem dX11_reads_59 : decode cX11_reads 59 = .ok (.istore 4, 2) := by decide +kernel
theorem dX11_reads_61 : decode cX11_reads 61 = .ok (.aload_n 0, 1) := by decide +kernel
theorem dX11_reads_62 : decode cX11_reads 62 = .ok (.ldc2_w 359, 3) := by decide +kernel
theorem dX11_reads_65 : decode cX11_reads 65 = .ok (.invokevirtual 254, 3) := by decide +kernel
theorem dX11_reads_68 : decode cX11_reads 68 = .ok (.istore 5, 2) := by decide +kernel
theorem dX11_reads_70 : decode cX11_reads 70 = .ok (.iload 5, 2) := by decide +kernel
theorem dX11_reads_72 : decode cX11_reads 72 = .ok (.ifCond .eq 11, 3) := by decide +kernel
theorem dX11_reads_75 : decode cX11_reads 75 = .ok (.aload_n 0, 1) := by decide +kernel
theorem dX11_reads_76 : decode cX11_reads 76 = .ok (.bipush 59, 2) := by decide +kernel
theorem dX11_reads_78 : decode cX11_reads 78 = .ok (.invokevirtual 281, 3) := by decide +kernel
theorem dX11_reads_81 : decode cX11_reads 81 = .ok (.istore 4, 2) := by decide +kernel
theorem dX11_reads_83 : decode cX11_reads 83 = .ok (.iload 4, 2) := by decide +kernel
theorem dX11_reads_85 : decode cX11_reads 85 = .ok (.ifCond .eq 28, 3) := by decide +kernel
theorem dX11_reads_88 : decode cX11_reads 88 = .ok (.iload 5, 2) := by decide +kernel
theorem dX11_reads_90 : decode cX11_reads 90 = .ok (.ifCond .eq 23, 3) := by decide +kernel
theorem dX11_reads_93 : decode cX11_reads 93 = .ok (.iload_n 2, 1) := by decide +kernel
theorem dX11_reads_94 : decode cX11_reads 94 = .ok (.iconst (-1), 1) := by decide +kernel
theorem dX11_reads_95 : decode cX11_reads 95 = .ok (.if_icmp .eq 18, 3) := by decide +kernel
theorem dX11_reads_98 : decode cX11_reads 98 = .ok (.aload_n 0, 1) := by decide +kernel
theorem dX11_reads_99 : decode cX11_reads 99 = .ok (.iload_n 2, 1) := by decide +kernel
theorem dX11_reads_100 : decode cX11_reads 100 = .ok (.bipush 13, 2) := by decide +kernel
theorem dX11_reads_102 : decode cX11_reads 102 = .ok (.invokevirtual 361, 3) := by decide +kernel
theorem dX11_reads_105 : decode cX11_reads 105 = .ok (.aload_n 0, 1) := by decide +kernel
theorem dX11_reads_106 : decode cX11_reads 106 = .ok (.getfield 69, 3) := by decide +kernel
theorem dX11_reads_109 : decode cX11_reads 109 = .ok (.bipush 13, 2) := by decide +kernel
theorem dX11_reads_111 : decode cX11_reads 111 = .ok (.iaload, 1) := by decide +kernel
theorem dX11_reads_112 : decode cX11_reads 112 = .ok (.istore_n 3, 1) := by decide +kernel
theorem dX11_reads_113 : decode cX11_reads 113 = .ok (.iconst 0, 1) := by decide +kernel
theorem dX11_reads_114 : decode cX11_reads 114 = .ok (.istore 6, 2) := by decide +kernel
theorem dX11_reads_116 : decode cX11_reads 116 = .ok (.iload 6, 2) := by decide +kernel
theorem dX11_reads_118 : decode cX11_reads 118 = .ok (.sipush 300, 3) := by decide +kernel
theorem dX11_reads_121 : decode cX11_reads 121 = .ok (.if_icmp .ge 17, 3) := by decide +kernel
theorem dX11_reads_124 : decode cX11_reads 124 = .ok (.aload_n 0, 1) := by decide +kernel
theorem dX11_reads_125 : decode cX11_reads 125 = .ok (.getfield 127, 3) := by decide +kernel
theorem dX11_reads_128 : decode cX11_reads 128 = .ok (.iload 6, 2) := by decide +kernel
theorem dX11_reads_130 : decode cX11_reads 130 = .ok (.iconst 0, 1) := by decide +kernel
theorem dX11_reads_131 : decode cX11_reads 131 = .ok (.bastore, 1) := by decide +kernel
theorem dX11_reads_132 : decode cX11_reads 132 = .ok (.iinc 6 1, 3) := by decide +kernel
theorem dX11_reads_135 : decode cX11_reads 135 = .ok (.goto (-19), 3) := by decide +kernel
theorem dX11_reads_138 : decode cX11_reads 138 = .ok (.iconst 0, 1) := by decide +kernel
theorem dX11_reads_139 : decode cX11_reads 139 = .ok (.istore 6, 2) := by decide +kernel
theorem dX11_reads_141 : decode cX11_reads 141 = .ok (.aload_n 0, 1) := by decide +kernel
theorem dX11_reads_142 : decode cX11_reads 142 = .ok (.invokevirtual 227, 3) := by decide +kernel
theorem dX11_reads_145 : decode cX11_reads 145 = .ok (.iload 4, 2) := by decide +kernel
theorem dX11_reads_147 : decode cX11_reads 147 = .ok (.ifCond .eq 79, 3) := by decide +kernel
theorem dX11_reads_150 : decode cX11_reads 150 = .ok (.aload_n 0, 1) := by decide +kernel
theorem dX11_reads_151 : decode cX11_reads 151 = .ok (.getfield 221, 3) := by decide +kernel
theorem dX11_reads_154 : decode cX11_reads 154 = .ok (.aload_n 0, 1) := by decide +kernel
theorem dX11_reads_155 : decode cX11_reads 155 = .ok (.getfield 224, 3) := by decide +kernel
theorem dX11_reads_158 : decode cX11_reads 158 = .ok (.if_icmp .ge 68, 3) := by decide +kernel
theorem dX11_reads_161 : decode cX11_reads 161 = .ok (.iload 6, 2) := by decide +kernel
theorem dX11_reads_163 : decode cX11_reads 163 = .ok (.bipush 30, 2) := by decide +kernel
theorem dX11_reads_165 : decode cX11_reads 165 = .ok (.if_icmp .ge 40, 3) := by decide +kernel
theorem dX11_reads_168 : decode cX11_reads 168 = .ok (.iload 5, 2) := by decide +kernel
theorem dX11_reads_170 : decode cX11_reads 170 = .ok (.ifCond .eq 24, 3) := by decide +kernel
theorem dX11_reads_173 : decode cX11_reads 173 = .ok (.aload_n 0, 1) := by decide +kernel
theorem dX11_reads_174 : decode cX11_reads 174 = .ok (.ldc2_w 365, 3) := by decide +kernel
theorem dX11_reads_177 : decode cX11_reads 177 = .ok (.invokevirtual 254, 3) := by decide +kernel
theorem dX11_reads_180 : decode cX11_reads 180 = .ok (.ifCond .eq 14, 3) := by decide +kernel
theorem dX11_reads_183 : decode cX11_reads 183 = .ok (.aload_n 0, 1) := by decide +kernel
theorem dX11_reads_184 : decode cX11_reads 184 = .ok (.iload_n 3, 1) := by decide +kernel
theorem dX11_reads_185 : decode cX11_reads 185 = .ok (.invokevirtual 367, 3) := by decide +kernel
theorem dX11_reads_188 : decode cX11_reads 188 = .ok (.ifCond .eq 17, 3) := by decide +kernel
theorem dX11_reads_191 : decode cX11_reads 191 = .ok (.goto 10, 3) := by decide +kernel
theorem dX11_reads_194 : decode cX11_reads 194 = .ok (.aload_n 0, 1) := by decide +kernel
theorem dX11_reads_195 : decode cX11_reads 195 = .ok (.invokevirtual 370, 3) := by decide +kernel
theorem dX11_reads_198 : decode cX11_reads 198 = .ok (.ifCond .eq 7, 3) := by decide +kernel
theorem dX11_reads_201 : decode cX11_reads 201 = .ok (.iconst 1, 1) := by decide +kernel
theorem dX11_reads_202 : decode cX11_reads 202 = .ok (.goto 4, 3) := by decide +kernel
theorem dX11_reads_205 : decode cX11_reads 205 = .ok (.iconst 0, 1) := by decide +kernel
theorem dX11_reads_206 : decode cX11_reads 206 = .ok (.istore 4, 2) := by decide +kernel
theorem dX11_reads_208 : decode cX11_reads 208 = .ok (.iload 4, 2) := by decide +kernel
theorem dX11_reads_210 : decode cX11_reads 210 = .ok (.ifCond .ne 6, 3) := by decide +kernel
theorem dX11_reads_213 : decode cX11_reads 213 = .ok (.goto (-68), 3) := by decide +kernel
theorem dX11_reads_216 : decode cX11_reads 216 = .ok (.iinc 6 1, 3) := by decide +kernel
theorem dX11_reads_219 : decode cX11_reads 219 = .ok (.aload_n 0, 1) := by decide +kernel
theorem dX11_reads_220 : decode cX11_reads 220 = .ok (.invokevirtual 227, 3) := by decide +kernel
theorem dX11_reads_223 : decode cX11_reads 223 = .ok (.goto (-78), 3) := by decide +kernel
theorem dX11_reads_226 : decode cX11_reads 226 = .ok (.aload_n 0, 1) := by decide +kernel
theorem dX11_reads_227 : decode cX11_reads 227 = .ok (.iload 4, 2) := by decide +kernel
theorem dX11_reads_229 : decode cX11_reads 229 = .ok (.ifCond .eq 7, 3) := by decide +kernel
theorem dX11_reads_232 : decode cX11_reads 232 = .ok (.iconst (-1), 1) := by decide +kernel
theorem dX11_reads_233 : decode cX11_reads 233 = .ok (.goto 7, 3) := by decide +kernel
theorem dX11_reads_236 : decode cX11_reads 236 = .ok (.aload_n 0, 1) := by decide +kernel
theorem dX11_reads_237 : decode cX11_reads 237 = .ok (.getfield 221, 3) := by decide +kernel
theorem dX11_reads_240 : decode cX11_reads 240 = .ok (.putfield 65, 3) := by decide +kernel
theorem dX11_reads_243 : decode cX11_reads 243 = .ok (.iload 4, 2) := by decide +kernel
theorem dX11_reads_245 : decode cX11_reads 245 = .ok (.ifCond .eq 8, 3) := by decide +kernel
theorem dX11_reads_248 : decode cX11_reads 248 = .ok (.aload_n 0, 1) := by decide +kernel
theorem dX11_reads_249 : decode cX11_reads 249 = .ok (.iload_n 3, 1) := by decide +kernel
theorem dX11_reads_250 : decode cX11_reads 250 = .ok (.invokevirtual 373, 3) := by decide +kernel
theorem dX11_reads_253 : decode cX11_reads 253 = .ok (.iload 4, 2) := by decide +kernel
theorem dX11_reads_255 : decode cX11_reads 255 = .ok (.ireturn, 1) := by decide +kernel
theorem dX11_closes_0 : decode cX11_closes 0 = .ok (.iconst 0, 1) := by decide +kernel
theorem dX11_closes_1 : decode cX11_closes 1 = .ok (.istore_n 2, 1) := by decide +kernel
theorem dX11_closes_2 : decode cX11_closes 2 = .ok (.iconst 0, 1) := by decide +kernel
theorem dX11_closes_3 : decode cX11_closes 3 = .ok (.istore_n 3, 1) := by decide +kernel
theorem dX11_closes_4 : decode cX11_closes 4 = .ok (.iload_n 3, 1) := by decide +kernel
theorem dX11_closes_5 : decode cX11_closes 5 = .ok (.aload_n 0, 1) := by decide +kernel
theorem dX11_closes_6 : decode cX11_closes 6 = .ok (.getfield 69, 3) := by decide +kernel
theorem dX11_closes_9 : decode cX11_closes 9 = .ok (.bipush 13, 2) := by decide +kernel
theorem dX11_closes_11 : decode cX11_closes 11 = .ok (.iaload, 1) := by decide +kernel
theorem dX11_closes_12 : decode cX11_closes 12 = .ok (.if_icmp .ge 44, 3) := by decide +kernel
theorem dX11_closes_15 : decode cX11_closes 15 = .ok (.iload_n 3, 1) := by decide +kernel
theorem dX11_closes_16 : decode cX11_closes 16 = .ok (.iload_n 1, 1) := by decide +kernel
theorem dX11_closes_17 : decode cX11_closes 17 = .ok (.if_icmp .ge 15, 3) := by decide +kernel
theorem dX11_closes_20 : decode cX11_closes 20 = .ok (.aload_n 0, 1) := by decide +kernel
theorem dX11_closes_21 : decode cX11_closes 21 = .ok (.getfield 127, 3) := by decide +kernel
theorem dX11_closes_24 : decode cX11_closes 24 = .ok (.iload_n 3, 1) := by decide +kernel
theorem dX11_closes_25 : decode cX11_closes 25 = .ok (.baload, 1) := by decide +kernel
theorem dX11_closes_26 : decode cX11_closes 26 = .ok (.ifCond .eq 6, 3) := by decide +kernel
theorem dX11_closes_29 : decode cX11_closes 29 = .ok (.goto 21, 3) := by decide +kernel
theorem dX11_closes_32 : decode cX11_closes 32 = .ok (.aload_n 0, 1) := by decide +kernel
theorem dX11_closes_33 : decode cX11_closes 33 = .ok (.sipush 3900, 3) := by decide +kernel
theorem dX11_closes_36 : decode cX11_closes 36 = .ok (.iload_n 3, 1) := by decide +kernel
theorem dX11_closes_37 : decode cX11_closes 37 = .ok (.iadd, 1) := by decide +kernel
theorem dX11_closes_38 : decode cX11_closes 38 = .ok (.sipush 3900, 3) := by decide +kernel
theorem dX11_closes_41 : decode cX11_closes 41 = .ok (.iload_n 2, 1) := by decide +kernel
theorem dX11_closes_42 : decode cX11_closes 42 = .ok (.iadd, 1) := by decide +kernel
theorem dX11_closes_43 : decode cX11_closes 43 = .ok (.iconst 0, 1) := by decide +kernel
theorem dX11_closes_44 : decode cX11_closes 44 = .ok (.invokevirtual 376, 3) := by decide +kernel
theorem dX11_closes_47 : decode cX11_closes 47 = .ok (.iinc 2 1, 3) := by decide +kernel
theorem dX11_closes_50 : decode cX11_closes 50 = .ok (.iinc 3 1, 3) := by decide +kernel
theorem dX11_closes_53 : decode cX11_closes 53 = .ok (.goto (-49), 3) := by decide +kernel
theorem dX11_closes_56 : decode cX11_closes 56 = .ok (.aload_n 0, 1) := by decide +kernel
theorem dX11_closes_57 : decode cX11_closes 57 = .ok (.getfield 69, 3) := by decide +kernel
theorem dX11_closes_60 : decode cX11_closes 60 = .ok (.bipush 13, 2) := by decide +kernel
theorem dX11_closes_62 : decode cX11_closes 62 = .ok (.iload_n 2, 1) := by decide +kernel
theorem dX11_closes_63 : decode cX11_closes 63 = .ok (.iastore, 1) := by decide +kernel
theorem dX11_closes_64 : decode cX11_closes 64 = .ok (.return_, 1) := by decide +kernel
theorem dX11_shifts_0 : decode cX11_shifts 0 = .ok (.aload_n 0, 1) := by decide +kernel
theorem dX11_shifts_1 : decode cX11_shifts 1 = .ok (.getfield 81, 3) := by decide +kernel
theorem dX11_shifts_4 : decode cX11_shifts 4 = .ok (.iload_n 2, 1) := by decide +kernel
theorem dX11_shifts_5 : decode cX11_shifts 5 = .ok (.aload_n 0, 1) := by decide +kernel
theorem dX11_shifts_6 : decode cX11_shifts 6 = .ok (.getfield 81, 3) := by decide +kernel
theorem dX11_shifts_9 : decode cX11_shifts 9 = .ok (.iload_n 1, 1) := by decide +kernel
theorem dX11_shifts_10 : decode cX11_shifts 10 = .ok (.iaload, 1) := by decide +kernel
theorem dX11_shifts_11 : decode cX11_shifts 11 = .ok (.iastore, 1) := by decide +kernel
theorem dX11_shifts_12 : decode cX11_shifts 12 = .ok (.aload_n 0, 1) := by decide +kernel
theorem dX11_shifts_13 : decode cX11_shifts 13 = .ok (.getfield 84, 3) := by decide +kernel
theorem dX11_shifts_16 : decode cX11_shifts 16 = .ok (.iload_n 2, 1) := by decide +kernel
theorem dX11_shifts_17 : decode cX11_shifts 17 = .ok (.aload_n 0, 1) := by decide +kernel
theorem dX11_shifts_18 : decode cX11_shifts 18 = .ok (.getfield 84, 3) := by decide +kernel
theorem dX11_shifts_21 : decode cX11_shifts 21 = .ok (.iload_n 1, 1) := by decide +kernel
theorem dX11_shifts_22 : decode cX11_shifts 22 = .ok (.iaload, 1) := by decide +kernel
theorem dX11_shifts_23 : decode cX11_shifts 23 = .ok (.iastore, 1) := by decide +kernel
theorem dX11_shifts_24 : decode cX11_shifts 24 = .ok (.aload_n 0, 1) := by decide +kernel
theorem dX11_shifts_25 : decode cX11_shifts 25 = .ok (.getfield 87, 3) := by decide +kernel
theorem dX11_shifts_28 : decode cX11_shifts 28 = .ok (.iload_n 2, 1) := by decide +kernel
theorem dX11_shifts_29 : decode cX11_shifts 29 = .ok (.aload_n 0, 1) := by decide +kernel
theorem dX11_shifts_30 : decode cX11_shifts 30 = .ok (.getfield 87, 3) := by decide +kernel
theorem dX11_shifts_33 : decode cX11_shifts 33 = .ok (.iload_n 1, 1) := by decide +kernel
theorem dX11_shifts_34 : decode cX11_shifts 34 = .ok (.iaload, 1) := by decide +kernel
theorem dX11_shifts_35 : decode cX11_shifts 35 = .ok (.iastore, 1) := by decide +kernel
theorem dX11_shifts_36 : decode cX11_shifts 36 = .ok (.aload_n 0, 1) := by decide +kernel
theorem dX11_shifts_37 : decode cX11_shifts 37 = .ok (.getfield 90, 3) := by decide +kernel
theorem dX11_shifts_40 : decode cX11_shifts 40 = .ok (.iload_n 2, 1) := by decide +kernel
theorem dX11_shifts_41 : decode cX11_shifts 41 = .ok (.aload_n 0, 1) := by decide +kernel
theorem dX11_shifts_42 : decode cX11_shifts 42 = .ok (.getfield 90, 3) := by decide +kernel
theorem dX11_shifts_45 : decode cX11_shifts 45 = .ok (.iload_n 1, 1) := by decide +kernel
theorem dX11_shifts_46 : decode cX11_shifts 46 = .ok (.iaload, 1) := by decide +kernel
theorem dX11_shifts_47 : decode cX11_shifts 47 = .ok (.iastore, 1) := by decide +kernel
theorem dX11_shifts_48 : decode cX11_shifts 48 = .ok (.aload_n 0, 1) := by decide +kernel
theorem dX11_shifts_49 : decode cX11_shifts 49 = .ok (.getfield 93, 3) := by decide +kernel
theorem dX11_shifts_52 : decode cX11_shifts 52 = .ok (.iload_n 2, 1) := by decide +kernel
theorem dX11_shifts_53 : decode cX11_shifts 53 = .ok (.aload_n 0, 1) := by decide +kernel
theorem dX11_shifts_54 : decode cX11_shifts 54 = .ok (.getfield 93, 3) := by decide +kernel
theorem dX11_shifts_57 : decode cX11_shifts 57 = .ok (.iload_n 1, 1) := by decide +kernel
theorem dX11_shifts_58 : decode cX11_shifts 58 = .ok (.iaload, 1) := by decide +kernel
theorem dX11_shifts_59 : decode cX11_shifts 59 = .ok (.iastore, 1) := by decide +kernel
theorem dX11_shifts_60 : decode cX11_shifts 60 = .ok (.aload_n 0, 1) := by decide +kernel
theorem dX11_shifts_61 : decode cX11_shifts 61 = .ok (.getfield 96, 3) := by decide +kernel
theorem dX11_shifts_64 : decode cX11_shifts 64 = .ok (.iload_n 2, 1) := by decide +kernel
theorem dX11_shifts_65 : decode cX11_shifts 65 = .ok (.aload_n 0, 1) := by decide +kernel
theorem dX11_shifts_66 : decode cX11_shifts 66 = .ok (.getfield 96, 3) := by decide +kernel
theorem dX11_shifts_69 : decode cX11_shifts 69 = .ok (.iload_n 1, 1) := by decide +kernel
theorem dX11_shifts_70 : decode cX11_shifts 70 = .ok (.iaload, 1) := by decide +kernel
theorem dX11_shifts_71 : decode cX11_shifts 71 = .ok (.iastore, 1) := by decide +kernel
theorem dX11_shifts_72 : decode cX11_shifts 72 = .ok (.aload_n 0, 1) := by decide +kernel
theorem dX11_shifts_73 : decode cX11_shifts 73 = .ok (.getfield 99, 3) := by decide +kernel
theorem dX11_shifts_76 : decode cX11_shifts 76 = .ok (.iload_n 2, 1) := by decide +kernel
theorem dX11_shifts_77 : decode cX11_shifts 77 = .ok (.aload_n 0, 1) := by decide +kernel
theorem dX11_shifts_78 : decode cX11_shifts 78 = .ok (.getfield 99, 3) := by decide +kernel
theorem dX11_shifts_81 : decode cX11_shifts 81 = .ok (.iload_n 1, 1) := by decide +kernel
theorem dX11_shifts_82 : decode cX11_shifts 82 = .ok (.iaload, 1) := by decide +kernel
theorem dX11_shifts_83 : decode cX11_shifts 83 = .ok (.iastore, 1) := by decide +kernel
theorem dX11_shifts_84 : decode cX11_shifts 84 = .ok (.aload_n 0, 1) := by decide +kernel
theorem dX11_shifts_85 : decode cX11_shifts 85 = .ok (.getfield 102, 3) := by decide +kernel
theorem dX11_shifts_88 : decode cX11_shifts 88 = .ok (.iload_n 2, 1) := by decide +kernel
theorem dX11_shifts_89 : decode cX11_shifts 89 = .ok (.aload_n 0, 1) := by decide +kernel
theorem dX11_shifts_90 : decode cX11_shifts 90 = .ok (.getfield 102, 3) := by decide +kernel
theorem dX11_shifts_93 : decode cX11_shifts 93 = .ok (.iload_n 1, 1) := by decide +kernel
theorem dX11_shifts_94 : decode cX11_shifts 94 = .ok (.iaload, 1) := by decide +kernel
theorem dX11_shifts_95 : decode cX11_shifts 95 = .ok (.iastore, 1) := by decide +kernel
theorem dX11_shifts_96 : decode cX11_shifts 96 = .ok (.aload_n 0, 1) := by decide +kernel
theorem dX11_shifts_97 : decode cX11_shifts 97 = .ok (.getfield 105, 3) := by decide +kernel
theorem dX11_shifts_100 : decode cX11_shifts 100 = .ok (.iload_n 2, 1) := by decide +kernel
theorem dX11_shifts_101 : decode cX11_shifts 101 = .ok (.aload_n 0, 1) := by decide +kernel
theorem dX11_shifts_102 : decode cX11_shifts 102 = .ok (.getfield 105, 3) := by decide +kernel
theorem dX11_shifts_105 : decode cX11_shifts 105 = .ok (.iload_n 1, 1) := by decide +kernel
theorem dX11_shifts_106 : decode cX11_shifts 106 = .ok (.iaload, 1) := by decide +kernel
theorem dX11_shifts_107 : decode cX11_shifts 107 = .ok (.iconst (-1), 1) := by decide +kernel
theorem dX11_shifts_108 : decode cX11_shifts 108 = .ok (.if_icmp .ne 7, 3) := by decide +kernel
theorem dX11_shifts_111 : decode cX11_shifts 111 = .ok (.iconst (-1), 1) := by decide +kernel
theorem dX11_shifts_112 : decode cX11_shifts 112 = .ok (.goto 11, 3) := by decide +kernel
theorem dX11_shifts_115 : decode cX11_shifts 115 = .ok (.aload_n 0, 1) := by decide +kernel
theorem dX11_shifts_116 : decode cX11_shifts 116 = .ok (.getfield 105, 3) := by decide +kernel
theorem dX11_shifts_119 : decode cX11_shifts 119 = .ok (.iload_n 1, 1) := by decide +kernel
theorem dX11_shifts_120 : decode cX11_shifts 120 = .ok (.iaload, 1) := by decide +kernel
theorem dX11_shifts_121 : decode cX11_shifts 121 = .ok (.iload_n 3, 1) := by decide +kernel
theorem dX11_shifts_122 : decode cX11_shifts 122 = .ok (.iadd, 1) := by decide +kernel
theorem dX11_shifts_123 : decode cX11_shifts 123 = .ok (.iastore, 1) := by decide +kernel
theorem dX11_shifts_124 : decode cX11_shifts 124 = .ok (.return_, 1) := by decide +kernel
theorem dX11_copies_0 : decode cX11_copies 0 = .ok (.sipush 6500, 3) := by decide +kernel
theorem dX11_copies_3 : decode cX11_copies 3 = .ok (.iload_n 2, 1) := by decide +kernel
theorem dX11_copies_4 : decode cX11_copies 4 = .ok (.iload_n 1, 1) := by decide +kernel
theorem dX11_copies_5 : decode cX11_copies 5 = .ok (.isub, 1) := by decide +kernel
theorem dX11_copies_6 : decode cX11_copies 6 = .ok (.imul, 1) := by decide +kernel
theorem dX11_copies_7 : decode cX11_copies 7 = .ok (.istore_n 3, 1) := by decide +kernel
theorem dX11_copies_8 : decode cX11_copies 8 = .ok (.aload_n 0, 1) := by decide +kernel
theorem dX11_copies_9 : decode cX11_copies 9 = .ok (.getfield 69, 3) := by decide +kernel
theorem dX11_copies_12 : decode cX11_copies 12 = .ok (.iload_n 2, 1) := by decide +kernel
theorem dX11_copies_13 : decode cX11_copies 13 = .ok (.aload_n 0, 1) := by decide +kernel
theorem dX11_copies_14 : decode cX11_copies 14 = .ok (.getfield 69, 3) := by decide +kernel
theorem dX11_copies_17 : decode cX11_copies 17 = .ok (.iload_n 1, 1) := by decide +kernel
theorem dX11_copies_18 : decode cX11_copies 18 = .ok (.iaload, 1) := by decide +kernel
theorem dX11_copies_19 : decode cX11_copies 19 = .ok (.iastore, 1) := by decide +kernel
theorem dX11_copies_20 : decode cX11_copies 20 = .ok (.iconst 0, 1) := by decide +kernel
theorem dX11_copies_21 : decode cX11_copies 21 = .ok (.istore 4, 2) := by decide +kernel
theorem dX11_copies_23 : decode cX11_copies 23 = .ok (.iload 4, 2) := by decide +kernel
theorem dX11_copies_25 : decode cX11_copies 25 = .ok (.aload_n 0, 1) := by decide +kernel
theorem dX11_copies_26 : decode cX11_copies 26 = .ok (.getfield 69, 3) := by decide +kernel
theorem dX11_copies_29 : decode cX11_copies 29 = .ok (.iload_n 1, 1) := by decide +kernel
theorem dX11_copies_30 : decode cX11_copies 30 = .ok (.iaload, 1) := by decide +kernel
theorem dX11_copies_31 : decode cX11_copies 31 = .ok (.if_icmp .ge 30, 3) := by decide +kernel
theorem dX11_copies_34 : decode cX11_copies 34 = .ok (.aload_n 0, 1) := by decide +kernel
theorem dX11_copies_35 : decode cX11_copies 35 = .ok (.sipush 300, 3) := by decide +kernel
theorem dX11_copies_38 : decode cX11_copies 38 = .ok (.iload_n 1, 1) := by decide +kernel
theorem dX11_copies_39 : decode cX11_copies 39 = .ok (.imul, 1) := by decide +kernel
theorem dX11_copies_40 : decode cX11_copies 40 = .ok (.iload 4, 2) := by decide +kernel
theorem dX11_copies_42 : decode cX11_copies 42 = .ok (.iadd, 1) := by decide +kernel
theorem dX11_copies_43 : decode cX11_copies 43 = .ok (.sipush 300, 3) := by decide +kernel
theorem dX11_copies_46 : decode cX11_copies 46 = .ok (.iload_n 2, 1) := by decide +kernel
theorem dX11_copies_47 : decode cX11_copies 47 = .ok (.imul, 1) := by decide +kernel
theorem dX11_copies_48 : decode cX11_copies 48 = .ok (.iload 4, 2) := by decide +kernel
theorem dX11_copies_50 : decode cX11_copies 50 = .ok (.iadd, 1) := by decide +kernel
theorem dX11_copies_51 : decode cX11_copies 51 = .ok (.iload_n 3, 1) := by decide +kernel
theorem dX11_copies_52 : decode cX11_copies 52 = .ok (.invokevirtual 376, 3) := by decide +kernel
theorem dX11_copies_55 : decode cX11_copies 55 = .ok (.iinc 4 1, 3) := by decide +kernel
theorem dX11_copies_58 : decode cX11_copies 58 = .ok (.goto (-35), 3) := by decide +kernel
theorem dX11_copies_61 : decode cX11_copies 61 = .ok (.aload_n 0, 1) := by decide +kernel
theorem dX11_copies_62 : decode cX11_copies 62 = .ok (.getfield 78, 3) := by decide +kernel
theorem dX11_copies_65 : decode cX11_copies 65 = .ok (.iload_n 2, 1) := by decide +kernel
theorem dX11_copies_66 : decode cX11_copies 66 = .ok (.aload_n 0, 1) := by decide +kernel
theorem dX11_copies_67 : decode cX11_copies 67 = .ok (.getfield 78, 3) := by decide +kernel
theorem dX11_copies_70 : decode cX11_copies 70 = .ok (.iload_n 1, 1) := by decide +kernel
theorem dX11_copies_71 : decode cX11_copies 71 = .ok (.iaload, 1) := by decide +kernel
theorem dX11_copies_72 : decode cX11_copies 72 = .ok (.iastore, 1) := by decide +kernel
theorem dX11_copies_73 : decode cX11_copies 73 = .ok (.sipush 6500, 3) := by decide +kernel
theorem dX11_copies_76 : decode cX11_copies 76 = .ok (.iload_n 1, 1) := by decide +kernel
theorem dX11_copies_77 : decode cX11_copies 77 = .ok (.imul, 1) := by decide +kernel
theorem dX11_copies_78 : decode cX11_copies 78 = .ok (.istore 4, 2) := by decide +kernel
theorem dX11_copies_80 : decode cX11_copies 80 = .ok (.iload 4, 2) := by decide +kernel
theorem dX11_copies_82 : decode cX11_copies 82 = .ok (.sipush 6500, 3) := by decide +kernel
theorem dX11_copies_85 : decode cX11_copies 85 = .ok (.iload_n 1, 1) := by decide +kernel
theorem dX11_copies_86 : decode cX11_copies 86 = .ok (.imul, 1) := by decide +kernel
theorem dX11_copies_87 : decode cX11_copies 87 = .ok (.aload_n 0, 1) := by decide +kernel
theorem dX11_copies_88 : decode cX11_copies 88 = .ok (.getfield 78, 3) := by decide +kernel
theorem dX11_copies_91 : decode cX11_copies 91 = .ok (.iload_n 1, 1) := by decide +kernel
theorem dX11_copies_92 : decode cX11_copies 92 = .ok (.iaload, 1) := by decide +kernel
theorem dX11_copies_93 : decode cX11_copies 93 = .ok (.iadd, 1) := by decide +kernel
theorem dX11_copies_94 : decode cX11_copies 94 = .ok (.if_icmp .ge 139, 3) := by decide +kernel
theorem dX11_copies_97 : decode cX11_copies 97 = .ok (.aload_n 0, 1) := by decide +kernel
theorem dX11_copies_98 : decode cX11_copies 98 = .ok (.getfield 109, 3) := by decide +kernel
theorem dX11_copies_101 : decode cX11_copies 101 = .ok (.iload 4, 2) := by decide +kernel
theorem dX11_copies_103 : decode cX11_copies 103 = .ok (.iload_n 3, 1) := by decide +kernel
theorem dX11_copies_104 : decode cX11_copies 104 = .ok (.iadd, 1) := by decide +kernel
theorem dX11_copies_105 : decode cX11_copies 105 = .ok (.aload_n 0, 1) := by decide +kernel
theorem dX11_copies_106 : decode cX11_copies 106 = .ok (.getfield 109, 3) := by decide +kernel
theorem dX11_copies_109 : decode cX11_copies 109 = .ok (.iload 4, 2) := by decide +kernel
theorem dX11_copies_111 : decode cX11_copies 111 = .ok (.iaload, 1) := by decide +kernel
theorem dX11_copies_112 : decode cX11_copies 112 = .ok (.iastore, 1) := by decide +kernel
theorem dX11_copies_113 : decode cX11_copies 113 = .ok (.aload_n 0, 1) := by decide +kernel
theorem dX11_copies_114 : decode cX11_copies 114 = .ok (.getfield 112, 3) := by decide +kernel
theorem dX11_copies_117 : decode cX11_copies 117 = .ok (.iload 4, 2) := by decide +kernel
theorem dX11_copies_119 : decode cX11_copies 119 = .ok (.iload_n 3, 1) := by decide +kernel
theorem dX11_copies_120 : decode cX11_copies 120 = .ok (.iadd, 1) := by decide +kernel
theorem dX11_copies_121 : decode cX11_copies 121 = .ok (.aload_n 0, 1) := by decide +kernel
theorem dX11_copies_122 : decode cX11_copies 122 = .ok (.getfield 112, 3) := by decide +kernel
theorem dX11_copies_125 : decode cX11_copies 125 = .ok (.iload 4, 2) := by decide +kernel
theorem dX11_copies_127 : decode cX11_copies 127 = .ok (.iaload, 1) := by decide +kernel
theorem dX11_copies_128 : decode cX11_copies 128 = .ok (.iconst (-1), 1) := by decide +kernel
theorem dX11_copies_129 : decode cX11_copies 129 = .ok (.if_icmp .ne 7, 3) := by decide +kernel
theorem dX11_copies_132 : decode cX11_copies 132 = .ok (.iconst (-1), 1) := by decide +kernel
theorem dX11_copies_133 : decode cX11_copies 133 = .ok (.goto 12, 3) := by decide +kernel
theorem dX11_copies_136 : decode cX11_copies 136 = .ok (.aload_n 0, 1) := by decide +kernel
theorem dX11_copies_137 : decode cX11_copies 137 = .ok (.getfield 112, 3) := by decide +kernel
theorem dX11_copies_140 : decode cX11_copies 140 = .ok (.iload 4, 2) := by decide +kernel
theorem dX11_copies_142 : decode cX11_copies 142 = .ok (.iaload, 1) := by decide +kernel
theorem dX11_copies_143 : decode cX11_copies 143 = .ok (.iload_n 3, 1) := by decide +kernel
theorem dX11_copies_144 : decode cX11_copies 144 = .ok (.iadd, 1) := by decide +kernel
theorem dX11_copies_145 : decode cX11_copies 145 = .ok (.iastore, 1) := by decide +kernel
theorem dX11_copies_146 : decode cX11_copies 146 = .ok (.aload_n 0, 1) := by decide +kernel
theorem dX11_copies_147 : decode cX11_copies 147 = .ok (.getfield 115, 3) := by decide +kernel
theorem dX11_copies_150 : decode cX11_copies 150 = .ok (.iload 4, 2) := by decide +kernel
theorem dX11_copies_152 : decode cX11_copies 152 = .ok (.iload_n 3, 1) := by decide +kernel
theorem dX11_copies_153 : decode cX11_copies 153 = .ok (.iadd, 1) := by decide +kernel
theorem dX11_copies_154 : decode cX11_copies 154 = .ok (.aload_n 0, 1) := by decide +kernel
theorem dX11_copies_155 : decode cX11_copies 155 = .ok (.getfield 115, 3) := by decide +kernel
theorem dX11_copies_158 : decode cX11_copies 158 = .ok (.iload 4, 2) := by decide +kernel
theorem dX11_copies_160 : decode cX11_copies 160 = .ok (.iaload, 1) := by decide +kernel
theorem dX11_copies_161 : decode cX11_copies 161 = .ok (.iconst (-1), 1) := by decide +kernel
theorem dX11_copies_162 : decode cX11_copies 162 = .ok (.if_icmp .ne 7, 3) := by decide +kernel
theorem dX11_copies_165 : decode cX11_copies 165 = .ok (.iconst (-1), 1) := by decide +kernel
theorem dX11_copies_166 : decode cX11_copies 166 = .ok (.goto 12, 3) := by decide +kernel
theorem dX11_copies_169 : decode cX11_copies 169 = .ok (.aload_n 0, 1) := by decide +kernel
theorem dX11_copies_170 : decode cX11_copies 170 = .ok (.getfield 115, 3) := by decide +kernel
theorem dX11_copies_173 : decode cX11_copies 173 = .ok (.iload 4, 2) := by decide +kernel
theorem dX11_copies_175 : decode cX11_copies 175 = .ok (.iaload, 1) := by decide +kernel
theorem dX11_copies_176 : decode cX11_copies 176 = .ok (.iload_n 3, 1) := by decide +kernel
theorem dX11_copies_177 : decode cX11_copies 177 = .ok (.iadd, 1) := by decide +kernel
theorem dX11_copies_178 : decode cX11_copies 178 = .ok (.iastore, 1) := by decide +kernel
theorem dX11_copies_179 : decode cX11_copies 179 = .ok (.aload_n 0, 1) := by decide +kernel
theorem dX11_copies_180 : decode cX11_copies 180 = .ok (.getfield 118, 3) := by decide +kernel
theorem dX11_copies_183 : decode cX11_copies 183 = .ok (.iload 4, 2) := by decide +kernel
theorem dX11_copies_185 : decode cX11_copies 185 = .ok (.iload_n 3, 1) := by decide +kernel
theorem dX11_copies_186 : decode cX11_copies 186 = .ok (.iadd, 1) := by decide +kernel
theorem dX11_copies_187 : decode cX11_copies 187 = .ok (.aload_n 0, 1) := by decide +kernel
theorem dX11_copies_188 : decode cX11_copies 188 = .ok (.getfield 118, 3) := by decide +kernel
theorem dX11_copies_191 : decode cX11_copies 191 = .ok (.iload 4, 2) := by decide +kernel
theorem dX11_copies_193 : decode cX11_copies 193 = .ok (.iaload, 1) := by decide +kernel
theorem dX11_copies_194 : decode cX11_copies 194 = .ok (.iastore, 1) := by decide +kernel
theorem dX11_copies_195 : decode cX11_copies 195 = .ok (.aload_n 0, 1) := by decide +kernel
theorem dX11_copies_196 : decode cX11_copies 196 = .ok (.getfield 121, 3) := by decide +kernel
theorem dX11_copies_199 : decode cX11_copies 199 = .ok (.iload 4, 2) := by decide +kernel
theorem dX11_copies_201 : decode cX11_copies 201 = .ok (.iload_n 3, 1) := by decide +kernel
theorem dX11_copies_202 : decode cX11_copies 202 = .ok (.iadd, 1) := by decide +kernel
theorem dX11_copies_203 : decode cX11_copies 203 = .ok (.aload_n 0, 1) := by decide +kernel
theorem dX11_copies_204 : decode cX11_copies 204 = .ok (.getfield 121, 3) := by decide +kernel
theorem dX11_copies_207 : decode cX11_copies 207 = .ok (.iload 4, 2) := by decide +kernel
theorem dX11_copies_209 : decode cX11_copies 209 = .ok (.iaload, 1) := by decide +kernel
theorem dX11_copies_210 : decode cX11_copies 210 = .ok (.iastore, 1) := by decide +kernel
theorem dX11_copies_211 : decode cX11_copies 211 = .ok (.aload_n 0, 1) := by decide +kernel
theorem dX11_copies_212 : decode cX11_copies 212 = .ok (.getfield 124, 3) := by decide +kernel
theorem dX11_copies_215 : decode cX11_copies 215 = .ok (.iload 4, 2) := by decide +kernel
theorem dX11_copies_217 : decode cX11_copies 217 = .ok (.iload_n 3, 1) := by decide +kernel
theorem dX11_copies_218 : decode cX11_copies 218 = .ok (.iadd, 1) := by decide +kernel
theorem dX11_copies_219 : decode cX11_copies 219 = .ok (.aload_n 0, 1) := by decide +kernel
theorem dX11_copies_220 : decode cX11_copies 220 = .ok (.getfield 124, 3) := by decide +kernel
theorem dX11_copies_223 : decode cX11_copies 223 = .ok (.iload 4, 2) := by decide +kernel
theorem dX11_copies_225 : decode cX11_copies 225 = .ok (.iaload, 1) := by decide +kernel
theorem dX11_copies_226 : decode cX11_copies 226 = .ok (.iastore, 1) := by decide +kernel
theorem dX11_copies_227 : decode cX11_copies 227 = .ok (.iinc 4 1, 3) := by decide +kernel
theorem dX11_copies_230 : decode cX11_copies 230 = .ok (.goto (-150), 3) := by decide +kernel
theorem dX11_copies_233 : decode cX11_copies 233 = .ok (.return_, 1) := by decide +kernel
theorem dX11_inForce_0 : decode cX11_inForce 0 = .ok (.iconst (-1), 1) := by decide +kernel
theorem dX11_inForce_1 : decode cX11_inForce 1 = .ok (.istore_n 3, 1) := by decide +kernel
theorem dX11_inForce_2 : decode cX11_inForce 2 = .ok (.iconst 0, 1) := by decide +kernel
theorem dX11_inForce_3 : decode cX11_inForce 3 = .ok (.istore 4, 2) := by decide +kernel
theorem dX11_inForce_5 : decode cX11_inForce 5 = .ok (.iload 4, 2) := by decide +kernel
theorem dX11_inForce_7 : decode cX11_inForce 7 = .ok (.aload_n 0, 1) := by decide +kernel
theorem dX11_inForce_8 : decode cX11_inForce 8 = .ok (.getfield 380, 3) := by decide +kernel
theorem dX11_inForce_11 : decode cX11_inForce 11 = .ok (.if_icmp .ge 55, 3) := by decide +kernel
theorem dX11_inForce_14 : decode cX11_inForce 14 = .ok (.aload_n 0, 1) := by decide +kernel
theorem dX11_inForce_15 : decode cX11_inForce 15 = .ok (.getfield 75, 3) := by decide +kernel
theorem dX11_inForce_18 : decode cX11_inForce 18 = .ok (.iload 4, 2) := by decide +kernel
theorem dX11_inForce_20 : decode cX11_inForce 20 = .ok (.iaload, 1) := by decide +kernel
theorem dX11_inForce_21 : decode cX11_inForce 21 = .ok (.iload_n 2, 1) := by decide +kernel
theorem dX11_inForce_22 : decode cX11_inForce 22 = .ok (.if_icmp .gt 38, 3) := by decide +kernel
theorem dX11_inForce_25 : decode cX11_inForce 25 = .ok (.aload_n 0, 1) := by decide +kernel
theorem dX11_inForce_26 : decode cX11_inForce 26 = .ok (.getfield 72, 3) := by decide +kernel
theorem dX11_inForce_29 : decode cX11_inForce 29 = .ok (.iload 4, 2) := by decide +kernel
theorem dX11_inForce_31 : decode cX11_inForce 31 = .ok (.iaload, 1) := by decide +kernel
theorem dX11_inForce_32 : decode cX11_inForce 32 = .ok (.iload_n 1, 1) := by decide +kernel
theorem dX11_inForce_33 : decode cX11_inForce 33 = .ok (.if_icmp .gt 27, 3) := by decide +kernel
theorem dX11_inForce_36 : decode cX11_inForce 36 = .ok (.iload_n 3, 1) := by decide +kernel
theorem dX11_inForce_37 : decode cX11_inForce 37 = .ok (.iconst (-1), 1) := by decide +kernel
theorem dX11_inForce_38 : decode cX11_inForce 38 = .ok (.if_icmp .eq 19, 3) := by decide +kernel
theorem dX11_inForce_41 : decode cX11_inForce 41 = .ok (.aload_n 0, 1) := by decide +kernel
theorem dX11_inForce_42 : decode cX11_inForce 42 = .ok (.getfield 72, 3) := by decide +kernel
theorem dX11_inForce_45 : decode cX11_inForce 45 = .ok (.iload 4, 2) := by decide +kernel
theorem dX11_inForce_47 : decode cX11_inForce 47 = .ok (.iaload, 1) := by decide +kernel
theorem dX11_inForce_48 : decode cX11_inForce 48 = .ok (.aload_n 0, 1) := by decide +kernel
theorem dX11_inForce_49 : decode cX11_inForce 49 = .ok (.getfield 72, 3) := by decide +kernel
theorem dX11_inForce_52 : decode cX11_inForce 52 = .ok (.iload_n 3, 1) := by decide +kernel
theorem dX11_inForce_53 : decode cX11_inForce 53 = .ok (.iaload, 1) := by decide +kernel
theorem dX11_inForce_54 : decode cX11_inForce 54 = .ok (.if_icmp .lt 6, 3) := by decide +kernel
theorem dX11_inForce_57 : decode cX11_inForce 57 = .ok (.iload 4, 2) := by decide +kernel
theorem dX11_inForce_59 : decode cX11_inForce 59 = .ok (.istore_n 3, 1) := by decide +kernel
theorem dX11_inForce_60 : decode cX11_inForce 60 = .ok (.iinc 4 1, 3) := by decide +kernel
theorem dX11_inForce_63 : decode cX11_inForce 63 = .ok (.goto (-58), 3) := by decide +kernel
theorem dX11_inForce_66 : decode cX11_inForce 66 = .ok (.iload_n 3, 1) := by decide +kernel
theorem dX11_inForce_67 : decode cX11_inForce 67 = .ok (.ireturn, 1) := by decide +kernel
theorem dX11_rules_0 : decode cX11_rules 0 = .ok (.iload_n 1, 1) := by decide +kernel
theorem dX11_rules_1 : decode cX11_rules 1 = .ok (.iconst 0, 1) := by decide +kernel
theorem dX11_rules_2 : decode cX11_rules 2 = .ok (.aload_n 0, 1) := by decide +kernel
theorem dX11_rules_3 : decode cX11_rules 3 = .ok (.getfield 214, 3) := by decide +kernel
theorem dX11_rules_6 : decode cX11_rules 6 = .ok (.invokestatic 165, 3) := by decide +kernel
theorem dX11_rules_9 : decode cX11_rules 9 = .ok (.ifCond .eq 10, 3) := by decide +kernel
theorem dX11_rules_12 : decode cX11_rules 12 = .ok (.iload_n 2, 1) := by decide +kernel
theorem dX11_rules_13 : decode cX11_rules 13 = .ok (.invokestatic 383, 3) := by decide +kernel
theorem dX11_rules_16 : decode cX11_rules 16 = .ok (.ifCond .ne 6, 3) := by decide +kernel
theorem dX11_rules_19 : decode cX11_rules 19 = .ok (.bipush (-2), 2) := by decide +kernel
theorem dX11_rules_21 : decode cX11_rules 21 = .ok (.ireturn, 1) := by decide +kernel
theorem dX11_rules_22 : decode cX11_rules 22 = .ok (.aload_n 0, 1) := by decide +kernel
theorem dX11_rules_23 : decode cX11_rules 23 = .ok (.getfield 380, 3) := by decide +kernel
theorem dX11_rules_26 : decode cX11_rules 26 = .ok (.bipush 8, 2) := by decide +kernel
theorem dX11_rules_28 : decode cX11_rules 28 = .ok (.if_icmp .ne 6, 3) := by decide +kernel
theorem dX11_rules_31 : decode cX11_rules 31 = .ok (.bipush (-3), 2) := by decide +kernel
theorem dX11_rules_33 : decode cX11_rules 33 = .ok (.ireturn, 1) := by decide +kernel
theorem dX11_rules_34 : decode cX11_rules 34 = .ok (.aload_n 0, 1) := by decide +kernel
theorem dX11_rules_35 : decode cX11_rules 35 = .ok (.iload_n 1, 1) := by decide +kernel
theorem dX11_rules_36 : decode cX11_rules 36 = .ok (.aload_n 0, 1) := by decide +kernel
theorem dX11_rules_37 : decode cX11_rules 37 = .ok (.iload_n 2, 1) := by decide +kernel
theorem dX11_rules_38 : decode cX11_rules 38 = .ok (.aload_n 0, 1) := by decide +kernel
theorem dX11_rules_39 : decode cX11_rules 39 = .ok (.getfield 172, 3) := by decide +kernel
theorem dX11_rules_42 : decode cX11_rules 42 = .ok (.invokevirtual 386, 3) := by decide +kernel
theorem dX11_rules_45 : decode cX11_rules 45 = .ok (.invokevirtual 390, 3) := by decide +kernel
theorem dX11_rules_48 : decode cX11_rules 48 = .ok (.ifCond .ne 5, 3) := by decide +kernel
theorem dX11_rules_51 : decode cX11_rules 51 = .ok (.iconst (-1), 1) := by decide +kernel
theorem dX11_rules_52 : decode cX11_rules 52 = .ok (.ireturn, 1) := by decide +kernel
theorem dX11_rules_53 : decode cX11_rules 53 = .ok (.aload_n 0, 1) := by decide +kernel
theorem dX11_rules_54 : decode cX11_rules 54 = .ok (.bipush 13, 2) := by decide +kernel
theorem dX11_rules_56 : decode cX11_rules 56 = .ok (.aload_n 0, 1) := by decide +kernel
theorem dX11_rules_57 : decode cX11_rules 57 = .ok (.getfield 380, 3) := by decide +kernel
theorem dX11_rules_60 : decode cX11_rules 60 = .ok (.invokevirtual 361, 3) := by decide +kernel
theorem dX11_rules_63 : decode cX11_rules 63 = .ok (.aload_n 0, 1) := by decide +kernel
theorem dX11_rules_64 : decode cX11_rules 64 = .ok (.getfield 72, 3) := by decide +kernel
theorem dX11_rules_67 : decode cX11_rules 67 = .ok (.aload_n 0, 1) := by decide +kernel
theorem dX11_rules_68 : decode cX11_rules 68 = .ok (.getfield 380, 3) := by decide +kernel
theorem dX11_rules_71 : decode cX11_rules 71 = .ok (.iload_n 2, 1) := by decide +kernel
theorem dX11_rules_72 : decode cX11_rules 72 = .ok (.iastore, 1) := by decide +kernel
theorem dX11_rules_73 : decode cX11_rules 73 = .ok (.aload_n 0, 1) := by decide +kernel
theorem dX11_rules_74 : decode cX11_rules 74 = .ok (.getfield 75, 3) := by decide +kernel
theorem dX11_rules_77 : decode cX11_rules 77 = .ok (.aload_n 0, 1) := by decide +kernel
theorem dX11_rules_78 : decode cX11_rules 78 = .ok (.getfield 380, 3) := by decide +kernel
theorem dX11_rules_81 : decode cX11_rules 81 = .ok (.aload_n 0, 1) := by decide +kernel
theorem dX11_rules_82 : decode cX11_rules 82 = .ok (.getfield 172, 3) := by decide +kernel
theorem dX11_rules_85 : decode cX11_rules 85 = .ok (.iastore, 1) := by decide +kernel
theorem dX11_rules_86 : decode cX11_rules 86 = .ok (.aload_n 0, 1) := by decide +kernel
theorem dX11_rules_87 : decode cX11_rules 87 = .ok (.dup, 1) := by decide +kernel
theorem dX11_rules_88 : decode cX11_rules 88 = .ok (.getfield 380, 3) := by decide +kernel
theorem dX11_rules_91 : decode cX11_rules 91 = .ok (.iconst 1, 1) := by decide +kernel
theorem dX11_rules_92 : decode cX11_rules 92 = .ok (.iadd, 1) := by decide +kernel
theorem dX11_rules_93 : decode cX11_rules 93 = .ok (.putfield 380, 3) := by decide +kernel
theorem dX11_rules_96 : decode cX11_rules 96 = .ok (.aload_n 0, 1) := by decide +kernel
theorem dX11_rules_97 : decode cX11_rules 97 = .ok (.getfield 380, 3) := by decide +kernel
theorem dX11_rules_100 : decode cX11_rules 100 = .ok (.iconst 1, 1) := by decide +kernel
theorem dX11_rules_101 : decode cX11_rules 101 = .ok (.isub, 1) := by decide +kernel
theorem dX11_rules_102 : decode cX11_rules 102 = .ok (.ireturn, 1) := by decide +kernel
theorem dX11_beside_0 : decode cX11_beside 0 = .ok (.iload_n 1, 1) := by decide +kernel
theorem dX11_beside_1 : decode cX11_beside 1 = .ok (.iconst 0, 1) := by decide +kernel
theorem dX11_beside_2 : decode cX11_beside 2 = .ok (.aload_n 0, 1) := by decide +kernel
theorem dX11_beside_3 : decode cX11_beside 3 = .ok (.getfield 214, 3) := by decide +kernel
theorem dX11_beside_6 : decode cX11_beside 6 = .ok (.invokestatic 165, 3) := by decide +kernel
theorem dX11_beside_9 : decode cX11_beside 9 = .ok (.ifCond .ne 6, 3) := by decide +kernel
theorem dX11_beside_12 : decode cX11_beside 12 = .ok (.bipush (-2), 2) := by decide +kernel
theorem dX11_beside_14 : decode cX11_beside 14 = .ok (.ireturn, 1) := by decide +kernel
theorem dX11_beside_15 : decode cX11_beside 15 = .ok (.aload_n 0, 1) := by decide +kernel
theorem dX11_beside_16 : decode cX11_beside 16 = .ok (.aload_n 0, 1) := by decide +kernel
theorem dX11_beside_17 : decode cX11_beside 17 = .ok (.iload_n 1, 1) := by decide +kernel
theorem dX11_beside_18 : decode cX11_beside 18 = .ok (.aload_n 0, 1) := by decide +kernel
theorem dX11_beside_19 : decode cX11_beside 19 = .ok (.aload_n 0, 1) := by decide +kernel
theorem dX11_beside_20 : decode cX11_beside 20 = .ok (.getfield 172, 3) := by decide +kernel
theorem dX11_beside_23 : decode cX11_beside 23 = .ok (.bipush 100, 2) := by decide +kernel
theorem dX11_beside_25 : decode cX11_beside 25 = .ok (.idiv, 1) := by decide +kernel
theorem dX11_beside_26 : decode cX11_beside 26 = .ok (.iconst 5, 1) := by decide +kernel
theorem dX11_beside_27 : decode cX11_beside 27 = .ok (.idiv, 1) := by decide +kernel
theorem dX11_beside_28 : decode cX11_beside 28 = .ok (.aload_n 0, 1) := by decide +kernel
theorem dX11_beside_29 : decode cX11_beside 29 = .ok (.getfield 172, 3) := by decide +kernel
theorem dX11_beside_32 : decode cX11_beside 32 = .ok (.invokevirtual 386, 3) := by decide +kernel
theorem dX11_beside_35 : decode cX11_beside 35 = .ok (.invokevirtual 390, 3) := by decide +kernel
theorem dX11_beside_38 : decode cX11_beside 38 = .ok (.putfield 393, 3) := by decide +kernel
theorem dX11_beside_41 : decode cX11_beside 41 = .ok (.aload_n 0, 1) := by decide +kernel
theorem dX11_beside_42 : decode cX11_beside 42 = .ok (.getfield 393, 3) := by decide +kernel
theorem dX11_beside_45 : decode cX11_beside 45 = .ok (.ifCond .ne 5, 3) := by decide +kernel
theorem dX11_beside_48 : decode cX11_beside 48 = .ok (.iconst (-1), 1) := by decide +kernel
theorem dX11_beside_49 : decode cX11_beside 49 = .ok (.ireturn, 1) := by decide +kernel
theorem dX11_beside_50 : decode cX11_beside 50 = .ok (.aload_n 0, 1) := by decide +kernel
theorem dX11_beside_51 : decode cX11_beside 51 = .ok (.bipush 13, 2) := by decide +kernel
theorem dX11_beside_53 : decode cX11_beside 53 = .ok (.bipush 8, 2) := by decide +kernel
theorem dX11_beside_55 : decode cX11_beside 55 = .ok (.invokevirtual 361, 3) := by decide +kernel
theorem dX11_beside_58 : decode cX11_beside 58 = .ok (.iconst 0, 1) := by decide +kernel
theorem dX11_beside_59 : decode cX11_beside 59 = .ok (.ireturn, 1) := by decide +kernel
theorem dX11_fault_0 : decode cX11_fault 0 = .ok (.aload_n 0, 1) := by decide +kernel
theorem dX11_fault_1 : decode cX11_fault 1 = .ok (.getfield 65, 3) := by decide +kernel
theorem dX11_fault_4 : decode cX11_fault 4 = .ok (.ireturn, 1) := by decide +kernel
theorem dX11_setOf_0 : decode cX11_setOf 0 = .ok (.iload_n 1, 1) := by decide +kernel
theorem dX11_setOf_1 : decode cX11_setOf 1 = .ok (.aload_n 0, 1) := by decide +kernel
theorem dX11_setOf_2 : decode cX11_setOf 2 = .ok (.getfield 138, 3) := by decide +kernel
theorem dX11_setOf_5 : decode cX11_setOf 5 = .ok (.if_icmp .ne 10, 3) := by decide +kernel
theorem dX11_setOf_8 : decode cX11_setOf 8 = .ok (.aload_n 0, 1) := by decide +kernel
theorem dX11_setOf_9 : decode cX11_setOf 9 = .ok (.getfield 397, 3) := by decide +kernel
theorem dX11_setOf_12 : decode cX11_setOf 12 = .ok (.goto 13, 3) := by decide +kernel
theorem dX11_setOf_15 : decode cX11_setOf 15 = .ok (.aload_n 0, 1) := by decide +kernel
theorem dX11_setOf_16 : decode cX11_setOf 16 = .ok (.iload_n 1, 1) := by decide +kernel
theorem dX11_setOf_17 : decode cX11_setOf 17 = .ok (.sipush 500, 3) := by decide +kernel
theorem dX11_setOf_20 : decode cX11_setOf 20 = .ok (.iload_n 1, 1) := by decide +kernel
theorem dX11_setOf_21 : decode cX11_setOf 21 = .ok (.imul, 1) := by decide +kernel
theorem dX11_setOf_22 : decode cX11_setOf 22 = .ok (.invokevirtual 386, 3) := by decide +kernel
theorem dX11_setOf_25 : decode cX11_setOf 25 = .ok (.ireturn, 1) := by decide +kernel
theorem dX11_isAlike_0 : decode cX11_isAlike 0 = .ok (.aload_n 0, 1) := by decide +kernel
theorem dX11_isAlike_1 : decode cX11_isAlike 1 = .ok (.getfield 81, 3) := by decide +kernel
theorem dX11_isAlike_4 : decode cX11_isAlike 4 = .ok (.iload_n 1, 1) := by decide +kernel
theorem dX11_isAlike_5 : decode cX11_isAlike 5 = .ok (.iaload, 1) := by decide +kernel
theorem dX11_isAlike_6 : decode cX11_isAlike 6 = .ok (.aload_n 0, 1) := by decide +kernel
theorem dX11_isAlike_7 : decode cX11_isAlike 7 = .ok (.getfield 81, 3) := by decide +kernel
theorem dX11_isAlike_10 : decode cX11_isAlike 10 = .ok (.iload_n 2, 1) := by decide +kernel
theorem dX11_isAlike_11 : decode cX11_isAlike 11 = .ok (.iaload, 1) := by decide +kernel
theorem dX11_isAlike_12 : decode cX11_isAlike 12 = .ok (.if_icmp .ne 22, 3) := by decide +kernel
theorem dX11_isAlike_15 : decode cX11_isAlike 15 = .ok (.aload_n 0, 1) := by decide +kernel
theorem dX11_isAlike_16 : decode cX11_isAlike 16 = .ok (.getfield 84, 3) := by decide +kernel
theorem dX11_isAlike_19 : decode cX11_isAlike 19 = .ok (.iload_n 1, 1) := by decide +kernel
theorem dX11_isAlike_20 : decode cX11_isAlike 20 = .ok (.iaload, 1) := by decide +kernel
theorem dX11_isAlike_21 : decode cX11_isAlike 21 = .ok (.aload_n 0, 1) := by decide +kernel
theorem dX11_isAlike_22 : decode cX11_isAlike 22 = .ok (.getfield 84, 3) := by decide +kernel
theorem dX11_isAlike_25 : decode cX11_isAlike 25 = .ok (.iload_n 2, 1) := by decide +kernel
theorem dX11_isAlike_26 : decode cX11_isAlike 26 = .ok (.iaload, 1) := by decide +kernel
theorem dX11_isAlike_27 : decode cX11_isAlike 27 = .ok (.if_icmp .ne 7, 3) := by decide +kernel
theorem dX11_isAlike_30 : decode cX11_isAlike 30 = .ok (.iconst 1, 1) := by decide +kernel
theorem dX11_isAlike_31 : decode cX11_isAlike 31 = .ok (.goto 4, 3) := by decide +kernel
theorem dX11_isAlike_34 : decode cX11_isAlike 34 = .ok (.iconst 0, 1) := by decide +kernel
theorem dX11_isAlike_35 : decode cX11_isAlike 35 = .ok (.ireturn, 1) := by decide +kernel
theorem dX11_review_0 : decode cX11_review 0 = .ok (.iload_n 1, 1) := by decide +kernel
theorem dX11_review_1 : decode cX11_review 1 = .ok (.invokestatic 383, 3) := by decide +kernel
theorem dX11_review_4 : decode cX11_review 4 = .ok (.ifCond .eq 12, 3) := by decide +kernel
theorem dX11_review_7 : decode cX11_review 7 = .ok (.iload_n 2, 1) := by decide +kernel
theorem dX11_review_8 : decode cX11_review 8 = .ok (.iconst 0, 1) := by decide +kernel
theorem dX11_review_9 : decode cX11_review 9 = .ok (.iconst 3, 1) := by decide +kernel
theorem dX11_review_10 : decode cX11_review 10 = .ok (.invokestatic 165, 3) := by decide +kernel
theorem dX11_review_13 : decode cX11_review 13 = .ok (.ifCond .ne 5, 3) := by decide +kernel
theorem dX11_review_16 : decode cX11_review 16 = .ok (.iconst (-1), 1) := by decide +kernel
theorem dX11_review_17 : decode cX11_review 17 = .ok (.ireturn, 1) := by decide +kernel
theorem dX11_review_18 : decode cX11_review 18 = .ok (.aload_n 0, 1) := by decide +kernel
theorem dX11_review_19 : decode cX11_review 19 = .ok (.iload_n 1, 1) := by decide +kernel
theorem dX11_review_20 : decode cX11_review 20 = .ok (.invokevirtual 400, 3) := by decide +kernel
theorem dX11_review_23 : decode cX11_review 23 = .ok (.istore_n 3, 1) := by decide +kernel
theorem dX11_review_24 : decode cX11_review 24 = .ok (.iload_n 3, 1) := by decide +kernel
theorem dX11_review_25 : decode cX11_review 25 = .ok (.iconst (-1), 1) := by decide +kernel
theorem dX11_review_26 : decode cX11_review 26 = .ok (.if_icmp .ne 5, 3) := by decide +kernel
theorem dX11_review_29 : decode cX11_review 29 = .ok (.iconst (-1), 1) := by decide +kernel
theorem dX11_review_30 : decode cX11_review 30 = .ok (.ireturn, 1) := by decide +kernel
theorem dX11_review_31 : decode cX11_review 31 = .ok (.iload_n 2, 1) := by decide +kernel
theorem dX11_review_32 : decode cX11_review 32 = .ok (.ifCond .ne 5, 3) := by decide +kernel
theorem dX11_review_35 : decode cX11_review 35 = .ok (.iload_n 3, 1) := by decide +kernel
theorem dX11_review_36 : decode cX11_review 36 = .ok (.ireturn, 1) := by decide +kernel
theorem dX11_review_37 : decode cX11_review 37 = .ok (.iload_n 2, 1) := by decide +kernel
theorem dX11_review_38 : decode cX11_review 38 = .ok (.iconst 1, 1) := by decide +kernel
theorem dX11_review_39 : decode cX11_review 39 = .ok (.if_icmp .ne 10, 3) := by decide +kernel
theorem dX11_review_42 : decode cX11_review 42 = .ok (.aload_n 0, 1) := by decide +kernel
theorem dX11_review_43 : decode cX11_review 43 = .ok (.getfield 69, 3) := by decide +kernel
theorem dX11_review_46 : decode cX11_review 46 = .ok (.iload_n 3, 1) := by decide +kernel
theorem dX11_review_47 : decode cX11_review 47 = .ok (.iaload, 1) := by decide +kernel
theorem dX11_review_48 : decode cX11_review 48 = .ok (.ireturn, 1) := by decide +kernel
theorem dX11_review_49 : decode cX11_review 49 = .ok (.iconst 0, 1) := by decide +kernel
theorem dX11_review_50 : decode cX11_review 50 = .ok (.istore 4, 2) := by decide +kernel
theorem dX11_review_52 : decode cX11_review 52 = .ok (.iload 4, 2) := by decide +kernel
theorem dX11_review_54 : decode cX11_review 54 = .ok (.aload_n 0, 1) := by decide +kernel
theorem dX11_review_55 : decode cX11_review 55 = .ok (.getfield 69, 3) := by decide +kernel
theorem dX11_review_58 : decode cX11_review 58 = .ok (.iload_n 3, 1) := by decide +kernel
theorem dX11_review_59 : decode cX11_review 59 = .ok (.iaload, 1) := by decide +kernel
theorem dX11_review_60 : decode cX11_review 60 = .ok (.if_icmp .ge 98, 3) := by decide +kernel
theorem dX11_review_63 : decode cX11_review 63 = .ok (.iload 4, 2) := by decide +kernel
theorem dX11_review_65 : decode cX11_review 65 = .ok (.iconst 1, 1) := by decide +kernel
theorem dX11_review_66 : decode cX11_review 66 = .ok (.iadd, 1) := by decide +kernel
theorem dX11_review_67 : decode cX11_review 67 = .ok (.istore 5, 2) := by decide +kernel
theorem dX11_review_69 : decode cX11_review 69 = .ok (.iload 5, 2) := by decide +kernel
theorem dX11_review_71 : decode cX11_review 71 = .ok (.aload_n 0, 1) := by decide +kernel
theorem dX11_review_72 : decode cX11_review 72 = .ok (.getfield 69, 3) := by decide +kernel
theorem dX11_review_75 : decode cX11_review 75 = .ok (.iload_n 3, 1) := by decide +kernel
theorem dX11_review_76 : decode cX11_review 76 = .ok (.iaload, 1) := by decide +kernel
theorem dX11_review_77 : decode cX11_review 77 = .ok (.if_icmp .ge 75, 3) := by decide +kernel
theorem dX11_review_80 : decode cX11_review 80 = .ok (.sipush 300, 3) := by decide +kernel
theorem dX11_review_83 : decode cX11_review 83 = .ok (.iload_n 3, 1) := by decide +kernel
theorem dX11_review_84 : decode cX11_review 84 = .ok (.imul, 1) := by decide +kernel
theorem dX11_review_85 : decode cX11_review 85 = .ok (.iload 4, 2) := by decide +kernel
theorem dX11_review_87 : decode cX11_review 87 = .ok (.iadd, 1) := by decide +kernel
theorem dX11_review_88 : decode cX11_review 88 = .ok (.istore 6, 2) := by decide +kernel
theorem dX11_review_90 : decode cX11_review 90 = .ok (.sipush 300, 3) := by decide +kernel
theorem dX11_review_93 : decode cX11_review 93 = .ok (.iload_n 3, 1) := by decide +kernel
theorem dX11_review_94 : decode cX11_review 94 = .ok (.imul, 1) := by decide +kernel
theorem dX11_review_95 : decode cX11_review 95 = .ok (.iload 5, 2) := by decide +kernel
theorem dX11_review_97 : decode cX11_review 97 = .ok (.iadd, 1) := by decide +kernel
theorem dX11_review_98 : decode cX11_review 98 = .ok (.istore 7, 2) := by decide +kernel
theorem dX11_review_100 : decode cX11_review 100 = .ok (.aload_n 0, 1) := by decide +kernel
theorem dX11_review_101 : decode cX11_review 101 = .ok (.getfield 105, 3) := by decide +kernel
theorem dX11_review_104 : decode cX11_review 104 = .ok (.iload 6, 2) := by decide +kernel
theorem dX11_review_106 : decode cX11_review 106 = .ok (.iaload, 1) := by decide +kernel
theorem dX11_review_107 : decode cX11_review 107 = .ok (.iconst (-1), 1) := by decide +kernel
theorem dX11_review_108 : decode cX11_review 108 = .ok (.if_icmp .ne 38, 3) := by decide +kernel
theorem dX11_review_111 : decode cX11_review 111 = .ok (.aload_n 0, 1) := by decide +kernel
theorem dX11_review_112 : decode cX11_review 112 = .ok (.getfield 105, 3) := by decide +kernel
theorem dX11_review_115 : decode cX11_review 115 = .ok (.iload 7, 2) := by decide +kernel
theorem dX11_review_117 : decode cX11_review 117 = .ok (.iaload, 1) := by decide +kernel
theorem dX11_review_118 : decode cX11_review 118 = .ok (.iconst (-1), 1) := by decide +kernel
theorem dX11_review_119 : decode cX11_review 119 = .ok (.if_icmp .ne 27, 3) := by decide +kernel
theorem dX11_review_122 : decode cX11_review 122 = .ok (.aload_n 0, 1) := by decide +kernel
theorem dX11_review_123 : decode cX11_review 123 = .ok (.iload 6, 2) := by decide +kernel
theorem dX11_review_125 : decode cX11_review 125 = .ok (.iload 7, 2) := by decide +kernel
theorem dX11_review_127 : decode cX11_review 127 = .ok (.invokevirtual 403, 3) := by decide +kernel
theorem dX11_review_130 : decode cX11_review 130 = .ok (.ifCond .eq 16, 3) := by decide +kernel
theorem dX11_review_133 : decode cX11_review 133 = .ok (.iload_n 2, 1) := by decide +kernel
theorem dX11_review_134 : decode cX11_review 134 = .ok (.iconst 2, 1) := by decide +kernel
theorem dX11_review_135 : decode cX11_review 135 = .ok (.if_icmp .ne 8, 3) := by decide +kernel
theorem dX11_review_138 : decode cX11_review 138 = .ok (.iload 4, 2) := by decide +kernel
theorem dX11_review_140 : decode cX11_review 140 = .ok (.goto 5, 3) := by decide +kernel
theorem dX11_review_143 : decode cX11_review 143 = .ok (.iload 5, 2) := by decide +kernel
theorem dX11_review_145 : decode cX11_review 145 = .ok (.ireturn, 1) := by decide +kernel
theorem dX11_review_146 : decode cX11_review 146 = .ok (.iinc 5 1, 3) := by decide +kernel
theorem dX11_review_149 : decode cX11_review 149 = .ok (.goto (-80), 3) := by decide +kernel
theorem dX11_review_152 : decode cX11_review 152 = .ok (.iinc 4 1, 3) := by decide +kernel
theorem dX11_review_155 : decode cX11_review 155 = .ok (.goto (-103), 3) := by decide +kernel
theorem dX11_review_158 : decode cX11_review 158 = .ok (.iconst (-1), 1) := by decide +kernel
theorem dX11_review_159 : decode cX11_review 159 = .ok (.ireturn, 1) := by decide +kernel
theorem dX11_asks_0 : decode cX11_asks 0 = .ok (.aload_n 0, 1) := by decide +kernel
theorem dX11_asks_1 : decode cX11_asks 1 = .ok (.getfield 150, 3) := by decide +kernel
theorem dX11_asks_4 : decode cX11_asks 4 = .ok (.iconst 0, 1) := by decide +kernel
theorem dX11_asks_5 : decode cX11_asks 5 = .ok (.iload_n 2, 1) := by decide +kernel
theorem dX11_asks_6 : decode cX11_asks 6 = .ok (.i2l, 1) := by decide +kernel
theorem dX11_asks_7 : decode cX11_asks 7 = .ok (.lastore, 1) := by decide +kernel
theorem dX11_asks_8 : decode cX11_asks 8 = .ok (.aload_n 0, 1) := by decide +kernel
theorem dX11_asks_9 : decode cX11_asks 9 = .ok (.getfield 150, 3) := by decide +kernel
theorem dX11_asks_12 : decode cX11_asks 12 = .ok (.iconst 1, 1) := by decide +kernel
theorem dX11_asks_13 : decode cX11_asks 13 = .ok (.iload_n 1, 1) := by decide +kernel
theorem dX11_asks_14 : decode cX11_asks 14 = .ok (.i2l, 1) := by decide +kernel
theorem dX11_asks_15 : decode cX11_asks 15 = .ok (.lastore, 1) := by decide +kernel
theorem dX11_asks_16 : decode cX11_asks 16 = .ok (.aload_n 0, 1) := by decide +kernel
theorem dX11_asks_17 : decode cX11_asks 17 = .ok (.getfield 150, 3) := by decide +kernel
theorem dX11_asks_20 : decode cX11_asks 20 = .ok (.iconst 2, 1) := by decide +kernel
theorem dX11_asks_21 : decode cX11_asks 21 = .ok (.aload_n 0, 1) := by decide +kernel
theorem dX11_asks_22 : decode cX11_asks 22 = .ok (.getfield 144, 3) := by decide +kernel
theorem dX11_asks_25 : decode cX11_asks 25 = .ok (.iload_n 2, 1) := by decide +kernel
theorem dX11_asks_26 : decode cX11_asks 26 = .ok (.iaload, 1) := by decide +kernel
theorem dX11_asks_27 : decode cX11_asks 27 = .ok (.i2l, 1) := by decide +kernel
theorem dX11_asks_28 : decode cX11_asks 28 = .ok (.lastore, 1) := by decide +kernel
theorem dX11_asks_29 : decode cX11_asks 29 = .ok (.aload_n 0, 1) := by decide +kernel
theorem dX11_asks_30 : decode cX11_asks 30 = .ok (.getfield 150, 3) := by decide +kernel
theorem dX11_asks_33 : decode cX11_asks 33 = .ok (.iconst 3, 1) := by decide +kernel
theorem dX11_asks_34 : decode cX11_asks 34 = .ok (.aload_n 0, 1) := by decide +kernel
theorem dX11_asks_35 : decode cX11_asks 35 = .ok (.getfield 141, 3) := by decide +kernel
theorem dX11_asks_38 : decode cX11_asks 38 = .ok (.iload_n 2, 1) := by decide +kernel
theorem dX11_asks_39 : decode cX11_asks 39 = .ok (.laload, 1) := by decide +kernel
theorem dX11_asks_40 : decode cX11_asks 40 = .ok (.lastore, 1) := by decide +kernel
theorem dX11_asks_41 : decode cX11_asks 41 = .ok (.aload_n 0, 1) := by decide +kernel
theorem dX11_asks_42 : decode cX11_asks 42 = .ok (.getfield 150, 3) := by decide +kernel
theorem dX11_asks_45 : decode cX11_asks 45 = .ok (.iconst 4, 1) := by decide +kernel
theorem dX11_asks_46 : decode cX11_asks 46 = .ok (.aload_n 0, 1) := by decide +kernel
theorem dX11_asks_47 : decode cX11_asks 47 = .ok (.getfield 147, 3) := by decide +kernel
theorem dX11_asks_50 : decode cX11_asks 50 = .ok (.iload_n 2, 1) := by decide +kernel
theorem dX11_asks_51 : decode cX11_asks 51 = .ok (.iaload, 1) := by decide +kernel
theorem dX11_asks_52 : decode cX11_asks 52 = .ok (.i2l, 1) := by decide +kernel
theorem dX11_asks_53 : decode cX11_asks 53 = .ok (.lastore, 1) := by decide +kernel
theorem dX11_asks_54 : decode cX11_asks 54 = .ok (.return_, 1) := by decide +kernel
theorem dX11_homesBy_0 : decode cX11_homesBy 0 = .ok (.sipush 500, 3) := by decide +kernel
theorem dX11_homesBy_3 : decode cX11_homesBy 3 = .ok (.iload_n 2, 1) := by decide +kernel
theorem dX11_homesBy_4 : decode cX11_homesBy 4 = .ok (.iconst 5, 1) := by decide +kernel
theorem dX11_homesBy_5 : decode cX11_homesBy 5 = .ok (.idiv, 1) := by decide +kernel
theorem dX11_homesBy_6 : decode cX11_homesBy 6 = .ok (.imul, 1) := by decide +kernel
theorem dX11_homesBy_7 : decode cX11_homesBy 7 = .ok (.istore_n 3, 1) := by decide +kernel
theorem dX11_homesBy_8 : decode cX11_homesBy 8 = .ok (.iload_n 2, 1) := by decide +kernel
theorem dX11_homesBy_9 : decode cX11_homesBy 9 = .ok (.istore 4, 2) := by decide +kernel
theorem dX11_homesBy_11 : decode cX11_homesBy 11 = .ok (.iload 4, 2) := by decide +kernel
theorem dX11_homesBy_13 : decode cX11_homesBy 13 = .ok (.ifCond .lt 81, 3) := by decide +kernel
theorem dX11_homesBy_16 : decode cX11_homesBy 16 = .ok (.iconst 0, 1) := by decide +kernel
theorem dX11_homesBy_17 : decode cX11_homesBy 17 = .ok (.istore 5, 2) := by decide +kernel
theorem dX11_homesBy_19 : decode cX11_homesBy 19 = .ok (.iconst 0, 1) := by decide +kernel
theorem dX11_homesBy_20 : decode cX11_homesBy 20 = .ok (.istore 6, 2) := by decide +kernel
theorem dX11_homesBy_22 : decode cX11_homesBy 22 = .ok (.bipush 11, 2) := by decide +kernel
theorem dX11_homesBy_24 : decode cX11_homesBy 24 = .ok (.istore 7, 2) := by decide +kernel
theorem dX11_homesBy_26 : decode cX11_homesBy 26 = .ok (.iload 7, 2) := by decide +kernel
theorem dX11_homesBy_28 : decode cX11_homesBy 28 = .ok (.bipush 14, 2) := by decide +kernel
theorem dX11_homesBy_30 : decode cX11_homesBy 30 = .ok (.if_icmp .ge 50, 3) := by decide +kernel
theorem dX11_homesBy_33 : decode cX11_homesBy 33 = .ok (.aload_n 0, 1) := by decide +kernel
theorem dX11_homesBy_34 : decode cX11_homesBy 34 = .ok (.iload_n 1, 1) := by decide +kernel
theorem dX11_homesBy_35 : decode cX11_homesBy 35 = .ok (.iload 4, 2) := by decide +kernel
theorem dX11_homesBy_37 : decode cX11_homesBy 37 = .ok (.iload 7, 2) := by decide +kernel
theorem dX11_homesBy_39 : decode cX11_homesBy 39 = .ok (.iload_n 3, 1) := by decide +kernel
theorem dX11_homesBy_40 : decode cX11_homesBy 40 = .ok (.invokevirtual 198, 3) := by decide +kernel
theorem dX11_homesBy_43 : decode cX11_homesBy 43 = .ok (.istore 8, 2) := by decide +kernel
theorem dX11_homesBy_45 : decode cX11_homesBy 45 = .ok (.iload 6, 2) := by decide +kernel
theorem dX11_homesBy_47 : decode cX11_homesBy 47 = .ok (.ifCond .ne 9, 3) := by decide +kernel
theorem dX11_homesBy_50 : decode cX11_homesBy 50 = .ok (.iload 8, 2) := by decide +kernel
theorem dX11_homesBy_52 : decode cX11_homesBy 52 = .ok (.iconst (-1), 1) := by decide +kernel
theorem dX11_homesBy_53 : decode cX11_homesBy 53 = .ok (.if_icmp .eq 7, 3) := by decide +kernel
theorem dX11_homesBy_56 : decode cX11_homesBy 56 = .ok (.iconst 1, 1) := by decide +kernel
theorem dX11_homesBy_57 : decode cX11_homesBy 57 = .ok (.goto 4, 3) := by decide +kernel
theorem dX11_homesBy_60 : decode cX11_homesBy 60 = .ok (.iconst 0, 1) := by decide +kernel
theorem dX11_homesBy_61 : decode cX11_homesBy 61 = .ok (.istore 6, 2) := by decide +kernel
theorem dX11_homesBy_63 : decode cX11_homesBy 63 = .ok (.iload 5, 2) := by decide +kernel
theorem dX11_homesBy_65 : decode cX11_homesBy 65 = .ok (.iconst 0, 1) := by decide +kernel
theorem dX11_homesBy_66 : decode cX11_homesBy 66 = .ok (.iload 8, 2) := by decide +kernel
theorem dX11_homesBy_68 : decode cX11_homesBy 68 = .ok (.invokestatic 406, 3) := by decide +kernel
theorem dX11_homesBy_71 : decode cX11_homesBy 71 = .ok (.iadd, 1) := by decide +kernel
theorem dX11_homesBy_72 : decode cX11_homesBy 72 = .ok (.istore 5, 2) := by decide +kernel
theorem dX11_homesBy_74 : decode cX11_homesBy 74 = .ok (.iinc 7 1, 3) := by decide +kernel
theorem dX11_homesBy_77 : decode cX11_homesBy 77 = .ok (.goto (-51), 3) := by decide +kernel
theorem dX11_homesBy_80 : decode cX11_homesBy 80 = .ok (.iload 6, 2) := by decide +kernel
theorem dX11_homesBy_82 : decode cX11_homesBy 82 = .ok (.ifCond .eq 6, 3) := by decide +kernel
theorem dX11_homesBy_85 : decode cX11_homesBy 85 = .ok (.iload 5, 2) := by decide +kernel
theorem dX11_homesBy_87 : decode cX11_homesBy 87 = .ok (.ireturn, 1) := by decide +kernel
theorem dX11_homesBy_88 : decode cX11_homesBy 88 = .ok (.iinc 4 (-1), 3) := by decide +kernel
theorem dX11_homesBy_91 : decode cX11_homesBy 91 = .ok (.goto (-80), 3) := by decide +kernel
theorem dX11_homesBy_94 : decode cX11_homesBy 94 = .ok (.iconst 0, 1) := by decide +kernel
theorem dX11_homesBy_95 : decode cX11_homesBy 95 = .ok (.ireturn, 1) := by decide +kernel
theorem dX11_holds_0 : decode cX11_holds 0 = .ok (.aload_n 0, 1) := by decide +kernel
theorem dX11_holds_1 : decode cX11_holds 1 = .ok (.getfield 109, 3) := by decide +kernel
theorem dX11_holds_4 : decode cX11_holds 4 = .ok (.iload_n 1, 1) := by decide +kernel
theorem dX11_holds_5 : decode cX11_holds 5 = .ok (.iaload, 1) := by decide +kernel
theorem dX11_holds_6 : decode cX11_holds 6 = .ok (.tableswitch 113 0 2 #[26, 60, 94], 26) := by decide +kernel
theorem dX11_holds_32 : decode cX11_holds 32 = .ok (.aload_n 0, 1) := by decide +kernel
theorem dX11_holds_33 : decode cX11_holds 33 = .ok (.getfield 112, 3) := by decide +kernel
theorem dX11_holds_36 : decode cX11_holds 36 = .ok (.iload_n 1, 1) := by decide +kernel
theorem dX11_holds_37 : decode cX11_holds 37 = .ok (.iaload, 1) := by decide +kernel
theorem dX11_holds_38 : decode cX11_holds 38 = .ok (.istore_n 2, 1) := by decide +kernel
theorem dX11_holds_39 : decode cX11_holds 39 = .ok (.iload_n 2, 1) := by decide +kernel
theorem dX11_holds_40 : decode cX11_holds 40 = .ok (.iconst (-1), 1) := by decide +kernel
theorem dX11_holds_41 : decode cX11_holds 41 = .ok (.if_icmp .eq 23, 3) := by decide +kernel
theorem dX11_holds_44 : decode cX11_holds 44 = .ok (.aload_n 0, 1) := by decide +kernel
theorem dX11_holds_45 : decode cX11_holds 45 = .ok (.iload_n 2, 1) := by decide +kernel
theorem dX11_holds_46 : decode cX11_holds 46 = .ok (.invokevirtual 411, 3) := by decide +kernel
theorem dX11_holds_49 : decode cX11_holds 49 = .ok (.ifCond .eq 5, 3) := by decide +kernel
theorem dX11_holds_52 : decode cX11_holds 52 = .ok (.iconst 1, 1) := by decide +kernel
theorem dX11_holds_53 : decode cX11_holds 53 = .ok (.ireturn, 1) := by decide +kernel
theorem dX11_holds_54 : decode cX11_holds 54 = .ok (.aload_n 0, 1) := by decide +kernel
theorem dX11_holds_55 : decode cX11_holds 55 = .ok (.getfield 115, 3) := by decide +kernel
theorem dX11_holds_58 : decode cX11_holds 58 = .ok (.iload_n 2, 1) := by decide +kernel
theorem dX11_holds_59 : decode cX11_holds 59 = .ok (.iaload, 1) := by decide +kernel
theorem dX11_holds_60 : decode cX11_holds 60 = .ok (.istore_n 2, 1) := by decide +kernel
theorem dX11_holds_61 : decode cX11_holds 61 = .ok (.goto (-22), 3) := by decide +kernel
theorem dX11_holds_64 : decode cX11_holds 64 = .ok (.iconst 0, 1) := by decide +kernel
theorem dX11_holds_65 : decode cX11_holds 65 = .ok (.ireturn, 1) := by decide +kernel
theorem dX11_holds_66 : decode cX11_holds 66 = .ok (.aload_n 0, 1) := by decide +kernel
theorem dX11_holds_67 : decode cX11_holds 67 = .ok (.getfield 112, 3) := by decide +kernel
theorem dX11_holds_70 : decode cX11_holds 70 = .ok (.iload_n 1, 1) := by decide +kernel
theorem dX11_holds_71 : decode cX11_holds 71 = .ok (.iaload, 1) := by decide +kernel
theorem dX11_holds_72 : decode cX11_holds 72 = .ok (.istore_n 2, 1) := by decide +kernel
theorem dX11_holds_73 : decode cX11_holds 73 = .ok (.iload_n 2, 1) := by decide +kernel
theorem dX11_holds_74 : decode cX11_holds 74 = .ok (.iconst (-1), 1) := by decide +kernel
theorem dX11_holds_75 : decode cX11_holds 75 = .ok (.if_icmp .eq 23, 3) := by decide +kernel
theorem dX11_holds_78 : decode cX11_holds 78 = .ok (.aload_n 0, 1) := by decide +kernel
theorem dX11_holds_79 : decode cX11_holds 79 = .ok (.iload_n 2, 1) := by decide +kernel
theorem dX11_holds_80 : decode cX11_holds 80 = .ok (.invokevirtual 411, 3) := by decide +kernel
theorem dX11_holds_83 : decode cX11_holds 83 = .ok (.ifCond .ne 5, 3) := by decide +kernel
theorem dX11_holds_86 : decode cX11_holds 86 = .ok (.iconst 0, 1) := by decide +kernel
theorem dX11_holds_87 : decode cX11_holds 87 = .ok (.ireturn, 1) := by decide +kernel
theorem dX11_holds_88 : decode cX11_holds 88 = .ok (.aload_n 0, 1) := by decide +kernel
theorem dX11_holds_89 : decode cX11_holds 89 = .ok (.getfield 115, 3) := by decide +kernel
theorem dX11_holds_92 : decode cX11_holds 92 = .ok (.iload_n 2, 1) := by decide +kernel
theorem dX11_holds_93 : decode cX11_holds 93 = .ok (.iaload, 1) := by decide +kernel
theorem dX11_holds_94 : decode cX11_holds 94 = .ok (.istore_n 2, 1) := by decide +kernel
theorem dX11_holds_95 : decode cX11_holds 95 = .ok (.goto (-22), 3) := by decide +kernel
theorem dX11_holds_98 : decode cX11_holds 98 = .ok (.iconst 1, 1) := by decide +kernel
theorem dX11_holds_99 : decode cX11_holds 99 = .ok (.ireturn, 1) := by decide +kernel
theorem dX11_holds_100 : decode cX11_holds 100 = .ok (.aload_n 0, 1) := by decide +kernel
theorem dX11_holds_101 : decode cX11_holds 101 = .ok (.aload_n 0, 1) := by decide +kernel
theorem dX11_holds_102 : decode cX11_holds 102 = .ok (.getfield 112, 3) := by decide +kernel
theorem dX11_holds_105 : decode cX11_holds 105 = .ok (.iload_n 1, 1) := by decide +kernel
theorem dX11_holds_106 : decode cX11_holds 106 = .ok (.iaload, 1) := by decide +kernel
theorem dX11_holds_107 : decode cX11_holds 107 = .ok (.invokevirtual 411, 3) := by decide +kernel
theorem dX11_holds_110 : decode cX11_holds 110 = .ok (.ifCond .ne 7, 3) := by decide +kernel
theorem dX11_holds_113 : decode cX11_holds 113 = .ok (.iconst 1, 1) := by decide +kernel
theorem dX11_holds_114 : decode cX11_holds 114 = .ok (.goto 4, 3) := by decide +kernel
theorem dX11_holds_117 : decode cX11_holds 117 = .ok (.iconst 0, 1) := by decide +kernel
theorem dX11_holds_118 : decode cX11_holds 118 = .ok (.ireturn, 1) := by decide +kernel
theorem dX11_holds_119 : decode cX11_holds 119 = .ok (.aload_n 0, 1) := by decide +kernel
theorem dX11_holds_120 : decode cX11_holds 120 = .ok (.getfield 150, 3) := by decide +kernel
theorem dX11_holds_123 : decode cX11_holds 123 = .ok (.aload_n 0, 1) := by decide +kernel
theorem dX11_holds_124 : decode cX11_holds 124 = .ok (.getfield 118, 3) := by decide +kernel
theorem dX11_holds_127 : decode cX11_holds 127 = .ok (.iload_n 1, 1) := by decide +kernel
theorem dX11_holds_128 : decode cX11_holds 128 = .ok (.iaload, 1) := by decide +kernel
theorem dX11_holds_129 : decode cX11_holds 129 = .ok (.laload, 1) := by decide +kernel
theorem dX11_holds_130 : decode cX11_holds 130 = .ok (.lstore_n 2, 1) := by decide +kernel
theorem dX11_holds_131 : decode cX11_holds 131 = .ok (.aload_n 0, 1) := by decide +kernel
theorem dX11_holds_132 : decode cX11_holds 132 = .ok (.getfield 121, 3) := by decide +kernel
theorem dX11_holds_135 : decode cX11_holds 135 = .ok (.iload_n 1, 1) := by decide +kernel
theorem dX11_holds_136 : decode cX11_holds 136 = .ok (.iaload, 1) := by decide +kernel
theorem dX11_holds_137 : decode cX11_holds 137 = .ok (.bipush 60, 2) := by decide +kernel
theorem dX11_holds_139 : decode cX11_holds 139 = .ok (.if_icmp .ne 23, 3) := by decide +kernel
theorem dX11_holds_142 : decode cX11_holds 142 = .ok (.lload_n 2, 1) := by decide +kernel
theorem dX11_holds_143 : decode cX11_holds 143 = .ok (.aload_n 0, 1) := by decide +kernel
theorem dX11_holds_144 : decode cX11_holds 144 = .ok (.getfield 124, 3) := by decide +kernel
theorem dX11_holds_147 : decode cX11_holds 147 = .ok (.iload_n 1, 1) := by decide +kernel
theorem dX11_holds_148 : decode cX11_holds 148 = .ok (.iaload, 1) := by decide +kernel
theorem dX11_holds_149 : decode cX11_holds 149 = .ok (.i2l, 1) := by decide +kernel
theorem dX11_holds_150 : decode cX11_holds 150 = .ok (.lcmp, 1) := by decide +kernel
theorem dX11_holds_151 : decode cX11_holds 151 = .ok (.ifCond .ge 7, 3) := by decide +kernel
theorem dX11_holds_154 : decode cX11_holds 154 = .ok (.iconst 1, 1) := by decide +kernel
theorem dX11_holds_155 : decode cX11_holds 155 = .ok (.goto 55, 3) := by decide +kernel
theorem dX11_holds_158 : decode cX11_holds 158 = .ok (.iconst 0, 1) := by decide +kernel
theorem dX11_holds_159 : decode cX11_holds 159 = .ok (.goto 51, 3) := by decide +kernel
theorem dX11_holds_162 : decode cX11_holds 162 = .ok (.aload_n 0, 1) := by decide +kernel
theorem dX11_holds_163 : decode cX11_holds 163 = .ok (.getfield 121, 3) := by decide +kernel
theorem dX11_holds_166 : decode cX11_holds 166 = .ok (.iload_n 1, 1) := by decide +kernel
theorem dX11_holds_167 : decode cX11_holds 167 = .ok (.iaload, 1) := by decide +kernel
theorem dX11_holds_168 : decode cX11_holds 168 = .ok (.bipush 62, 2) := by decide +kernel
theorem dX11_holds_170 : decode cX11_holds 170 = .ok (.if_icmp .ne 23, 3) := by decide +kernel
theorem dX11_holds_173 : decode cX11_holds 173 = .ok (.lload_n 2, 1) := by decide +kernel
theorem dX11_holds_174 : decode cX11_holds 174 = .ok (.aload_n 0, 1) := by decide +kernel
theorem dX11_holds_175 : decode cX11_holds 175 = .ok (.getfield 124, 3) := by decide +kernel
theorem dX11_holds_178 : decode cX11_holds 178 = .ok (.iload_n 1, 1) := by decide +kernel
theorem dX11_holds_179 : decode cX11_holds 179 = .ok (.iaload, 1) := by decide +kernel
theorem dX11_holds_180 : decode cX11_holds 180 = .ok (.i2l, 1) := by decide +kernel

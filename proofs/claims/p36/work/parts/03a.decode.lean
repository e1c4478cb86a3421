theorem dX0_init_0 : decode cX0_init 0 = .ok (.aload_n 0, 1) := by decide +kernel
theorem dX0_init_1 : decode cX0_init 1 = .ok (.invokespecial 3, 3) := by decide +kernel
theorem dX0_init_4 : decode cX0_init 4 = .ok (.aload_n 0, 1) := by decide +kernel
theorem dX0_init_5 : decode cX0_init 5 = .ok (.sipush 500, 3) := by decide +kernel
theorem dX0_init_8 : decode cX0_init 8 = .ok (.newarray .int, 2) := by decide +kernel
theorem dX0_init_10 : decode cX0_init 10 = .ok (.putfield 9, 3) := by decide +kernel
theorem dX0_init_13 : decode cX0_init 13 = .ok (.aload_n 0, 1) := by decide +kernel
theorem dX0_init_14 : decode cX0_init 14 = .ok (.sipush 500, 3) := by decide +kernel
theorem dX0_init_17 : decode cX0_init 17 = .ok (.newarray .int, 2) := by decide +kernel
theorem dX0_init_19 : decode cX0_init 19 = .ok (.putfield 15, 3) := by decide +kernel
theorem dX0_init_22 : decode cX0_init 22 = .ok (.aload_n 0, 1) := by decide +kernel
theorem dX0_init_23 : decode cX0_init 23 = .ok (.sipush 500, 3) := by decide +kernel
theorem dX0_init_26 : decode cX0_init 26 = .ok (.newarray .int, 2) := by decide +kernel
theorem dX0_init_28 : decode cX0_init 28 = .ok (.putfield 18, 3) := by decide +kernel
theorem dX0_init_31 : decode cX0_init 31 = .ok (.aload_n 0, 1) := by decide +kernel
theorem dX0_init_32 : decode cX0_init 32 = .ok (.sipush 2805, 3) := by decide +kernel
theorem dX0_init_35 : decode cX0_init 35 = .ok (.newarray .int, 2) := by decide +kernel
theorem dX0_init_37 : decode cX0_init 37 = .ok (.putfield 21, 3) := by decide +kernel
theorem dX0_init_40 : decode cX0_init 40 = .ok (.aload_n 0, 1) := by decide +kernel
theorem dX0_init_41 : decode cX0_init 41 = .ok (.getfield 21, 3) := by decide +kernel
theorem dX0_init_44 : decode cX0_init 44 = .ok (.iconst (-1), 1) := by decide +kernel
theorem dX0_init_45 : decode cX0_init 45 = .ok (.invokestatic 24, 3) := by decide +kernel
theorem dX0_init_48 : decode cX0_init 48 = .ok (.return_, 1) := by decide +kernel
theorem dX0_take_0 : decode cX0_take 0 = .ok (.aload_n 0, 1) := by decide +kernel
theorem dX0_take_1 : decode cX0_take 1 = .ok (.iload_n 1, 1) := by decide +kernel
theorem dX0_take_2 : decode cX0_take 2 = .ok (.iload_n 2, 1) := by decide +kernel
theorem dX0_take_3 : decode cX0_take 3 = .ok (.iload_n 3, 1) := by decide +kernel
theorem dX0_take_4 : decode cX0_take 4 = .ok (.invokevirtual 30, 3) := by decide +kernel
theorem dX0_take_7 : decode cX0_take 7 = .ok (.istore 6, 2) := by decide +kernel
theorem dX0_take_9 : decode cX0_take 9 = .ok (.iload 6, 2) := by decide +kernel
theorem dX0_take_11 : decode cX0_take 11 = .ok (.iconst (-1), 1) := by decide +kernel
theorem dX0_take_12 : decode cX0_take 12 = .ok (.if_icmp .eq 13, 3) := by decide +kernel
theorem dX0_take_15 : decode cX0_take 15 = .ok (.aload_n 0, 1) := by decide +kernel
theorem dX0_take_16 : decode cX0_take 16 = .ok (.getfield 34, 3) := by decide +kernel
theorem dX0_take_19 : decode cX0_take 19 = .ok (.sipush 500, 3) := by decide +kernel
theorem dX0_take_22 : decode cX0_take 22 = .ok (.if_icmp .lt 5, 3) := by decide +kernel
theorem dX0_take_25 : decode cX0_take 25 = .ok (.iconst (-1), 1) := by decide +kernel
theorem dX0_take_26 : decode cX0_take 26 = .ok (.ireturn, 1) := by decide +kernel
theorem dX0_take_27 : decode cX0_take 27 = .ok (.aload_n 0, 1) := by decide +kernel
theorem dX0_take_28 : decode cX0_take 28 = .ok (.getfield 9, 3) := by decide +kernel
theorem dX0_take_31 : decode cX0_take 31 = .ok (.aload_n 0, 1) := by decide +kernel
theorem dX0_take_32 : decode cX0_take 32 = .ok (.getfield 34, 3) := by decide +kernel
theorem dX0_take_35 : decode cX0_take 35 = .ok (.iload 4, 2) := by decide +kernel
theorem dX0_take_37 : decode cX0_take 37 = .ok (.iastore, 1) := by decide +kernel
theorem dX0_take_38 : decode cX0_take 38 = .ok (.aload_n 0, 1) := by decide +kernel
theorem dX0_take_39 : decode cX0_take 39 = .ok (.getfield 15, 3) := by decide +kernel
theorem dX0_take_42 : decode cX0_take 42 = .ok (.aload_n 0, 1) := by decide +kernel
theorem dX0_take_43 : decode cX0_take 43 = .ok (.getfield 34, 3) := by decide +kernel
theorem dX0_take_46 : decode cX0_take 46 = .ok (.iload 5, 2) := by decide +kernel
theorem dX0_take_48 : decode cX0_take 48 = .ok (.iastore, 1) := by decide +kernel
theorem dX0_take_49 : decode cX0_take 49 = .ok (.aload_n 0, 1) := by decide +kernel
theorem dX0_take_50 : decode cX0_take 50 = .ok (.getfield 18, 3) := by decide +kernel
theorem dX0_take_53 : decode cX0_take 53 = .ok (.aload_n 0, 1) := by decide +kernel
theorem dX0_take_54 : decode cX0_take 54 = .ok (.getfield 34, 3) := by decide +kernel
theorem dX0_take_57 : decode cX0_take 57 = .ok (.aload_n 0, 1) := by decide +kernel
theorem dX0_take_58 : decode cX0_take 58 = .ok (.getfield 21, 3) := by decide +kernel
theorem dX0_take_61 : decode cX0_take 61 = .ok (.iload 6, 2) := by decide +kernel
theorem dX0_take_63 : decode cX0_take 63 = .ok (.iaload, 1) := by decide +kernel
theorem dX0_take_64 : decode cX0_take 64 = .ok (.iastore, 1) := by decide +kernel
theorem dX0_take_65 : decode cX0_take 65 = .ok (.aload_n 0, 1) := by decide +kernel
theorem dX0_take_66 : decode cX0_take 66 = .ok (.getfield 21, 3) := by decide +kernel
theorem dX0_take_69 : decode cX0_take 69 = .ok (.iload 6, 2) := by decide +kernel
theorem dX0_take_71 : decode cX0_take 71 = .ok (.aload_n 0, 1) := by decide +kernel
theorem dX0_take_72 : decode cX0_take 72 = .ok (.getfield 34, 3) := by decide +kernel
theorem dX0_take_75 : decode cX0_take 75 = .ok (.iastore, 1) := by decide +kernel
theorem dX0_take_76 : decode cX0_take 76 = .ok (.aload_n 0, 1) := by decide +kernel
theorem dX0_take_77 : decode cX0_take 77 = .ok (.dup, 1) := by decide +kernel
theorem dX0_take_78 : decode cX0_take 78 = .ok (.getfield 34, 3) := by decide +kernel
theorem dX0_take_81 : decode cX0_take 81 = .ok (.iconst 1, 1) := by decide +kernel
theorem dX0_take_82 : decode cX0_take 82 = .ok (.iadd, 1) := by decide +kernel
theorem dX0_take_83 : decode cX0_take 83 = .ok (.putfield 34, 3) := by decide +kernel
theorem dX0_take_86 : decode cX0_take 86 = .ok (.aload_n 0, 1) := by decide +kernel
theorem dX0_take_87 : decode cX0_take 87 = .ok (.getfield 34, 3) := by decide +kernel
theorem dX0_take_90 : decode cX0_take 90 = .ok (.iconst 1, 1) := by decide +kernel
theorem dX0_take_91 : decode cX0_take 91 = .ok (.isub, 1) := by decide +kernel
theorem dX0_take_92 : decode cX0_take 92 = .ok (.ireturn, 1) := by decide +kernel
theorem dX0_knownBy_0 : decode cX0_knownBy 0 = .ok (.aload_n 0, 1) := by decide +kernel
theorem dX0_knownBy_1 : decode cX0_knownBy 1 = .ok (.iload_n 1, 1) := by decide +kernel
theorem dX0_knownBy_2 : decode cX0_knownBy 2 = .ok (.iload_n 2, 1) := by decide +kernel
theorem dX0_knownBy_3 : decode cX0_knownBy 3 = .ok (.iload_n 3, 1) := by decide +kernel
theorem dX0_knownBy_4 : decode cX0_knownBy 4 = .ok (.invokevirtual 30, 3) := by decide +kernel
theorem dX0_knownBy_7 : decode cX0_knownBy 7 = .ok (.istore 5, 2) := by decide +kernel
theorem dX0_knownBy_9 : decode cX0_knownBy 9 = .ok (.iload 5, 2) := by decide +kernel
theorem dX0_knownBy_11 : decode cX0_knownBy 11 = .ok (.iconst (-1), 1) := by decide +kernel
theorem dX0_knownBy_12 : decode cX0_knownBy 12 = .ok (.if_icmp .ne 7, 3) := by decide +kernel
theorem dX0_knownBy_15 : decode cX0_knownBy 15 = .ok (.iconst (-1), 1) := by decide +kernel
theorem dX0_knownBy_16 : decode cX0_knownBy 16 = .ok (.goto 10, 3) := by decide +kernel
theorem dX0_knownBy_19 : decode cX0_knownBy 19 = .ok (.aload_n 0, 1) := by decide +kernel
theorem dX0_knownBy_20 : decode cX0_knownBy 20 = .ok (.getfield 21, 3) := by decide +kernel
theorem dX0_knownBy_23 : decode cX0_knownBy 23 = .ok (.iload 5, 2) := by decide +kernel
theorem dX0_knownBy_25 : decode cX0_knownBy 25 = .ok (.iaload, 1) := by decide +kernel
theorem dX0_knownBy_26 : decode cX0_knownBy 26 = .ok (.istore 6, 2) := by decide +kernel
theorem dX0_knownBy_28 : decode cX0_knownBy 28 = .ok (.iconst 0, 1) := by decide +kernel
theorem dX0_knownBy_29 : decode cX0_knownBy 29 = .ok (.istore 7, 2) := by decide +kernel
theorem dX0_knownBy_31 : decode cX0_knownBy 31 = .ok (.iload 7, 2) := by decide +kernel
theorem dX0_knownBy_33 : decode cX0_knownBy 33 = .ok (.sipush 500, 3) := by decide +kernel
theorem dX0_knownBy_36 : decode cX0_knownBy 36 = .ok (.if_icmp .ge 51, 3) := by decide +kernel
theorem dX0_knownBy_39 : decode cX0_knownBy 39 = .ok (.iload 6, 2) := by decide +kernel
theorem dX0_knownBy_41 : decode cX0_knownBy 41 = .ok (.ifCond .lt 46, 3) := by decide +kernel
theorem dX0_knownBy_44 : decode cX0_knownBy 44 = .ok (.iload 6, 2) := by decide +kernel
theorem dX0_knownBy_46 : decode cX0_knownBy 46 = .ok (.sipush 500, 3) := by decide +kernel
theorem dX0_knownBy_49 : decode cX0_knownBy 49 = .ok (.if_icmp .ge 38, 3) := by decide +kernel
theorem dX0_knownBy_52 : decode cX0_knownBy 52 = .ok (.aload_n 0, 1) := by decide +kernel
theorem dX0_knownBy_53 : decode cX0_knownBy 53 = .ok (.getfield 15, 3) := by decide +kernel
theorem dX0_knownBy_56 : decode cX0_knownBy 56 = .ok (.iload 6, 2) := by decide +kernel
theorem dX0_knownBy_58 : decode cX0_knownBy 58 = .ok (.iaload, 1) := by decide +kernel
theorem dX0_knownBy_59 : decode cX0_knownBy 59 = .ok (.iload 4, 2) := by decide +kernel
theorem dX0_knownBy_61 : decode cX0_knownBy 61 = .ok (.if_icmp .gt 11, 3) := by decide +kernel
theorem dX0_knownBy_64 : decode cX0_knownBy 64 = .ok (.aload_n 0, 1) := by decide +kernel
theorem dX0_knownBy_65 : decode cX0_knownBy 65 = .ok (.getfield 9, 3) := by decide +kernel
theorem dX0_knownBy_68 : decode cX0_knownBy 68 = .ok (.iload 6, 2) := by decide +kernel
theorem dX0_knownBy_70 : decode cX0_knownBy 70 = .ok (.iaload, 1) := by decide +kernel
theorem dX0_knownBy_71 : decode cX0_knownBy 71 = .ok (.ireturn, 1) := by decide +kernel
theorem dX0_knownBy_72 : decode cX0_knownBy 72 = .ok (.aload_n 0, 1) := by decide +kernel
theorem dX0_knownBy_73 : decode cX0_knownBy 73 = .ok (.getfield 18, 3) := by decide +kernel
theorem dX0_knownBy_76 : decode cX0_knownBy 76 = .ok (.iload 6, 2) := by decide +kernel
theorem dX0_knownBy_78 : decode cX0_knownBy 78 = .ok (.iaload, 1) := by decide +kernel
theorem dX0_knownBy_79 : decode cX0_knownBy 79 = .ok (.istore 6, 2) := by decide +kernel
theorem dX0_knownBy_81 : decode cX0_knownBy 81 = .ok (.iinc 7 1, 3) := by decide +kernel
theorem dX0_knownBy_84 : decode cX0_knownBy 84 = .ok (.goto (-53), 3) := by decide +kernel
theorem dX0_knownBy_87 : decode cX0_knownBy 87 = .ok (.iconst (-1), 1) := by decide +kernel
theorem dX0_knownBy_88 : decode cX0_knownBy 88 = .ok (.ireturn, 1) := by decide +kernel
theorem dX0_latestUpTo_0 : decode cX0_latestUpTo 0 = .ok (.iload_n 2, 1) := by decide +kernel
theorem dX0_latestUpTo_1 : decode cX0_latestUpTo 1 = .ok (.istore 5, 2) := by decide +kernel
theorem dX0_latestUpTo_3 : decode cX0_latestUpTo 3 = .ok (.iload 5, 2) := by decide +kernel
theorem dX0_latestUpTo_5 : decode cX0_latestUpTo 5 = .ok (.ifCond .lt 30, 3) := by decide +kernel
theorem dX0_latestUpTo_8 : decode cX0_latestUpTo 8 = .ok (.aload_n 0, 1) := by decide +kernel
theorem dX0_latestUpTo_9 : decode cX0_latestUpTo 9 = .ok (.iload_n 1, 1) := by decide +kernel
theorem dX0_latestUpTo_10 : decode cX0_latestUpTo 10 = .ok (.iload 5, 2) := by decide +kernel
theorem dX0_latestUpTo_12 : decode cX0_latestUpTo 12 = .ok (.iload_n 3, 1) := by decide +kernel
theorem dX0_latestUpTo_13 : decode cX0_latestUpTo 13 = .ok (.iload 4, 2) := by decide +kernel
theorem dX0_latestUpTo_15 : decode cX0_latestUpTo 15 = .ok (.invokevirtual 38, 3) := by decide +kernel
theorem dX0_latestUpTo_18 : decode cX0_latestUpTo 18 = .ok (.istore 6, 2) := by decide +kernel
theorem dX0_latestUpTo_20 : decode cX0_latestUpTo 20 = .ok (.iload 6, 2) := by decide +kernel
theorem dX0_latestUpTo_22 : decode cX0_latestUpTo 22 = .ok (.iconst (-1), 1) := by decide +kernel
theorem dX0_latestUpTo_23 : decode cX0_latestUpTo 23 = .ok (.if_icmp .eq 6, 3) := by decide +kernel
theorem dX0_latestUpTo_26 : decode cX0_latestUpTo 26 = .ok (.iload 6, 2) := by decide +kernel
theorem dX0_latestUpTo_28 : decode cX0_latestUpTo 28 = .ok (.ireturn, 1) := by decide +kernel
theorem dX0_latestUpTo_29 : decode cX0_latestUpTo 29 = .ok (.iinc 5 (-1), 3) := by decide +kernel
theorem dX0_latestUpTo_32 : decode cX0_latestUpTo 32 = .ok (.goto (-29), 3) := by decide +kernel
theorem dX0_latestUpTo_35 : decode cX0_latestUpTo 35 = .ok (.iconst 0, 1) := by decide +kernel
theorem dX0_latestUpTo_36 : decode cX0_latestUpTo 36 = .ok (.ireturn, 1) := by decide +kernel
theorem dX0_latestHomesUpTo_0 : decode cX0_latestHomesUpTo 0 = .ok (.iconst 0, 1) := by decide +kernel
theorem dX0_latestHomesUpTo_1 : decode cX0_latestHomesUpTo 1 = .ok (.istore 4, 2) := by decide +kernel
theorem dX0_latestHomesUpTo_3 : decode cX0_latestHomesUpTo 3 = .ok (.iconst 0, 1) := by decide +kernel
theorem dX0_latestHomesUpTo_4 : decode cX0_latestHomesUpTo 4 = .ok (.istore 5, 2) := by decide +kernel
theorem dX0_latestHomesUpTo_6 : decode cX0_latestHomesUpTo 6 = .ok (.iload_n 2, 1) := by decide +kernel
theorem dX0_latestHomesUpTo_7 : decode cX0_latestHomesUpTo 7 = .ok (.istore 6, 2) := by decide +kernel
theorem dX0_latestHomesUpTo_9 : decode cX0_latestHomesUpTo 9 = .ok (.iload 6, 2) := by decide +kernel
theorem dX0_latestHomesUpTo_11 : decode cX0_latestHomesUpTo 11 = .ok (.ifCond .lt 60, 3) := by decide +kernel
theorem dX0_latestHomesUpTo_14 : decode cX0_latestHomesUpTo 14 = .ok (.iload 4, 2) := by decide +kernel
theorem dX0_latestHomesUpTo_16 : decode cX0_latestHomesUpTo 16 = .ok (.ifCond .ne 55, 3) := by decide +kernel
theorem dX0_latestHomesUpTo_19 : decode cX0_latestHomesUpTo 19 = .ok (.iconst 0, 1) := by decide +kernel
theorem dX0_latestHomesUpTo_20 : decode cX0_latestHomesUpTo 20 = .ok (.istore 7, 2) := by decide +kernel
theorem dX0_latestHomesUpTo_22 : decode cX0_latestHomesUpTo 22 = .ok (.iload 7, 2) := by decide +kernel
theorem dX0_latestHomesUpTo_24 : decode cX0_latestHomesUpTo 24 = .ok (.iconst 3, 1) := by decide +kernel
theorem dX0_latestHomesUpTo_25 : decode cX0_latestHomesUpTo 25 = .ok (.if_icmp .ge 40, 3) := by decide +kernel
theorem dX0_latestHomesUpTo_28 : decode cX0_latestHomesUpTo 28 = .ok (.aload_n 0, 1) := by decide +kernel
theorem dX0_latestHomesUpTo_29 : decode cX0_latestHomesUpTo 29 = .ok (.iload_n 1, 1) := by decide +kernel
theorem dX0_latestHomesUpTo_30 : decode cX0_latestHomesUpTo 30 = .ok (.iload 6, 2) := by decide +kernel
theorem dX0_latestHomesUpTo_32 : decode cX0_latestHomesUpTo 32 = .ok (.bipush 11, 2) := by decide +kernel
theorem dX0_latestHomesUpTo_34 : decode cX0_latestHomesUpTo 34 = .ok (.iload 7, 2) := by decide +kernel
theorem dX0_latestHomesUpTo_36 : decode cX0_latestHomesUpTo 36 = .ok (.iadd, 1) := by decide +kernel
theorem dX0_latestHomesUpTo_37 : decode cX0_latestHomesUpTo 37 = .ok (.iload_n 3, 1) := by decide +kernel
theorem dX0_latestHomesUpTo_38 : decode cX0_latestHomesUpTo 38 = .ok (.invokevirtual 38, 3) := by decide +kernel
theorem dX0_latestHomesUpTo_41 : decode cX0_latestHomesUpTo 41 = .ok (.istore 8, 2) := by decide +kernel
theorem dX0_latestHomesUpTo_43 : decode cX0_latestHomesUpTo 43 = .ok (.iload 8, 2) := by decide +kernel
theorem dX0_latestHomesUpTo_45 : decode cX0_latestHomesUpTo 45 = .ok (.iconst (-1), 1) := by decide +kernel
theorem dX0_latestHomesUpTo_46 : decode cX0_latestHomesUpTo 46 = .ok (.if_icmp .eq 13, 3) := by decide +kernel
theorem dX0_latestHomesUpTo_49 : decode cX0_latestHomesUpTo 49 = .ok (.iconst 1, 1) := by decide +kernel
theorem dX0_latestHomesUpTo_50 : decode cX0_latestHomesUpTo 50 = .ok (.istore 4, 2) := by decide +kernel
theorem dX0_latestHomesUpTo_52 : decode cX0_latestHomesUpTo 52 = .ok (.iload 5, 2) := by decide +kernel
theorem dX0_latestHomesUpTo_54 : decode cX0_latestHomesUpTo 54 = .ok (.iload 8, 2) := by decide +kernel
theorem dX0_latestHomesUpTo_56 : decode cX0_latestHomesUpTo 56 = .ok (.iadd, 1) := by decide +kernel
theorem dX0_latestHomesUpTo_57 : decode cX0_latestHomesUpTo 57 = .ok (.istore 5, 2) := by decide +kernel
theorem dX0_latestHomesUpTo_59 : decode cX0_latestHomesUpTo 59 = .ok (.iinc 7 1, 3) := by decide +kernel
theorem dX0_latestHomesUpTo_62 : decode cX0_latestHomesUpTo 62 = .ok (.goto (-40), 3) := by decide +kernel
theorem dX0_latestHomesUpTo_65 : decode cX0_latestHomesUpTo 65 = .ok (.iinc 6 (-1), 3) := by decide +kernel
theorem dX0_latestHomesUpTo_68 : decode cX0_latestHomesUpTo 68 = .ok (.goto (-59), 3) := by decide +kernel
theorem dX0_latestHomesUpTo_71 : decode cX0_latestHomesUpTo 71 = .ok (.iload 5, 2) := by decide +kernel
theorem dX0_latestHomesUpTo_73 : decode cX0_latestHomesUpTo 73 = .ok (.ireturn, 1) := by decide +kernel
theorem dX0_placeOf_0 : decode cX0_placeOf 0 = .ok (.iload_n 1, 1) := by decide +kernel
theorem dX0_placeOf_1 : decode cX0_placeOf 1 = .ok (.ifCond .lt 29, 3) := by decide +kernel
theorem dX0_placeOf_4 : decode cX0_placeOf 4 = .ok (.iload_n 1, 1) := by decide +kernel
theorem dX0_placeOf_5 : decode cX0_placeOf 5 = .ok (.bipush 11, 2) := by decide +kernel
theorem dX0_placeOf_7 : decode cX0_placeOf 7 = .ok (.if_icmp .ge 23, 3) := by decide +kernel
theorem dX0_placeOf_10 : decode cX0_placeOf 10 = .ok (.iload_n 2, 1) := by decide +kernel
theorem dX0_placeOf_11 : decode cX0_placeOf 11 = .ok (.ifCond .lt 19, 3) := by decide +kernel
theorem dX0_placeOf_14 : decode cX0_placeOf 14 = .ok (.iload_n 2, 1) := by decide +kernel
theorem dX0_placeOf_15 : decode cX0_placeOf 15 = .ok (.bipush 15, 2) := by decide +kernel
theorem dX0_placeOf_17 : decode cX0_placeOf 17 = .ok (.if_icmp .ge 13, 3) := by decide +kernel
theorem dX0_placeOf_20 : decode cX0_placeOf 20 = .ok (.iload_n 3, 1) := by decide +kernel
theorem dX0_placeOf_21 : decode cX0_placeOf 21 = .ok (.ifCond .lt 9, 3) := by decide +kernel
theorem dX0_placeOf_24 : decode cX0_placeOf 24 = .ok (.iload_n 3, 1) := by decide +kernel
theorem dX0_placeOf_25 : decode cX0_placeOf 25 = .ok (.bipush 17, 2) := by decide +kernel
theorem dX0_placeOf_27 : decode cX0_placeOf 27 = .ok (.if_icmp .lt 5, 3) := by decide +kernel
theorem dX0_placeOf_30 : decode cX0_placeOf 30 = .ok (.iconst (-1), 1) := by decide +kernel
theorem dX0_placeOf_31 : decode cX0_placeOf 31 = .ok (.ireturn, 1) := by decide +kernel
theorem dX0_placeOf_32 : decode cX0_placeOf 32 = .ok (.iload_n 1, 1) := by decide +kernel
theorem dX0_placeOf_33 : decode cX0_placeOf 33 = .ok (.bipush 15, 2) := by decide +kernel
theorem dX0_placeOf_35 : decode cX0_placeOf 35 = .ok (.imul, 1) := by decide +kernel
theorem dX0_placeOf_36 : decode cX0_placeOf 36 = .ok (.iload_n 2, 1) := by decide +kernel
theorem dX0_placeOf_37 : decode cX0_placeOf 37 = .ok (.iadd, 1) := by decide +kernel
theorem dX0_placeOf_38 : decode cX0_placeOf 38 = .ok (.bipush 17, 2) := by decide +kernel
theorem dX0_placeOf_40 : decode cX0_placeOf 40 = .ok (.imul, 1) := by decide +kernel
theorem dX0_placeOf_41 : decode cX0_placeOf 41 = .ok (.iload_n 3, 1) := by decide +kernel
theorem dX0_placeOf_42 : decode cX0_placeOf 42 = .ok (.iadd, 1) := by decide +kernel
theorem dX0_placeOf_43 : decode cX0_placeOf 43 = .ok (.ireturn, 1) := by decide +kernel
theorem dX1_init_0 : decode cX1_init 0 = .ok (.aload_n 0, 1) := by decide +kernel
theorem dX1_init_1 : decode cX1_init 1 = .ok (.invokespecial 3, 3) := by decide +kernel
theorem dX1_init_4 : decode cX1_init 4 = .ok (.aload_n 0, 1) := by decide +kernel
theorem dX1_init_5 : decode cX1_init 5 = .ok (.bipush 20, 2) := by decide +kernel
theorem dX1_init_7 : decode cX1_init 7 = .ok (.newarray .int, 2) := by decide +kernel
theorem dX1_init_9 : decode cX1_init 9 = .ok (.putfield 9, 3) := by decide +kernel
theorem dX1_init_12 : decode cX1_init 12 = .ok (.aload_n 0, 1) := by decide +kernel
theorem dX1_init_13 : decode cX1_init 13 = .ok (.bipush 20, 2) := by decide +kernel
theorem dX1_init_15 : decode cX1_init 15 = .ok (.newarray .int, 2) := by decide +kernel
theorem dX1_init_17 : decode cX1_init 17 = .ok (.putfield 15, 3) := by decide +kernel
theorem dX1_init_20 : decode cX1_init 20 = .ok (.aload_n 0, 1) := by decide +kernel
theorem dX1_init_21 : decode cX1_init 21 = .ok (.bipush 20, 2) := by decide +kernel
theorem dX1_init_23 : decode cX1_init 23 = .ok (.newarray .int, 2) := by decide +kernel
theorem dX1_init_25 : decode cX1_init 25 = .ok (.putfield 18, 3) := by decide +kernel
theorem dX1_init_28 : decode cX1_init 28 = .ok (.aload_n 0, 1) := by decide +kernel
theorem dX1_init_29 : decode cX1_init 29 = .ok (.bipush 20, 2) := by decide +kernel
theorem dX1_init_31 : decode cX1_init 31 = .ok (.newarray .int, 2) := by decide +kernel
theorem dX1_init_33 : decode cX1_init 33 = .ok (.putfield 21, 3) := by decide +kernel
theorem dX1_init_36 : decode cX1_init 36 = .ok (.aload_n 0, 1) := by decide +kernel
theorem dX1_init_37 : decode cX1_init 37 = .ok (.bipush 20, 2) := by decide +kernel
theorem dX1_init_39 : decode cX1_init 39 = .ok (.newarray .int, 2) := by decide +kernel
theorem dX1_init_41 : decode cX1_init 41 = .ok (.putfield 24, 3) := by decide +kernel
theorem dX1_init_44 : decode cX1_init 44 = .ok (.return_, 1) := by decide +kernel
theorem dX1_take_0 : decode cX1_take 0 = .ok (.aload_n 0, 1) := by decide +kernel
theorem dX1_take_1 : decode cX1_take 1 = .ok (.getfield 27, 3) := by decide +kernel
theorem dX1_take_4 : decode cX1_take 4 = .ok (.bipush 20, 2) := by decide +kernel
theorem dX1_take_6 : decode cX1_take 6 = .ok (.if_icmp .lt 5, 3) := by decide +kernel
theorem dX1_take_9 : decode cX1_take 9 = .ok (.iconst (-1), 1) := by decide +kernel
theorem dX1_take_10 : decode cX1_take 10 = .ok (.ireturn, 1) := by decide +kernel
theorem dX1_take_11 : decode cX1_take 11 = .ok (.aload_n 0, 1) := by decide +kernel
theorem dX1_take_12 : decode cX1_take 12 = .ok (.getfield 9, 3) := by decide +kernel
theorem dX1_take_15 : decode cX1_take 15 = .ok (.aload_n 0, 1) := by decide +kernel
theorem dX1_take_16 : decode cX1_take 16 = .ok (.getfield 27, 3) := by decide +kernel
theorem dX1_take_19 : decode cX1_take 19 = .ok (.iload_n 1, 1) := by decide +kernel
theorem dX1_take_20 : decode cX1_take 20 = .ok (.iastore, 1) := by decide +kernel
theorem dX1_take_21 : decode cX1_take 21 = .ok (.aload_n 0, 1) := by decide +kernel
theorem dX1_take_22 : decode cX1_take 22 = .ok (.getfield 15, 3) := by decide +kernel
theorem dX1_take_25 : decode cX1_take 25 = .ok (.aload_n 0, 1) := by decide +kernel
theorem dX1_take_26 : decode cX1_take 26 = .ok (.getfield 27, 3) := by decide +kernel
theorem dX1_take_29 : decode cX1_take 29 = .ok (.iload_n 2, 1) := by decide +kernel
theorem dX1_take_30 : decode cX1_take 30 = .ok (.iastore, 1) := by decide +kernel
theorem dX1_take_31 : decode cX1_take 31 = .ok (.aload_n 0, 1) := by decide +kernel
theorem dX1_take_32 : decode cX1_take 32 = .ok (.getfield 18, 3) := by decide +kernel
theorem dX1_take_35 : decode cX1_take 35 = .ok (.aload_n 0, 1) := by decide +kernel
theorem dX1_take_36 : decode cX1_take 36 = .ok (.getfield 27, 3) := by decide +kernel
theorem dX1_take_39 : decode cX1_take 39 = .ok (.iload_n 3, 1) := by decide +kernel
theorem dX1_take_40 : decode cX1_take 40 = .ok (.iastore, 1) := by decide +kernel
theorem dX1_take_41 : decode cX1_take 41 = .ok (.aload_n 0, 1) := by decide +kernel
theorem dX1_take_42 : decode cX1_take 42 = .ok (.getfield 21, 3) := by decide +kernel
theorem dX1_take_45 : decode cX1_take 45 = .ok (.aload_n 0, 1) := by decide +kernel
theorem dX1_take_46 : decode cX1_take 46 = .ok (.getfield 27, 3) := by decide +kernel
theorem dX1_take_49 : decode cX1_take 49 = .ok (.iload 4, 2) := by decide +kernel
theorem dX1_take_51 : decode cX1_take 51 = .ok (.iastore, 1) := by decide +kernel
theorem dX1_take_52 : decode cX1_take 52 = .ok (.aload_n 0, 1) := by decide +kernel
theorem dX1_take_53 : decode cX1_take 53 = .ok (.getfield 24, 3) := by decide +kernel
theorem dX1_take_56 : decode cX1_take 56 = .ok (.aload_n 0, 1) := by decide +kernel
theorem dX1_take_57 : decode cX1_take 57 = .ok (.getfield 27, 3) := by decide +kernel
theorem dX1_take_60 : decode cX1_take 60 = .ok (.iload 5, 2) := by decide +kernel
theorem dX1_take_62 : decode cX1_take 62 = .ok (.iastore, 1) := by decide +kernel
theorem dX1_take_63 : decode cX1_take 63 = .ok (.aload_n 0, 1) := by decide +kernel
theorem dX1_take_64 : decode cX1_take 64 = .ok (.dup, 1) := by decide +kernel
theorem dX1_take_65 : decode cX1_take 65 = .ok (.getfield 27, 3) := by decide +kernel
theorem dX1_take_68 : decode cX1_take 68 = .ok (.iconst 1, 1) := by decide +kernel
theorem dX1_take_69 : decode cX1_take 69 = .ok (.iadd, 1) := by decide +kernel
theorem dX1_take_70 : decode cX1_take 70 = .ok (.putfield 27, 3) := by decide +kernel
theorem dX1_take_73 : decode cX1_take 73 = .ok (.aload_n 0, 1) := by decide +kernel
theorem dX1_take_74 : decode cX1_take 74 = .ok (.getfield 27, 3) := by decide +kernel
theorem dX1_take_77 : decode cX1_take 77 = .ok (.ireturn, 1) := by decide +kernel
theorem dX1_lastKnown_0 : decode cX1_lastKnown 0 = .ok (.iconst (-1), 1) := by decide +kernel
theorem dX1_lastKnown_1 : decode cX1_lastKnown 1 = .ok (.istore 5, 2) := by decide +kernel
theorem dX1_lastKnown_3 : decode cX1_lastKnown 3 = .ok (.iconst 0, 1) := by decide +kernel
theorem dX1_lastKnown_4 : decode cX1_lastKnown 4 = .ok (.istore 6, 2) := by decide +kernel
theorem dX1_lastKnown_6 : decode cX1_lastKnown 6 = .ok (.iload 6, 2) := by decide +kernel
theorem dX1_lastKnown_8 : decode cX1_lastKnown 8 = .ok (.aload_n 0, 1) := by decide +kernel
theorem dX1_lastKnown_9 : decode cX1_lastKnown 9 = .ok (.getfield 27, 3) := by decide +kernel
theorem dX1_lastKnown_12 : decode cX1_lastKnown 12 = .ok (.if_icmp .ge 49, 3) := by decide +kernel
theorem dX1_lastKnown_15 : decode cX1_lastKnown 15 = .ok (.iload 6, 2) := by decide +kernel
theorem dX1_lastKnown_17 : decode cX1_lastKnown 17 = .ok (.bipush 20, 2) := by decide +kernel
theorem dX1_lastKnown_19 : decode cX1_lastKnown 19 = .ok (.if_icmp .ge 42, 3) := by decide +kernel
theorem dX1_lastKnown_22 : decode cX1_lastKnown 22 = .ok (.aload_n 0, 1) := by decide +kernel
theorem dX1_lastKnown_23 : decode cX1_lastKnown 23 = .ok (.iload 6, 2) := by decide +kernel
theorem dX1_lastKnown_25 : decode cX1_lastKnown 25 = .ok (.iload_n 1, 1) := by decide +kernel
theorem dX1_lastKnown_26 : decode cX1_lastKnown 26 = .ok (.iload_n 2, 1) := by decide +kernel
theorem dX1_lastKnown_27 : decode cX1_lastKnown 27 = .ok (.iload_n 3, 1) := by decide +kernel
theorem dX1_lastKnown_28 : decode cX1_lastKnown 28 = .ok (.invokevirtual 31, 3) := by decide +kernel
theorem dX1_lastKnown_31 : decode cX1_lastKnown 31 = .ok (.ifCond .eq 24, 3) := by decide +kernel
theorem dX1_lastKnown_34 : decode cX1_lastKnown 34 = .ok (.aload_n 0, 1) := by decide +kernel
theorem dX1_lastKnown_35 : decode cX1_lastKnown 35 = .ok (.getfield 24, 3) := by decide +kernel
theorem dX1_lastKnown_38 : decode cX1_lastKnown 38 = .ok (.iload 6, 2) := by decide +kernel
theorem dX1_lastKnown_40 : decode cX1_lastKnown 40 = .ok (.iaload, 1) := by decide +kernel
theorem dX1_lastKnown_41 : decode cX1_lastKnown 41 = .ok (.iload 4, 2) := by decide +kernel
theorem dX1_lastKnown_43 : decode cX1_lastKnown 43 = .ok (.if_icmp .gt 12, 3) := by decide +kernel
theorem dX1_lastKnown_46 : decode cX1_lastKnown 46 = .ok (.aload_n 0, 1) := by decide +kernel
theorem dX1_lastKnown_47 : decode cX1_lastKnown 47 = .ok (.getfield 21, 3) := by decide +kernel
theorem dX1_lastKnown_50 : decode cX1_lastKnown 50 = .ok (.iload 6, 2) := by decide +kernel
theorem dX1_lastKnown_52 : decode cX1_lastKnown 52 = .ok (.iaload, 1) := by decide +kernel
theorem dX1_lastKnown_53 : decode cX1_lastKnown 53 = .ok (.istore 5, 2) := by decide +kernel
theorem dX1_lastKnown_55 : decode cX1_lastKnown 55 = .ok (.iinc 6 1, 3) := by decide +kernel
theorem dX1_lastKnown_58 : decode cX1_lastKnown 58 = .ok (.goto (-52), 3) := by decide +kernel
theorem dX1_lastKnown_61 : decode cX1_lastKnown 61 = .ok (.iload 5, 2) := by decide +kernel
theorem dX1_lastKnown_63 : decode cX1_lastKnown 63 = .ok (.ireturn, 1) := by decide +kernel
theorem dX1_allKnown_0 : decode cX1_allKnown 0 = .ok (.lconst 0, 1) := by decide +kernel
theorem dX1_allKnown_1 : decode cX1_allKnown 1 = .ok (.lstore 5, 2) := by decide +kernel
theorem dX1_allKnown_3 : decode cX1_allKnown 3 = .ok (.iconst 0, 1) := by decide +kernel
theorem dX1_allKnown_4 : decode cX1_allKnown 4 = .ok (.istore 7, 2) := by decide +kernel
theorem dX1_allKnown_6 : decode cX1_allKnown 6 = .ok (.iload 7, 2) := by decide +kernel
theorem dX1_allKnown_8 : decode cX1_allKnown 8 = .ok (.aload_n 0, 1) := by decide +kernel
theorem dX1_allKnown_9 : decode cX1_allKnown 9 = .ok (.getfield 27, 3) := by decide +kernel
theorem dX1_allKnown_12 : decode cX1_allKnown 12 = .ok (.if_icmp .ge 53, 3) := by decide +kernel
theorem dX1_allKnown_15 : decode cX1_allKnown 15 = .ok (.iload 7, 2) := by decide +kernel
theorem dX1_allKnown_17 : decode cX1_allKnown 17 = .ok (.bipush 20, 2) := by decide +kernel
theorem dX1_allKnown_19 : decode cX1_allKnown 19 = .ok (.if_icmp .ge 46, 3) := by decide +kernel
theorem dX1_allKnown_22 : decode cX1_allKnown 22 = .ok (.aload_n 0, 1) := by decide +kernel
theorem dX1_allKnown_23 : decode cX1_allKnown 23 = .ok (.iload 7, 2) := by decide +kernel
theorem dX1_allKnown_25 : decode cX1_allKnown 25 = .ok (.iload_n 1, 1) := by decide +kernel
theorem dX1_allKnown_26 : decode cX1_allKnown 26 = .ok (.iload_n 2, 1) := by decide +kernel
theorem dX1_allKnown_27 : decode cX1_allKnown 27 = .ok (.iload_n 3, 1) := by decide +kernel
theorem dX1_allKnown_28 : decode cX1_allKnown 28 = .ok (.invokevirtual 31, 3) := by decide +kernel
theorem dX1_allKnown_31 : decode cX1_allKnown 31 = .ok (.ifCond .eq 28, 3) := by decide +kernel
theorem dX1_allKnown_34 : decode cX1_allKnown 34 = .ok (.aload_n 0, 1) := by decide +kernel
theorem dX1_allKnown_35 : decode cX1_allKnown 35 = .ok (.getfield 24, 3) := by decide +kernel
theorem dX1_allKnown_38 : decode cX1_allKnown 38 = .ok (.iload 7, 2) := by decide +kernel
theorem dX1_allKnown_40 : decode cX1_allKnown 40 = .ok (.iaload, 1) := by decide +kernel
theorem dX1_allKnown_41 : decode cX1_allKnown 41 = .ok (.iload 4, 2) := by decide +kernel
theorem dX1_allKnown_43 : decode cX1_allKnown 43 = .ok (.if_icmp .gt 16, 3) := by decide +kernel
theorem dX1_allKnown_46 : decode cX1_allKnown 46 = .ok (.lload 5, 2) := by decide +kernel
theorem dX1_allKnown_48 : decode cX1_allKnown 48 = .ok (.aload_n 0, 1) := by decide +kernel
theorem dX1_allKnown_49 : decode cX1_allKnown 49 = .ok (.getfield 21, 3) := by decide +kernel
theorem dX1_allKnown_52 : decode cX1_allKnown 52 = .ok (.iload 7, 2) := by decide +kernel
theorem dX1_allKnown_54 : decode cX1_allKnown 54 = .ok (.iaload, 1) := by decide +kernel
theorem dX1_allKnown_55 : decode cX1_allKnown 55 = .ok (.i2l, 1) := by decide +kernel
theorem dX1_allKnown_56 : decode cX1_allKnown 56 = .ok (.ladd, 1) := by decide +kernel
theorem dX1_allKnown_57 : decode cX1_allKnown 57 = .ok (.lstore 5, 2) := by decide +kernel
theorem dX1_allKnown_59 : decode cX1_allKnown 59 = .ok (.iinc 7 1, 3) := by decide +kernel
theorem dX1_allKnown_62 : decode cX1_allKnown 62 = .ok (.goto (-56), 3) := by decide +kernel
theorem dX1_allKnown_65 : decode cX1_allKnown 65 = .ok (.lload 5, 2) := by decide +kernel
theorem dX1_allKnown_67 : decode cX1_allKnown 67 = .ok (.lreturn, 1) := by decide +kernel
theorem dX1_isOf_0 : decode cX1_isOf 0 = .ok (.iload_n 1, 1) := by decide +kernel
theorem dX1_isOf_1 : decode cX1_isOf 1 = .ok (.ifCond .lt 44, 3) := by decide +kernel
theorem dX1_isOf_4 : decode cX1_isOf 4 = .ok (.iload_n 1, 1) := by decide +kernel
theorem dX1_isOf_5 : decode cX1_isOf 5 = .ok (.bipush 20, 2) := by decide +kernel
theorem dX1_isOf_7 : decode cX1_isOf 7 = .ok (.if_icmp .ge 38, 3) := by decide +kernel
theorem dX1_isOf_10 : decode cX1_isOf 10 = .ok (.aload_n 0, 1) := by decide +kernel
theorem dX1_isOf_11 : decode cX1_isOf 11 = .ok (.getfield 9, 3) := by decide +kernel
theorem dX1_isOf_14 : decode cX1_isOf 14 = .ok (.iload_n 1, 1) := by decide +kernel
theorem dX1_isOf_15 : decode cX1_isOf 15 = .ok (.iaload, 1) := by decide +kernel
theorem dX1_isOf_16 : decode cX1_isOf 16 = .ok (.iload_n 2, 1) := by decide +kernel
theorem dX1_isOf_17 : decode cX1_isOf 17 = .ok (.if_icmp .ne 28, 3) := by decide +kernel
theorem dX1_isOf_20 : decode cX1_isOf 20 = .ok (.aload_n 0, 1) := by decide +kernel
theorem dX1_isOf_21 : decode cX1_isOf 21 = .ok (.getfield 15, 3) := by decide +kernel
theorem dX1_isOf_24 : decode cX1_isOf 24 = .ok (.iload_n 1, 1) := by decide +kernel
theorem dX1_isOf_25 : decode cX1_isOf 25 = .ok (.iaload, 1) := by decide +kernel
theorem dX1_isOf_26 : decode cX1_isOf 26 = .ok (.iload_n 3, 1) := by decide +kernel
theorem dX1_isOf_27 : decode cX1_isOf 27 = .ok (.if_icmp .ne 18, 3) := by decide +kernel
theorem dX1_isOf_30 : decode cX1_isOf 30 = .ok (.aload_n 0, 1) := by decide +kernel
theorem dX1_isOf_31 : decode cX1_isOf 31 = .ok (.getfield 18, 3) := by decide +kernel
theorem dX1_isOf_34 : decode cX1_isOf 34 = .ok (.iload_n 1, 1) := by decide +kernel
theorem dX1_isOf_35 : decode cX1_isOf 35 = .ok (.iaload, 1) := by decide +kernel
theorem dX1_isOf_36 : decode cX1_isOf 36 = .ok (.iload 4, 2) := by decide +kernel
theorem dX1_isOf_38 : decode cX1_isOf 38 = .ok (.if_icmp .ne 7, 3) := by decide +kernel
theorem dX1_isOf_41 : decode cX1_isOf 41 = .ok (.iconst 1, 1) := by decide +kernel
theorem dX1_isOf_42 : decode cX1_isOf 42 = .ok (.goto 4, 3) := by decide +kernel
theorem dX1_isOf_45 : decode cX1_isOf 45 = .ok (.iconst 0, 1) := by decide +kernel
theorem dX1_isOf_46 : decode cX1_isOf 46 = .ok (.ireturn, 1) := by decide +kernel
theorem dX2_init_0 : decode cX2_init 0 = .ok (.aload_n 0, 1) := by decide +kernel
theorem dX2_init_1 : decode cX2_init 1 = .ok (.invokespecial 3, 3) := by decide +kernel
theorem dX2_init_4 : decode cX2_init 4 = .ok (.aload_n 0, 1) := by decide +kernel
theorem dX2_init_5 : decode cX2_init 5 = .ok (.bipush 50, 2) := by decide +kernel
theorem dX2_init_7 : decode cX2_init 7 = .ok (.newarray .int, 2) := by decide +kernel
theorem dX2_init_9 : decode cX2_init 9 = .ok (.putfield 11, 3) := by decide +kernel
theorem dX2_init_12 : decode cX2_init 12 = .ok (.aload_n 0, 1) := by decide +kernel
theorem dX2_init_13 : decode cX2_init 13 = .ok (.bipush 50, 2) := by decide +kernel
theorem dX2_init_15 : decode cX2_init 15 = .ok (.newarray .int, 2) := by decide +kernel
theorem dX2_init_17 : decode cX2_init 17 = .ok (.putfield 15, 3) := by decide +kernel
theorem dX2_init_20 : decode cX2_init 20 = .ok (.aload_n 0, 1) := by decide +kernel
theorem dX2_init_21 : decode cX2_init 21 = .ok (.bipush 50, 2) := by decide +kernel
theorem dX2_init_23 : decode cX2_init 23 = .ok (.newarray .int, 2) := by decide +kernel
theorem dX2_init_25 : decode cX2_init 25 = .ok (.putfield 18, 3) := by decide +kernel
theorem dX2_init_28 : decode cX2_init 28 = .ok (.aload_n 0, 1) := by decide +kernel
theorem dX2_init_29 : decode cX2_init 29 = .ok (.aload_n 1, 1) := by decide +kernel
theorem dX2_init_30 : decode cX2_init 30 = .ok (.putfield 21, 3) := by decide +kernel
theorem dX2_init_33 : decode cX2_init 33 = .ok (.return_, 1) := by decide +kernel
theorem dX2_gather_0 : decode cX2_gather 0 = .ok (.aload_n 0, 1) := by decide +kernel
theorem dX2_gather_1 : decode cX2_gather 1 = .ok (.iconst 0, 1) := by decide +kernel
theorem dX2_gather_2 : decode cX2_gather 2 = .ok (.putfield 25, 3) := by decide +kernel
theorem dX2_gather_5 : decode cX2_gather 5 = .ok (.iload_n 3, 1) := by decide +kernel
theorem dX2_gather_6 : decode cX2_gather 6 = .ok (.iconst 5, 1) := by decide +kernel
theorem dX2_gather_7 : decode cX2_gather 7 = .ok (.imul, 1) := by decide +kernel
theorem dX2_gather_8 : decode cX2_gather 8 = .ok (.istore 5, 2) := by decide +kernel
theorem dX2_gather_10 : decode cX2_gather 10 = .ok (.iload_n 3, 1) := by decide +kernel
theorem dX2_gather_11 : decode cX2_gather 11 = .ok (.sipush 500, 3) := by decide +kernel
theorem dX2_gather_14 : decode cX2_gather 14 = .ok (.imul, 1) := by decide +kernel
theorem dX2_gather_15 : decode cX2_gather 15 = .ok (.istore 6, 2) := by decide +kernel
theorem dX2_gather_17 : decode cX2_gather 17 = .ok (.iconst 0, 1) := by decide +kernel
theorem dX2_gather_18 : decode cX2_gather 18 = .ok (.istore 7, 2) := by decide +kernel
theorem dX2_gather_20 : decode cX2_gather 20 = .ok (.iload 7, 2) := by decide +kernel
theorem dX2_gather_22 : decode cX2_gather 22 = .ok (.aload_n 0, 1) := by decide +kernel
theorem dX2_gather_23 : decode cX2_gather 23 = .ok (.getfield 21, 3) := by decide +kernel
theorem dX2_gather_26 : decode cX2_gather 26 = .ok (.getfield 29, 3) := by decide +kernel
theorem dX2_gather_29 : decode cX2_gather 29 = .ok (.if_icmp .ge 97, 3) := by decide +kernel
theorem dX2_gather_32 : decode cX2_gather 32 = .ok (.iload 5, 2) := by decide +kernel
theorem dX2_gather_34 : decode cX2_gather 34 = .ok (.iconst 5, 1) := by decide +kernel
theorem dX2_gather_35 : decode cX2_gather 35 = .ok (.isub, 1) := by decide +kernel
theorem dX2_gather_36 : decode cX2_gather 36 = .ok (.istore 8, 2) := by decide +kernel
theorem dX2_gather_38 : decode cX2_gather 38 = .ok (.iload 8, 2) := by decide +kernel
theorem dX2_gather_40 : decode cX2_gather 40 = .ok (.iload 5, 2) := by decide +kernel
theorem dX2_gather_42 : decode cX2_gather 42 = .ok (.if_icmp .ge 78, 3) := by decide +kernel
theorem dX2_gather_45 : decode cX2_gather 45 = .ok (.iload 7, 2) := by decide +kernel
theorem dX2_gather_47 : decode cX2_gather 47 = .ok (.iload_n 1, 1) := by decide +kernel
theorem dX2_gather_48 : decode cX2_gather 48 = .ok (.if_icmp .eq 72, 3) := by decide +kernel
theorem dX2_gather_51 : decode cX2_gather 51 = .ok (.aload_n 0, 1) := by decide +kernel
theorem dX2_gather_52 : decode cX2_gather 52 = .ok (.getfield 21, 3) := by decide +kernel
theorem dX2_gather_55 : decode cX2_gather 55 = .ok (.getfield 34, 3) := by decide +kernel
theorem dX2_gather_58 : decode cX2_gather 58 = .ok (.iload 7, 2) := by decide +kernel
theorem dX2_gather_60 : decode cX2_gather 60 = .ok (.iload 8, 2) := by decide +kernel
theorem dX2_gather_62 : decode cX2_gather 62 = .ok (.iload 4, 2) := by decide +kernel
theorem dX2_gather_64 : decode cX2_gather 64 = .ok (.iload 6, 2) := by decide +kernel
theorem dX2_gather_66 : decode cX2_gather 66 = .ok (.invokevirtual 38, 3) := by decide +kernel
theorem dX2_gather_69 : decode cX2_gather 69 = .ok (.istore 9, 2) := by decide +kernel
theorem dX2_gather_71 : decode cX2_gather 71 = .ok (.aload_n 0, 1) := by decide +kernel
theorem dX2_gather_72 : decode cX2_gather 72 = .ok (.getfield 21, 3) := by decide +kernel
theorem dX2_gather_75 : decode cX2_gather 75 = .ok (.getfield 34, 3) := by decide +kernel
theorem dX2_gather_78 : decode cX2_gather 78 = .ok (.iload 7, 2) := by decide +kernel
theorem dX2_gather_80 : decode cX2_gather 80 = .ok (.iload 8, 2) := by decide +kernel
theorem dX2_gather_82 : decode cX2_gather 82 = .ok (.iconst 3, 1) := by decide +kernel
theorem dX2_gather_83 : decode cX2_gather 83 = .ok (.iload_n 2, 1) := by decide +kernel
theorem dX2_gather_84 : decode cX2_gather 84 = .ok (.iadd, 1) := by decide +kernel
theorem dX2_gather_85 : decode cX2_gather 85 = .ok (.iload 6, 2) := by decide +kernel
theorem dX2_gather_87 : decode cX2_gather 87 = .ok (.invokevirtual 38, 3) := by decide +kernel
theorem dX2_gather_90 : decode cX2_gather 90 = .ok (.istore 10, 2) := by decide +kernel
theorem dX2_gather_92 : decode cX2_gather 92 = .ok (.iload 9, 2) := by decide +kernel
theorem dX2_gather_94 : decode cX2_gather 94 = .ok (.iconst (-1), 1) := by decide +kernel
theorem dX2_gather_95 : decode cX2_gather 95 = .ok (.if_icmp .eq 19, 3) := by decide +kernel
theorem dX2_gather_98 : decode cX2_gather 98 = .ok (.iload 10, 2) := by decide +kernel
theorem dX2_gather_100 : decode cX2_gather 100 = .ok (.iconst (-1), 1) := by decide +kernel
theorem dX2_gather_101 : decode cX2_gather 101 = .ok (.if_icmp .eq 13, 3) := by decide +kernel
theorem dX2_gather_104 : decode cX2_gather 104 = .ok (.aload_n 0, 1) := by decide +kernel
theorem dX2_gather_105 : decode cX2_gather 105 = .ok (.iload 7, 2) := by decide +kernel
theorem dX2_gather_107 : decode cX2_gather 107 = .ok (.iload 9, 2) := by decide +kernel
theorem dX2_gather_109 : decode cX2_gather 109 = .ok (.iload 10, 2) := by decide +kernel
theorem dX2_gather_111 : decode cX2_gather 111 = .ok (.invokevirtual 44, 3) := by decide +kernel
theorem dX2_gather_114 : decode cX2_gather 114 = .ok (.iinc 8 1, 3) := by decide +kernel
theorem dX2_gather_117 : decode cX2_gather 117 = .ok (.goto (-79), 3) := by decide +kernel
theorem dX2_gather_120 : decode cX2_gather 120 = .ok (.iinc 7 1, 3) := by decide +kernel
theorem dX2_gather_123 : decode cX2_gather 123 = .ok (.goto (-103), 3) := by decide +kernel
theorem dX2_gather_126 : decode cX2_gather 126 = .ok (.aload_n 0, 1) := by decide +kernel
theorem dX2_gather_127 : decode cX2_gather 127 = .ok (.iconst (-1), 1) := by decide +kernel
theorem dX2_gather_128 : decode cX2_gather 128 = .ok (.invokevirtual 48, 3) := by decide +kernel
theorem dX2_gather_131 : decode cX2_gather 131 = .ok (.return_, 1) := by decide +kernel
theorem dX2_add_0 : decode cX2_add 0 = .ok (.aload_n 0, 1) := by decide +kernel
theorem dX2_add_1 : decode cX2_add 1 = .ok (.getfield 25, 3) := by decide +kernel
theorem dX2_add_4 : decode cX2_add 4 = .ok (.bipush 50, 2) := by decide +kernel
theorem dX2_add_6 : decode cX2_add 6 = .ok (.if_icmp .ge 43, 3) := by decide +kernel
theorem dX2_add_9 : decode cX2_add 9 = .ok (.aload_n 0, 1) := by decide +kernel
theorem dX2_add_10 : decode cX2_add 10 = .ok (.getfield 11, 3) := by decide +kernel
theorem dX2_add_13 : decode cX2_add 13 = .ok (.aload_n 0, 1) := by decide +kernel
theorem dX2_add_14 : decode cX2_add 14 = .ok (.getfield 25, 3) := by decide +kernel
theorem dX2_add_17 : decode cX2_add 17 = .ok (.iload_n 1, 1) := by decide +kernel
theorem dX2_add_18 : decode cX2_add 18 = .ok (.iastore, 1) := by decide +kernel
theorem dX2_add_19 : decode cX2_add 19 = .ok (.aload_n 0, 1) := by decide +kernel
theorem dX2_add_20 : decode cX2_add 20 = .ok (.getfield 15, 3) := by decide +kernel
theorem dX2_add_23 : decode cX2_add 23 = .ok (.aload_n 0, 1) := by decide +kernel
theorem dX2_add_24 : decode cX2_add 24 = .ok (.getfield 25, 3) := by decide +kernel
theorem dX2_add_27 : decode cX2_add 27 = .ok (.iload_n 2, 1) := by decide +kernel
theorem dX2_add_28 : decode cX2_add 28 = .ok (.iastore, 1) := by decide +kernel
theorem dX2_add_29 : decode cX2_add 29 = .ok (.aload_n 0, 1) := by decide +kernel
theorem dX2_add_30 : decode cX2_add 30 = .ok (.getfield 18, 3) := by decide +kernel
theorem dX2_add_33 : decode cX2_add 33 = .ok (.aload_n 0, 1) := by decide +kernel
theorem dX2_add_34 : decode cX2_add 34 = .ok (.getfield 25, 3) := by decide +kernel
theorem dX2_add_37 : decode cX2_add 37 = .ok (.iload_n 3, 1) := by decide +kernel
theorem dX2_add_38 : decode cX2_add 38 = .ok (.iastore, 1) := by decide +kernel
theorem dX2_add_39 : decode cX2_add 39 = .ok (.aload_n 0, 1) := by decide +kernel
theorem dX2_add_40 : decode cX2_add 40 = .ok (.dup, 1) := by decide +kernel
theorem dX2_add_41 : decode cX2_add 41 = .ok (.getfield 25, 3) := by decide +kernel
theorem dX2_add_44 : decode cX2_add 44 = .ok (.iconst 1, 1) := by decide +kernel
theorem dX2_add_45 : decode cX2_add 45 = .ok (.iadd, 1) := by decide +kernel
theorem dX2_add_46 : decode cX2_add 46 = .ok (.putfield 25, 3) := by decide +kernel
theorem dX2_add_49 : decode cX2_add 49 = .ok (.return_, 1) := by decide +kernel
theorem dX2_addUp_0 : decode cX2_addUp 0 = .ok (.aload_n 0, 1) := by decide +kernel
theorem dX2_addUp_1 : decode cX2_addUp 1 = .ok (.lconst 0, 1) := by decide +kernel
theorem dX2_addUp_2 : decode cX2_addUp 2 = .ok (.putfield 52, 3) := by decide +kernel
theorem dX2_addUp_5 : decode cX2_addUp 5 = .ok (.aload_n 0, 1) := by decide +kernel
theorem dX2_addUp_6 : decode cX2_addUp 6 = .ok (.lconst 0, 1) := by decide +kernel
theorem dX2_addUp_7 : decode cX2_addUp 7 = .ok (.putfield 56, 3) := by decide +kernel
theorem dX2_addUp_10 : decode cX2_addUp 10 = .ok (.aload_n 0, 1) := by decide +kernel
theorem dX2_addUp_11 : decode cX2_addUp 11 = .ok (.lconst 0, 1) := by decide +kernel
theorem dX2_addUp_12 : decode cX2_addUp 12 = .ok (.putfield 59, 3) := by decide +kernel
theorem dX2_addUp_15 : decode cX2_addUp 15 = .ok (.aload_n 0, 1) := by decide +kernel
theorem dX2_addUp_16 : decode cX2_addUp 16 = .ok (.lconst 0, 1) := by decide +kernel
theorem dX2_addUp_17 : decode cX2_addUp 17 = .ok (.putfield 62, 3) := by decide +kernel
theorem dX2_addUp_20 : decode cX2_addUp 20 = .ok (.aload_n 0, 1) := by decide +kernel
theorem dX2_addUp_21 : decode cX2_addUp 21 = .ok (.lconst 0, 1) := by decide +kernel
theorem dX2_addUp_22 : decode cX2_addUp 22 = .ok (.putfield 65, 3) := by decide +kernel
theorem dX2_addUp_25 : decode cX2_addUp 25 = .ok (.iconst 0, 1) := by decide +kernel
theorem dX2_addUp_26 : decode cX2_addUp 26 = .ok (.istore_n 2, 1) := by decide +kernel
theorem dX2_addUp_27 : decode cX2_addUp 27 = .ok (.iload_n 2, 1) := by decide +kernel
theorem dX2_addUp_28 : decode cX2_addUp 28 = .ok (.aload_n 0, 1) := by decide +kernel
theorem dX2_addUp_29 : decode cX2_addUp 29 = .ok (.getfield 25, 3) := by decide +kernel
theorem dX2_addUp_32 : decode cX2_addUp 32 = .ok (.if_icmp .ge 101, 3) := by decide +kernel
theorem dX2_addUp_35 : decode cX2_addUp 35 = .ok (.iload_n 2, 1) := by decide +kernel
theorem dX2_addUp_36 : decode cX2_addUp 36 = .ok (.bipush 50, 2) := by decide +kernel
theorem dX2_addUp_38 : decode cX2_addUp 38 = .ok (.if_icmp .ge 95, 3) := by decide +kernel
theorem dX2_addUp_41 : decode cX2_addUp 41 = .ok (.aload_n 0, 1) := by decide +kernel
theorem dX2_addUp_42 : decode cX2_addUp 42 = .ok (.getfield 11, 3) := by decide +kernel
theorem dX2_addUp_45 : decode cX2_addUp 45 = .ok (.iload_n 2, 1) := by decide +kernel
theorem dX2_addUp_46 : decode cX2_addUp 46 = .ok (.iaload, 1) := by decide +kernel
theorem dX2_addUp_47 : decode cX2_addUp 47 = .ok (.iload_n 1, 1) := by decide +kernel
theorem dX2_addUp_48 : decode cX2_addUp 48 = .ok (.if_icmp .ne 6, 3) := by decide +kernel
theorem dX2_addUp_51 : decode cX2_addUp 51 = .ok (.goto 76, 3) := by decide +kernel
theorem dX2_addUp_54 : decode cX2_addUp 54 = .ok (.aload_n 0, 1) := by decide +kernel
theorem dX2_addUp_55 : decode cX2_addUp 55 = .ok (.getfield 15, 3) := by decide +kernel
theorem dX2_addUp_58 : decode cX2_addUp 58 = .ok (.iload_n 2, 1) := by decide +kernel
theorem dX2_addUp_59 : decode cX2_addUp 59 = .ok (.iaload, 1) := by decide +kernel
theorem dX2_addUp_60 : decode cX2_addUp 60 = .ok (.i2l, 1) := by decide +kernel
theorem dX2_addUp_61 : decode cX2_addUp 61 = .ok (.lstore_n 3, 1) := by decide +kernel
theorem dX2_addUp_62 : decode cX2_addUp 62 = .ok (.aload_n 0, 1) := by decide +kernel
theorem dX2_addUp_63 : decode cX2_addUp 63 = .ok (.getfield 18, 3) := by decide +kernel
theorem dX2_addUp_66 : decode cX2_addUp 66 = .ok (.iload_n 2, 1) := by decide +kernel
theorem dX2_addUp_67 : decode cX2_addUp 67 = .ok (.iaload, 1) := by decide +kernel
theorem dX2_addUp_68 : decode cX2_addUp 68 = .ok (.i2l, 1) := by decide +kernel
theorem dX2_addUp_69 : decode cX2_addUp 69 = .ok (.lstore 5, 2) := by decide +kernel
theorem dX2_addUp_71 : decode cX2_addUp 71 = .ok (.aload_n 0, 1) := by decide +kernel
theorem dX2_addUp_72 : decode cX2_addUp 72 = .ok (.dup, 1) := by decide +kernel
theorem dX2_addUp_73 : decode cX2_addUp 73 = .ok (.getfield 52, 3) := by decide +kernel
theorem dX2_addUp_76 : decode cX2_addUp 76 = .ok (.lconst 1, 1) := by decide +kernel
theorem dX2_addUp_77 : decode cX2_addUp 77 = .ok (.ladd, 1) := by decide +kernel
theorem dX2_addUp_78 : decode cX2_addUp 78 = .ok (.putfield 52, 3) := by decide +kernel
theorem dX2_addUp_81 : decode cX2_addUp 81 = .ok (.aload_n 0, 1) := by decide +kernel
theorem dX2_addUp_82 : decode cX2_addUp 82 = .ok (.dup, 1) := by decide +kernel
theorem dX2_addUp_83 : decode cX2_addUp 83 = .ok (.getfield 56, 3) := by decide +kernel
theorem dX2_addUp_86 : decode cX2_addUp 86 = .ok (.lload_n 3, 1) := by decide +kernel
theorem dX2_addUp_87 : decode cX2_addUp 87 = .ok (.ladd, 1) := by decide +kernel
theorem dX2_addUp_88 : decode cX2_addUp 88 = .ok (.putfield 56, 3) := by decide +kernel
theorem dX2_addUp_91 : decode cX2_addUp 91 = .ok (.aload_n 0, 1) := by decide +kernel
theorem dX2_addUp_92 : decode cX2_addUp 92 = .ok (.dup, 1) := by decide +kernel
theorem dX2_addUp_93 : decode cX2_addUp 93 = .ok (.getfield 59, 3) := by decide +kernel
theorem dX2_addUp_96 : decode cX2_addUp 96 = .ok (.lload 5, 2) := by decide +kernel
theorem dX2_addUp_98 : decode cX2_addUp 98 = .ok (.ladd, 1) := by decide +kernel
theorem dX2_addUp_99 : decode cX2_addUp 99 = .ok (.putfield 59, 3) := by decide +kernel
theorem dX2_addUp_102 : decode cX2_addUp 102 = .ok (.aload_n 0, 1) := by decide +kernel
theorem dX2_addUp_103 : decode cX2_addUp 103 = .ok (.dup, 1) := by decide +kernel
theorem dX2_addUp_104 : decode cX2_addUp 104 = .ok (.getfield 62, 3) := by decide +kernel
theorem dX2_addUp_107 : decode cX2_addUp 107 = .ok (.lload_n 3, 1) := by decide +kernel
theorem dX2_addUp_108 : decode cX2_addUp 108 = .ok (.lload_n 3, 1) := by decide +kernel
theorem dX2_addUp_109 : decode cX2_addUp 109 = .ok (.lmul, 1) := by decide +kernel
theorem dX2_addUp_110 : decode cX2_addUp 110 = .ok (.ladd, 1) := by decide +kernel
theorem dX2_addUp_111 : decode cX2_addUp 111 = .ok (.putfield 62, 3) := by decide +kernel
theorem dX2_addUp_114 : decode cX2_addUp 114 = .ok (.aload_n 0, 1) := by decide +kernel
theorem dX2_addUp_115 : decode cX2_addUp 115 = .ok (.dup, 1) := by decide +kernel
theorem dX2_addUp_116 : decode cX2_addUp 116 = .ok (.getfield 65, 3) := by decide +kernel
theorem dX2_addUp_119 : decode cX2_addUp 119 = .ok (.lload_n 3, 1) := by decide +kernel
theorem dX2_addUp_120 : decode cX2_addUp 120 = .ok (.lload 5, 2) := by decide +kernel
theorem dX2_addUp_122 : decode cX2_addUp 122 = .ok (.lmul, 1) := by decide +kernel
theorem dX2_addUp_123 : decode cX2_addUp 123 = .ok (.ladd, 1) := by decide +kernel
theorem dX2_addUp_124 : decode cX2_addUp 124 = .ok (.putfield 65, 3) := by decide +kernel
theorem dX2_addUp_127 : decode cX2_addUp 127 = .ok (.iinc 2 1, 3) := by decide +kernel
theorem dX2_addUp_130 : decode cX2_addUp 130 = .ok (.goto (-103), 3) := by decide +kernel
theorem dX2_addUp_133 : decode cX2_addUp 133 = .ok (.return_, 1) := by decide +kernel
theorem dX2_lineTells_0 : decode cX2_lineTells 0 = .ok (.aload_n 0, 1) := by decide +kernel
theorem dX2_lineTells_1 : decode cX2_lineTells 1 = .ok (.getfield 52, 3) := by decide +kernel
theorem dX2_lineTells_4 : decode cX2_lineTells 4 = .ok (.aload_n 0, 1) := by decide +kernel
theorem dX2_lineTells_5 : decode cX2_lineTells 5 = .ok (.getfield 62, 3) := by decide +kernel
theorem dX2_lineTells_8 : decode cX2_lineTells 8 = .ok (.lmul, 1) := by decide +kernel
theorem dX2_lineTells_9 : decode cX2_lineTells 9 = .ok (.aload_n 0, 1) := by decide +kernel
theorem dX2_lineTells_10 : decode cX2_lineTells 10 = .ok (.getfield 56, 3) := by decide +kernel
theorem dX2_lineTells_13 : decode cX2_lineTells 13 = .ok (.aload_n 0, 1) := by decide +kernel
theorem dX2_lineTells_14 : decode cX2_lineTells 14 = .ok (.getfield 56, 3) := by decide +kernel
theorem dX2_lineTells_17 : decode cX2_lineTells 17 = .ok (.lmul, 1) := by decide +kernel
theorem dX2_lineTells_18 : decode cX2_lineTells 18 = .ok (.lsub, 1) := by decide +kernel
theorem dX2_lineTells_19 : decode cX2_lineTells 19 = .ok (.lstore_n 3, 1) := by decide +kernel
theorem dX2_lineTells_20 : decode cX2_lineTells 20 = .ok (.lload_n 3, 1) := by decide +kernel
theorem dX2_lineTells_21 : decode cX2_lineTells 21 = .ok (.lconst 0, 1) := by decide +kernel
theorem dX2_lineTells_22 : decode cX2_lineTells 22 = .ok (.lcmp, 1) := by decide +kernel
theorem dX2_lineTells_23 : decode cX2_lineTells 23 = .ok (.ifCond .ne 9, 3) := by decide +kernel
theorem dX2_lineTells_26 : decode cX2_lineTells 26 = .ok (.aload_n 0, 1) := by decide +kernel
theorem dX2_lineTells_27 : decode cX2_lineTells 27 = .ok (.lload_n 1, 1) := by decide +kernel
theorem dX2_lineTells_28 : decode cX2_lineTells 28 = .ok (.invokevirtual 68, 3) := by decide +kernel
theorem dX2_lineTells_31 : decode cX2_lineTells 31 = .ok (.lreturn, 1) := by decide +kernel
theorem dX2_lineTells_32 : decode cX2_lineTells 32 = .ok (.aload_n 0, 1) := by decide +kernel
theorem dX2_lineTells_33 : decode cX2_lineTells 33 = .ok (.getfield 52, 3) := by decide +kernel
theorem dX2_lineTells_36 : decode cX2_lineTells 36 = .ok (.aload_n 0, 1) := by decide +kernel
theorem dX2_lineTells_37 : decode cX2_lineTells 37 = .ok (.getfield 65, 3) := by decide +kernel
theorem dX2_lineTells_40 : decode cX2_lineTells 40 = .ok (.lmul, 1) := by decide +kernel
theorem dX2_lineTells_41 : decode cX2_lineTells 41 = .ok (.aload_n 0, 1) := by decide +kernel
theorem dX2_lineTells_42 : decode cX2_lineTells 42 = .ok (.getfield 56, 3) := by decide +kernel
theorem dX2_lineTells_45 : decode cX2_lineTells 45 = .ok (.aload_n 0, 1) := by decide +kernel
theorem dX2_lineTells_46 : decode cX2_lineTells 46 = .ok (.getfield 59, 3) := by decide +kernel
theorem dX2_lineTells_49 : decode cX2_lineTells 49 = .ok (.lmul, 1) := by decide +kernel
theorem dX2_lineTells_50 : decode cX2_lineTells 50 = .ok (.lsub, 1) := by decide +kernel
theorem dX2_lineTells_51 : decode cX2_lineTells 51 = .ok (.aload_n 0, 1) := by decide +kernel
theorem dX2_lineTells_52 : decode cX2_lineTells 52 = .ok (.getfield 52, 3) := by decide +kernel
theorem dX2_lineTells_55 : decode cX2_lineTells 55 = .ok (.lload_n 1, 1) := by decide +kernel
theorem dX2_lineTells_56 : decode cX2_lineTells 56 = .ok (.lmul, 1) := by decide +kernel
theorem dX2_lineTells_57 : decode cX2_lineTells 57 = .ok (.aload_n 0, 1) := by decide +kernel
theorem dX2_lineTells_58 : decode cX2_lineTells 58 = .ok (.getfield 56, 3) := by decide +kernel
theorem dX2_lineTells_61 : decode cX2_lineTells 61 = .ok (.lsub, 1) := by decide +kernel
theorem dX2_lineTells_62 : decode cX2_lineTells 62 = .ok (.lmul, 1) := by decide +kernel
theorem dX2_lineTells_63 : decode cX2_lineTells 63 = .ok (.lstore 5, 2) := by decide +kernel
theorem dX2_lineTells_65 : decode cX2_lineTells 65 = .ok (.aload_n 0, 1) := by decide +kernel
theorem dX2_lineTells_66 : decode cX2_lineTells 66 = .ok (.getfield 59, 3) := by decide +kernel
theorem dX2_lineTells_69 : decode cX2_lineTells 69 = .ok (.lload_n 3, 1) := by decide +kernel
theorem dX2_lineTells_70 : decode cX2_lineTells 70 = .ok (.lmul, 1) := by decide +kernel
theorem dX2_lineTells_71 : decode cX2_lineTells 71 = .ok (.lload 5, 2) := by decide +kernel
theorem dX2_lineTells_73 : decode cX2_lineTells 73 = .ok (.ladd, 1) := by decide +kernel
theorem dX2_lineTells_74 : decode cX2_lineTells 74 = .ok (.aload_n 0, 1) := by decide +kernel
theorem dX2_lineTells_75 : decode cX2_lineTells 75 = .ok (.getfield 52, 3) := by decide +kernel
theorem dX2_lineTells_78 : decode cX2_lineTells 78 = .ok (.lload_n 3, 1) := by decide +kernel
theorem dX2_lineTells_79 : decode cX2_lineTells 79 = .ok (.lmul, 1) := by decide +kernel
theorem dX2_lineTells_80 : decode cX2_lineTells 80 = .ok (.invokestatic 72, 3) := by decide +kernel
theorem dX2_lineTells_83 : decode cX2_lineTells 83 = .ok (.lreturn, 1) := by decide +kernel
theorem dX2_meanTells_0 : decode cX2_meanTells 0 = .ok (.aload_n 0, 1) := by decide +kernel
theorem dX2_meanTells_1 : decode cX2_meanTells 1 = .ok (.getfield 59, 3) := by decide +kernel
theorem dX2_meanTells_4 : decode cX2_meanTells 4 = .ok (.lload_n 1, 1) := by decide +kernel
theorem dX2_meanTells_5 : decode cX2_meanTells 5 = .ok (.lmul, 1) := by decide +kernel
theorem dX2_meanTells_6 : decode cX2_meanTells 6 = .ok (.aload_n 0, 1) := by decide +kernel
theorem dX2_meanTells_7 : decode cX2_meanTells 7 = .ok (.getfield 56, 3) := by decide +kernel
theorem dX2_meanTells_10 : decode cX2_meanTells 10 = .ok (.invokestatic 72, 3) := by decide +kernel
theorem dX2_meanTells_13 : decode cX2_meanTells 13 = .ok (.lreturn, 1) := by decide +kernel
theorem dX2_bestTells_0 : decode cX2_bestTells 0 = .ok (.iconst (-1), 1) := by decide +kernel
theorem dX2_bestTells_1 : decode cX2_bestTells 1 = .ok (.istore_n 3, 1) := by decide +kernel
theorem dX2_bestTells_2 : decode cX2_bestTells 2 = .ok (.iconst 0, 1) := by decide +kernel
theorem dX2_bestTells_3 : decode cX2_bestTells 3 = .ok (.istore 4, 2) := by decide +kernel
theorem dX2_bestTells_5 : decode cX2_bestTells 5 = .ok (.iload 4, 2) := by decide +kernel
theorem dX2_bestTells_7 : decode cX2_bestTells 7 = .ok (.aload_n 0, 1) := by decide +kernel
theorem dX2_bestTells_8 : decode cX2_bestTells 8 = .ok (.getfield 25, 3) := by decide +kernel
theorem dX2_bestTells_11 : decode cX2_bestTells 11 = .ok (.if_icmp .ge 70, 3) := by decide +kernel
theorem dX2_bestTells_14 : decode cX2_bestTells 14 = .ok (.iload 4, 2) := by decide +kernel
theorem dX2_bestTells_16 : decode cX2_bestTells 16 = .ok (.bipush 50, 2) := by decide +kernel
theorem dX2_bestTells_18 : decode cX2_bestTells 18 = .ok (.if_icmp .ge 63, 3) := by decide +kernel
theorem dX2_bestTells_21 : decode cX2_bestTells 21 = .ok (.aload_n 0, 1) := by decide +kernel
theorem dX2_bestTells_22 : decode cX2_bestTells 22 = .ok (.getfield 15, 3) := by decide +kernel
theorem dX2_bestTells_25 : decode cX2_bestTells 25 = .ok (.iload 4, 2) := by decide +kernel
theorem dX2_bestTells_27 : decode cX2_bestTells 27 = .ok (.iaload, 1) := by decide +kernel
theorem dX2_bestTells_28 : decode cX2_bestTells 28 = .ok (.ifCond .le 47, 3) := by decide +kernel
theorem dX2_bestTells_31 : decode cX2_bestTells 31 = .ok (.iload_n 3, 1) := by decide +kernel
theorem dX2_bestTells_32 : decode cX2_bestTells 32 = .ok (.iconst (-1), 1) := by decide +kernel
theorem dX2_bestTells_33 : decode cX2_bestTells 33 = .ok (.if_icmp .eq 39, 3) := by decide +kernel
theorem dX2_bestTells_36 : decode cX2_bestTells 36 = .ok (.aload_n 0, 1) := by decide +kernel
theorem dX2_bestTells_37 : decode cX2_bestTells 37 = .ok (.getfield 18, 3) := by decide +kernel
theorem dX2_bestTells_40 : decode cX2_bestTells 40 = .ok (.iload 4, 2) := by decide +kernel
theorem dX2_bestTells_42 : decode cX2_bestTells 42 = .ok (.iaload, 1) := by decide +kernel
theorem dX2_bestTells_43 : decode cX2_bestTells 43 = .ok (.i2l, 1) := by decide +kernel
theorem dX2_bestTells_44 : decode cX2_bestTells 44 = .ok (.aload_n 0, 1) := by decide +kernel
theorem dX2_bestTells_45 : decode cX2_bestTells 45 = .ok (.getfield 15, 3) := by decide +kernel
theorem dX2_bestTells_48 : decode cX2_bestTells 48 = .ok (.iload_n 3, 1) := by decide +kernel
theorem dX2_bestTells_49 : decode cX2_bestTells 49 = .ok (.iaload, 1) := by decide +kernel
theorem dX2_bestTells_50 : decode cX2_bestTells 50 = .ok (.i2l, 1) := by decide +kernel
theorem dX2_bestTells_51 : decode cX2_bestTells 51 = .ok (.lmul, 1) := by decide +kernel
theorem dX2_bestTells_52 : decode cX2_bestTells 52 = .ok (.aload_n 0, 1) := by decide +kernel
theorem dX2_bestTells_53 : decode cX2_bestTells 53 = .ok (.getfield 18, 3) := by decide +kernel
theorem dX2_bestTells_56 : decode cX2_bestTells 56 = .ok (.iload_n 3, 1) := by decide +kernel
theorem dX2_bestTells_57 : decode cX2_bestTells 57 = .ok (.iaload, 1) := by decide +kernel
theorem dX2_bestTells_58 : decode cX2_bestTells 58 = .ok (.i2l, 1) := by decide +kernel
theorem dX2_bestTells_59 : decode cX2_bestTells 59 = .ok (.aload_n 0, 1) := by decide +kernel
theorem dX2_bestTells_60 : decode cX2_bestTells 60 = .ok (.getfield 15, 3) := by decide +kernel
theorem dX2_bestTells_63 : decode cX2_bestTells 63 = .ok (.iload 4, 2) := by decide +kernel
theorem dX2_bestTells_65 : decode cX2_bestTells 65 = .ok (.iaload, 1) := by decide +kernel
theorem dX2_bestTells_66 : decode cX2_bestTells 66 = .ok (.i2l, 1) := by decide +kernel
theorem dX2_bestTells_67 : decode cX2_bestTells 67 = .ok (.lmul, 1) := by decide +kernel
theorem dX2_bestTells_68 : decode cX2_bestTells 68 = .ok (.lcmp, 1) := by decide +kernel
theorem dX2_bestTells_69 : decode cX2_bestTells 69 = .ok (.ifCond .ge 6, 3) := by decide +kernel
theorem dX2_bestTells_72 : decode cX2_bestTells 72 = .ok (.iload 4, 2) := by decide +kernel
theorem dX2_bestTells_74 : decode cX2_bestTells 74 = .ok (.istore_n 3, 1) := by decide +kernel
theorem dX2_bestTells_75 : decode cX2_bestTells 75 = .ok (.iinc 4 1, 3) := by decide +kernel
theorem dX2_bestTells_78 : decode cX2_bestTells 78 = .ok (.goto (-73), 3) := by decide +kernel
theorem dX2_bestTells_81 : decode cX2_bestTells 81 = .ok (.iload_n 3, 1) := by decide +kernel
theorem dX2_bestTells_82 : decode cX2_bestTells 82 = .ok (.iconst (-1), 1) := by decide +kernel
theorem dX2_bestTells_83 : decode cX2_bestTells 83 = .ok (.if_icmp .ne 7, 3) := by decide +kernel
theorem dX2_bestTells_86 : decode cX2_bestTells 86 = .ok (.lconst 0, 1) := by decide +kernel
theorem dX2_bestTells_87 : decode cX2_bestTells 87 = .ok (.goto 22, 3) := by decide +kernel
theorem dX2_bestTells_90 : decode cX2_bestTells 90 = .ok (.aload_n 0, 1) := by decide +kernel
theorem dX2_bestTells_91 : decode cX2_bestTells 91 = .ok (.getfield 18, 3) := by decide +kernel
theorem dX2_bestTells_94 : decode cX2_bestTells 94 = .ok (.iload_n 3, 1) := by decide +kernel
theorem dX2_bestTells_95 : decode cX2_bestTells 95 = .ok (.iaload, 1) := by decide +kernel
theorem dX2_bestTells_96 : decode cX2_bestTells 96 = .ok (.i2l, 1) := by decide +kernel
theorem dX2_bestTells_97 : decode cX2_bestTells 97 = .ok (.lload_n 1, 1) := by decide +kernel
theorem dX2_bestTells_98 : decode cX2_bestTells 98 = .ok (.lmul, 1) := by decide +kernel
theorem dX2_bestTells_99 : decode cX2_bestTells 99 = .ok (.aload_n 0, 1) := by decide +kernel
theorem dX2_bestTells_100 : decode cX2_bestTells 100 = .ok (.getfield 15, 3) := by decide +kernel
theorem dX2_bestTells_103 : decode cX2_bestTells 103 = .ok (.iload_n 3, 1) := by decide +kernel
theorem dX2_bestTells_104 : decode cX2_bestTells 104 = .ok (.iaload, 1) := by decide +kernel
theorem dX2_bestTells_105 : decode cX2_bestTells 105 = .ok (.i2l, 1) := by decide +kernel
theorem dX2_bestTells_106 : decode cX2_bestTells 106 = .ok (.invokestatic 72, 3) := by decide +kernel
theorem dX2_bestTells_109 : decode cX2_bestTells 109 = .ok (.lreturn, 1) := by decide +kernel
theorem dX3_init_0 : decode cX3_init 0 = .ok (.aload_n 0, 1) := by decide +kernel
theorem dX3_init_1 : decode cX3_init 1 = .ok (.invokespecial 3, 3) := by decide +kernel
theorem dX3_init_4 : decode cX3_init 4 = .ok (.aload_n 0, 1) := by decide +kernel
theorem dX3_init_5 : decode cX3_init 5 = .ok (.getstatic 9, 3) := by decide +kernel
theorem dX3_init_8 : decode cX3_init 8 = .ok (.putfield 13, 3) := by decide +kernel
theorem dX3_init_11 : decode cX3_init 11 = .ok (.aload_n 0, 1) := by decide +kernel
theorem dX3_init_12 : decode cX3_init 12 = .ok (.iconst (-1), 1) := by decide +kernel
theorem dX3_init_13 : decode cX3_init 13 = .ok (.putfield 18, 3) := by decide +kernel
theorem dX3_init_16 : decode cX3_init 16 = .ok (.aload_n 0, 1) := by decide +kernel
theorem dX3_init_17 : decode cX3_init 17 = .ok (.sipush 270, 3) := by decide +kernel
theorem dX3_init_20 : decode cX3_init 20 = .ok (.newarray .int, 2) := by decide +kernel
theorem dX3_init_22 : decode cX3_init 22 = .ok (.putfield 22, 3) := by decide +kernel
theorem dX3_init_25 : decode cX3_init 25 = .ok (.aload_n 0, 1) := by decide +kernel
theorem dX3_init_26 : decode cX3_init 26 = .ok (.bipush 30, 2) := by decide +kernel
theorem dX3_init_28 : decode cX3_init 28 = .ok (.anewarray 25, 3) := by decide +kernel
theorem dX3_init_31 : decode cX3_init 31 = .ok (.putfield 27, 3) := by decide +kernel
theorem dX3_init_34 : decode cX3_init 34 = .ok (.aload_n 0, 1) := by decide +kernel
theorem dX3_init_35 : decode cX3_init 35 = .ok (.sipush 900, 3) := by decide +kernel
theorem dX3_init_38 : decode cX3_init 38 = .ok (.newarray .int, 2) := by decide +kernel
theorem dX3_init_40 : decode cX3_init 40 = .ok (.putfield 31, 3) := by decide +kernel
theorem dX3_init_43 : decode cX3_init 43 = .ok (.return_, 1) := by decide +kernel
theorem dX3_read_0 : decode cX3_read 0 = .ok (.aload_n 0, 1) := by decide +kernel
theorem dX3_read_1 : decode cX3_read 1 = .ok (.aload_n 1, 1) := by decide +kernel
theorem dX3_read_2 : decode cX3_read 2 = .ok (.putfield 13, 3) := by decide +kernel
theorem dX3_read_5 : decode cX3_read 5 = .ok (.aload_n 0, 1) := by decide +kernel
theorem dX3_read_6 : decode cX3_read 6 = .ok (.iconst 0, 1) := by decide +kernel
theorem dX3_read_7 : decode cX3_read 7 = .ok (.iload_n 2, 1) := by decide +kernel
theorem dX3_read_8 : decode cX3_read 8 = .ok (.aload_n 1, 1) := by decide +kernel
theorem dX3_read_9 : decode cX3_read 9 = .ok (.arraylength, 1) := by decide +kernel
theorem dX3_read_10 : decode cX3_read 10 = .ok (.invokestatic 34, 3) := by decide +kernel
theorem dX3_read_13 : decode cX3_read 13 = .ok (.invokestatic 40, 3) := by decide +kernel
theorem dX3_read_16 : decode cX3_read 16 = .ok (.putfield 43, 3) := by decide +kernel
theorem dX3_read_19 : decode cX3_read 19 = .ok (.aload_n 0, 1) := by decide +kernel
theorem dX3_read_20 : decode cX3_read 20 = .ok (.iconst 0, 1) := by decide +kernel
theorem dX3_read_21 : decode cX3_read 21 = .ok (.putfield 46, 3) := by decide +kernel
theorem dX3_read_24 : decode cX3_read 24 = .ok (.aload_n 0, 1) := by decide +kernel
theorem dX3_read_25 : decode cX3_read 25 = .ok (.iconst (-1), 1) := by decide +kernel
theorem dX3_read_26 : decode cX3_read 26 = .ok (.putfield 18, 3) := by decide +kernel
theorem dX3_read_29 : decode cX3_read 29 = .ok (.aload_n 0, 1) := by decide +kernel
theorem dX3_read_30 : decode cX3_read 30 = .ok (.iconst 0, 1) := by decide +kernel
theorem dX3_read_31 : decode cX3_read 31 = .ok (.putfield 49, 3) := by decide +kernel
theorem dX3_read_34 : decode cX3_read 34 = .ok (.aload_n 0, 1) := by decide +kernel
theorem dX3_read_35 : decode cX3_read 35 = .ok (.getfield 22, 3) := by decide +kernel
theorem dX3_read_38 : decode cX3_read 38 = .ok (.iconst 0, 1) := by decide +kernel
theorem dX3_read_39 : decode cX3_read 39 = .ok (.invokestatic 52, 3) := by decide +kernel
theorem dX3_read_42 : decode cX3_read 42 = .ok (.aload_n 0, 1) := by decide +kernel
theorem dX3_read_43 : decode cX3_read 43 = .ok (.iconst 0, 1) := by decide +kernel
theorem dX3_read_44 : decode cX3_read 44 = .ok (.putfield 58, 3) := by decide +kernel
theorem dX3_read_47 : decode cX3_read 47 = .ok (.aload_n 0, 1) := by decide +kernel
theorem dX3_read_48 : decode cX3_read 48 = .ok (.invokevirtual 61, 3) := by decide +kernel
theorem dX3_read_51 : decode cX3_read 51 = .ok (.aload_n 0, 1) := by decide +kernel
theorem dX3_read_52 : decode cX3_read 52 = .ok (.ldc 64, 2) := by decide +kernel
theorem dX3_read_54 : decode cX3_read 54 = .ok (.invokevirtual 66, 3) := by decide +kernel
theorem dX3_read_57 : decode cX3_read 57 = .ok (.istore 4, 2) := by decide +kernel
theorem dX3_read_59 : decode cX3_read 59 = .ok (.iload 4, 2) := by decide +kernel
theorem dX3_read_61 : decode cX3_read 61 = .ok (.ifCond .eq 13, 3) := by decide +kernel
theorem dX3_read_64 : decode cX3_read 64 = .ok (.aload_n 0, 1) := by decide +kernel
theorem dX3_read_65 : decode cX3_read 65 = .ok (.invokevirtual 61, 3) := by decide +kernel
theorem dX3_read_68 : decode cX3_read 68 = .ok (.aload_n 0, 1) := by decide +kernel
theorem dX3_read_69 : decode cX3_read 69 = .ok (.bipush 59, 2) := by decide +kernel
theorem dX3_read_71 : decode cX3_read 71 = .ok (.invokevirtual 70, 3) := by decide +kernel
theorem dX3_read_74 : decode cX3_read 74 = .ok (.iload 4, 2) := by decide +kernel
theorem dX3_read_76 : decode cX3_read 76 = .ok (.ifCond .eq 7, 3) := by decide +kernel
theorem dX3_read_79 : decode cX3_read 79 = .ok (.aload_n 3, 1) := by decide +kernel
theorem dX3_read_80 : decode cX3_read 80 = .ok (.goto 4, 3) := by decide +kernel
theorem dX3_read_83 : decode cX3_read 83 = .ok (.aconst_null, 1) := by decide +kernel
theorem dX3_read_84 : decode cX3_read 84 = .ok (.astore 5, 2) := by decide +kernel
theorem dX3_read_86 : decode cX3_read 86 = .ok (.iconst 0, 1) := by decide +kernel
theorem dX3_read_87 : decode cX3_read 87 = .ok (.istore 6, 2) := by decide +kernel
theorem dX3_read_89 : decode cX3_read 89 = .ok (.iload 6, 2) := by decide +kernel
theorem dX3_read_91 : decode cX3_read 91 = .ok (.bipush 30, 2) := by decide +kernel
theorem dX3_read_93 : decode cX3_read 93 = .ok (.if_icmp .ge 51, 3) := by decide +kernel
theorem dX3_read_96 : decode cX3_read 96 = .ok (.aload_n 0, 1) := by decide +kernel
theorem dX3_read_97 : decode cX3_read 97 = .ok (.getfield 74, 3) := by decide +kernel
theorem dX3_read_100 : decode cX3_read 100 = .ok (.ifCond .eq 44, 3) := by decide +kernel
theorem dX3_read_103 : decode cX3_read 103 = .ok (.aload_n 0, 1) := by decide +kernel
theorem dX3_read_104 : decode cX3_read 104 = .ok (.getfield 18, 3) := by decide +kernel
theorem dX3_read_107 : decode cX3_read 107 = .ok (.iconst (-1), 1) := by decide +kernel
theorem dX3_read_108 : decode cX3_read 108 = .ok (.if_icmp .ne 36, 3) := by decide +kernel
theorem dX3_read_111 : decode cX3_read 111 = .ok (.iload 4, 2) := by decide +kernel
theorem dX3_read_113 : decode cX3_read 113 = .ok (.ifCond .eq 21, 3) := by decide +kernel
theorem dX3_read_116 : decode cX3_read 116 = .ok (.aload_n 0, 1) := by decide +kernel
theorem dX3_read_117 : decode cX3_read 117 = .ok (.ldc 77, 2) := by decide +kernel
theorem dX3_read_119 : decode cX3_read 119 = .ok (.invokevirtual 66, 3) := by decide +kernel
theorem dX3_read_122 : decode cX3_read 122 = .ok (.ifCond .eq 12, 3) := by decide +kernel
theorem dX3_read_125 : decode cX3_read 125 = .ok (.aload_n 0, 1) := by decide +kernel
theorem dX3_read_126 : decode cX3_read 126 = .ok (.aload 5, 2) := by decide +kernel
theorem dX3_read_128 : decode cX3_read 128 = .ok (.invokevirtual 79, 3) := by decide +kernel
theorem dX3_read_131 : decode cX3_read 131 = .ok (.goto 7, 3) := by decide +kernel
theorem dX3_read_134 : decode cX3_read 134 = .ok (.aload_n 0, 1) := by decide +kernel
theorem dX3_read_135 : decode cX3_read 135 = .ok (.invokevirtual 82, 3) := by decide +kernel
theorem dX3_read_138 : decode cX3_read 138 = .ok (.iinc 6 1, 3) := by decide +kernel
theorem dX3_read_141 : decode cX3_read 141 = .ok (.goto (-52), 3) := by decide +kernel
theorem dX3_read_144 : decode cX3_read 144 = .ok (.aload_n 0, 1) := by decide +kernel
theorem dX3_read_145 : decode cX3_read 145 = .ok (.getfield 74, 3) := by decide +kernel
theorem dX3_read_148 : decode cX3_read 148 = .ok (.ifCond .eq 7, 3) := by decide +kernel
theorem dX3_read_151 : decode cX3_read 151 = .ok (.aload_n 0, 1) := by decide +kernel
theorem dX3_read_152 : decode cX3_read 152 = .ok (.invokevirtual 85, 3) := by decide +kernel
theorem dX3_read_155 : decode cX3_read 155 = .ok (.aload_n 0, 1) := by decide +kernel
theorem dX3_read_156 : decode cX3_read 156 = .ok (.getfield 18, 3) := by decide +kernel
theorem dX3_read_159 : decode cX3_read 159 = .ok (.iconst (-1), 1) := by decide +kernel
theorem dX3_read_160 : decode cX3_read 160 = .ok (.if_icmp .ne 12, 3) := by decide +kernel
theorem dX3_read_163 : decode cX3_read 163 = .ok (.aload_n 0, 1) := by decide +kernel
theorem dX3_read_164 : decode cX3_read 164 = .ok (.aload 5, 2) := by decide +kernel
theorem dX3_read_166 : decode cX3_read 166 = .ok (.invokevirtual 88, 3) := by decide +kernel
theorem dX3_read_169 : decode cX3_read 169 = .ok (.goto 4, 3) := by decide +kernel
theorem dX3_read_172 : decode cX3_read 172 = .ok (.aconst_null, 1) := by decide +kernel
theorem dX3_read_173 : decode cX3_read 173 = .ok (.areturn, 1) := by decide +kernel
theorem dX3_together_0 : decode cX3_together 0 = .ok (.aload_n 1, 1) := by decide +kernel
theorem dX3_together_1 : decode cX3_together 1 = .ok (.ifnonnull 7, 3) := by decide +kernel
theorem dX3_together_4 : decode cX3_together 4 = .ok (.iconst 0, 1) := by decide +kernel
theorem dX3_together_5 : decode cX3_together 5 = .ok (.goto 7, 3) := by decide +kernel
theorem dX3_together_8 : decode cX3_together 8 = .ok (.aload_n 1, 1) := by decide +kernel
theorem dX3_together_9 : decode cX3_together 9 = .ok (.getfield 92, 3) := by decide +kernel
theorem dX3_together_12 : decode cX3_together 12 = .ok (.istore_n 2, 1) := by decide +kernel
theorem dX3_together_13 : decode cX3_together 13 = .ok (.new 93, 3) := by decide +kernel
theorem dX3_together_16 : decode cX3_together 16 = .ok (.dup, 1) := by decide +kernel
theorem dX3_together_17 : decode cX3_together 17 = .ok (.iload_n 2, 1) := by decide +kernel
theorem dX3_together_18 : decode cX3_together 18 = .ok (.aload_n 0, 1) := by decide +kernel
theorem dX3_together_19 : decode cX3_together 19 = .ok (.getfield 49, 3) := by decide +kernel
theorem dX3_together_22 : decode cX3_together 22 = .ok (.isub, 1) := by decide +kernel
theorem dX3_together_23 : decode cX3_together 23 = .ok (.aload_n 0, 1) := by decide +kernel
theorem dX3_together_24 : decode cX3_together 24 = .ok (.getfield 58, 3) := by decide +kernel
theorem dX3_together_27 : decode cX3_together 27 = .ok (.iadd, 1) := by decide +kernel
theorem dX3_together_28 : decode cX3_together 28 = .ok (.invokespecial 97, 3) := by decide +kernel
theorem dX3_together_31 : decode cX3_together 31 = .ok (.astore_n 3, 1) := by decide +kernel
theorem dX3_together_32 : decode cX3_together 32 = .ok (.iconst 0, 1) := by decide +kernel
theorem dX3_together_33 : decode cX3_together 33 = .ok (.istore 4, 2) := by decide +kernel
theorem dX3_together_35 : decode cX3_together 35 = .ok (.iload 4, 2) := by decide +kernel
theorem dX3_together_37 : decode cX3_together 37 = .ok (.iload_n 2, 1) := by decide +kernel
theorem dX3_together_38 : decode cX3_together 38 = .ok (.if_icmp .ge 39, 3) := by decide +kernel
theorem dX3_together_41 : decode cX3_together 41 = .ok (.iload 4, 2) := by decide +kernel
theorem dX3_together_43 : decode cX3_together 43 = .ok (.aload_n 0, 1) := by decide +kernel
theorem dX3_together_44 : decode cX3_together 44 = .ok (.getfield 22, 3) := by decide +kernel
theorem dX3_together_47 : decode cX3_together 47 = .ok (.arraylength, 1) := by decide +kernel
theorem dX3_together_48 : decode cX3_together 48 = .ok (.if_icmp .ge 13, 3) := by decide +kernel
theorem dX3_together_51 : decode cX3_together 51 = .ok (.aload_n 0, 1) := by decide +kernel
theorem dX3_together_52 : decode cX3_together 52 = .ok (.getfield 22, 3) := by decide +kernel
theorem dX3_together_55 : decode cX3_together 55 = .ok (.iload 4, 2) := by decide +kernel
theorem dX3_together_57 : decode cX3_together 57 = .ok (.iaload, 1) := by decide +kernel
theorem dX3_together_58 : decode cX3_together 58 = .ok (.ifCond .ne 13, 3) := by decide +kernel
theorem dX3_together_61 : decode cX3_together 61 = .ok (.aload_n 3, 1) := by decide +kernel
theorem dX3_together_62 : decode cX3_together 62 = .ok (.aload_n 1, 1) := by decide +kernel
theorem dX3_together_63 : decode cX3_together 63 = .ok (.iload 4, 2) := by decide +kernel
theorem dX3_together_65 : decode cX3_together 65 = .ok (.invokevirtual 100, 3) := by decide +kernel
theorem dX3_together_68 : decode cX3_together 68 = .ok (.invokevirtual 104, 3) := by decide +kernel
theorem dX3_together_71 : decode cX3_together 71 = .ok (.iinc 4 1, 3) := by decide +kernel
theorem dX3_together_74 : decode cX3_together 74 = .ok (.goto (-39), 3) := by decide +kernel
theorem dX3_together_77 : decode cX3_together 77 = .ok (.iconst 0, 1) := by decide +kernel
theorem dX3_together_78 : decode cX3_together 78 = .ok (.istore 4, 2) := by decide +kernel
theorem dX3_together_80 : decode cX3_together 80 = .ok (.iload 4, 2) := by decide +kernel
theorem dX3_together_82 : decode cX3_together 82 = .ok (.aload_n 0, 1) := by decide +kernel
theorem dX3_together_83 : decode cX3_together 83 = .ok (.getfield 58, 3) := by decide +kernel
theorem dX3_together_86 : decode cX3_together 86 = .ok (.if_icmp .ge 30, 3) := by decide +kernel
theorem dX3_together_89 : decode cX3_together 89 = .ok (.iload 4, 2) := by decide +kernel
theorem dX3_together_91 : decode cX3_together 91 = .ok (.aload_n 0, 1) := by decide +kernel
theorem dX3_together_92 : decode cX3_together 92 = .ok (.getfield 27, 3) := by decide +kernel
theorem dX3_together_95 : decode cX3_together 95 = .ok (.arraylength, 1) := by decide +kernel
theorem dX3_together_96 : decode cX3_together 96 = .ok (.if_icmp .ge 20, 3) := by decide +kernel
theorem dX3_together_99 : decode cX3_together 99 = .ok (.aload_n 3, 1) := by decide +kernel
theorem dX3_together_100 : decode cX3_together 100 = .ok (.aload_n 0, 1) := by decide +kernel
theorem dX3_together_101 : decode cX3_together 101 = .ok (.getfield 27, 3) := by decide +kernel
theorem dX3_together_104 : decode cX3_together 104 = .ok (.iload 4, 2) := by decide +kernel
theorem dX3_together_106 : decode cX3_together 106 = .ok (.aaload, 1) := by decide +kernel
theorem dX3_together_107 : decode cX3_together 107 = .ok (.invokevirtual 104, 3) := by decide +kernel
theorem dX3_together_110 : decode cX3_together 110 = .ok (.iinc 4 1, 3) := by decide +kernel
theorem dX3_together_113 : decode cX3_together 113 = .ok (.goto (-33), 3) := by decide +kernel
theorem dX3_together_116 : decode cX3_together 116 = .ok (.aload_n 3, 1) := by decide +kernel
theorem dX3_together_117 : decode cX3_together 117 = .ok (.areturn, 1) := by decide +kernel
theorem dX3_strike_0 : decode cX3_strike 0 = .ok (.aload_n 0, 1) := by decide +kernel
theorem dX3_strike_1 : decode cX3_strike 1 = .ok (.invokevirtual 61, 3) := by decide +kernel
theorem dX3_strike_4 : decode cX3_strike 4 = .ok (.aload_n 0, 1) := by decide +kernel
theorem dX3_strike_5 : decode cX3_strike 5 = .ok (.getfield 74, 3) := by decide +kernel
theorem dX3_strike_8 : decode cX3_strike 8 = .ok (.iconst 2, 1) := by decide +kernel
theorem dX3_strike_9 : decode cX3_strike 9 = .ok (.if_icmp .ne 10, 3) := by decide +kernel
theorem dX3_strike_12 : decode cX3_strike 12 = .ok (.aload_n 0, 1) := by decide +kernel
theorem dX3_strike_13 : decode cX3_strike 13 = .ok (.invokevirtual 108, 3) := by decide +kernel
theorem dX3_strike_16 : decode cX3_strike 16 = .ok (.goto 4, 3) := by decide +kernel
theorem dX3_strike_19 : decode cX3_strike 19 = .ok (.iconst (-1), 1) := by decide +kernel
theorem dX3_strike_20 : decode cX3_strike 20 = .ok (.istore_n 2, 1) := by decide +kernel
theorem dX3_strike_21 : decode cX3_strike 21 = .ok (.aload_n 1, 1) := by decide +kernel
theorem dX3_strike_22 : decode cX3_strike 22 = .ok (.ifnull 33, 3) := by decide +kernel
theorem dX3_strike_25 : decode cX3_strike 25 = .ok (.iload_n 2, 1) := by decide +kernel
theorem dX3_strike_26 : decode cX3_strike 26 = .ok (.ifCond .lt 29, 3) := by decide +kernel
theorem dX3_strike_29 : decode cX3_strike 29 = .ok (.iload_n 2, 1) := by decide +kernel
theorem dX3_strike_30 : decode cX3_strike 30 = .ok (.aload_n 1, 1) := by decide +kernel
theorem dX3_strike_31 : decode cX3_strike 31 = .ok (.getfield 92, 3) := by decide +kernel
theorem dX3_strike_34 : decode cX3_strike 34 = .ok (.if_icmp .ge 21, 3) := by decide +kernel
theorem dX3_strike_37 : decode cX3_strike 37 = .ok (.iload_n 2, 1) := by decide +kernel
theorem dX3_strike_38 : decode cX3_strike 38 = .ok (.aload_n 0, 1) := by decide +kernel
theorem dX3_strike_39 : decode cX3_strike 39 = .ok (.getfield 22, 3) := by decide +kernel
theorem dX3_strike_42 : decode cX3_strike 42 = .ok (.arraylength, 1) := by decide +kernel
theorem dX3_strike_43 : decode cX3_strike 43 = .ok (.if_icmp .ge 12, 3) := by decide +kernel
theorem dX3_strike_46 : decode cX3_strike 46 = .ok (.aload_n 0, 1) := by decide +kernel
theorem dX3_strike_47 : decode cX3_strike 47 = .ok (.getfield 22, 3) := by decide +kernel
theorem dX3_strike_50 : decode cX3_strike 50 = .ok (.iload_n 2, 1) := by decide +kernel
theorem dX3_strike_51 : decode cX3_strike 51 = .ok (.iaload, 1) := by decide +kernel
theorem dX3_strike_52 : decode cX3_strike 52 = .ok (.ifCond .eq 8, 3) := by decide +kernel
theorem dX3_strike_55 : decode cX3_strike 55 = .ok (.aload_n 0, 1) := by decide +kernel
theorem dX3_strike_56 : decode cX3_strike 56 = .ok (.invokevirtual 85, 3) := by decide +kernel
theorem dX3_strike_59 : decode cX3_strike 59 = .ok (.return_, 1) := by decide +kernel
theorem dX3_strike_60 : decode cX3_strike 60 = .ok (.aload_n 0, 1) := by decide +kernel
theorem dX3_strike_61 : decode cX3_strike 61 = .ok (.invokevirtual 61, 3) := by decide +kernel
theorem dX3_strike_64 : decode cX3_strike 64 = .ok (.aload_n 0, 1) := by decide +kernel
theorem dX3_strike_65 : decode cX3_strike 65 = .ok (.bipush 59, 2) := by decide +kernel
theorem dX3_strike_67 : decode cX3_strike 67 = .ok (.invokevirtual 70, 3) := by decide +kernel
theorem dX3_strike_70 : decode cX3_strike 70 = .ok (.aload_n 0, 1) := by decide +kernel
theorem dX3_strike_71 : decode cX3_strike 71 = .ok (.getfield 22, 3) := by decide +kernel
theorem dX3_strike_74 : decode cX3_strike 74 = .ok (.iload_n 2, 1) := by decide +kernel
theorem dX3_strike_75 : decode cX3_strike 75 = .ok (.iconst 1, 1) := by decide +kernel
theorem dX3_strike_76 : decode cX3_strike 76 = .ok (.iastore, 1) := by decide +kernel
theorem dX3_strike_77 : decode cX3_strike 77 = .ok (.aload_n 0, 1) := by decide +kernel
theorem dX3_strike_78 : decode cX3_strike 78 = .ok (.dup, 1) := by decide +kernel
theorem dX3_strike_79 : decode cX3_strike 79 = .ok (.getfield 49, 3) := by decide +kernel
theorem dX3_strike_82 : decode cX3_strike 82 = .ok (.iconst 1, 1) := by decide +kernel
theorem dX3_strike_83 : decode cX3_strike 83 = .ok (.iadd, 1) := by decide +kernel
theorem dX3_strike_84 : decode cX3_strike 84 = .ok (.putfield 49, 3) := by decide +kernel
theorem dX3_strike_87 : decode cX3_strike 87 = .ok (.return_, 1) := by decide +kernel
theorem dX3_rule_0 : decode cX3_rule 0 = .ok (.aload_n 0, 1) := by decide +kernel
theorem dX3_rule_1 : decode cX3_rule 1 = .ok (.ldc 112, 2) := by decide +kernel
theorem dX3_rule_3 : decode cX3_rule 3 = .ok (.invokevirtual 114, 3) := by decide +kernel
theorem dX3_rule_6 : decode cX3_rule 6 = .ok (.istore_n 1, 1) := by decide +kernel
theorem dX3_rule_7 : decode cX3_rule 7 = .ok (.new 25, 3) := by decide +kernel
theorem dX3_rule_10 : decode cX3_rule 10 = .ok (.dup, 1) := by decide +kernel
theorem dX3_rule_11 : decode cX3_rule 11 = .ok (.iload_n 1, 1) := by decide +kernel
theorem dX3_rule_12 : decode cX3_rule 12 = .ok (.invokespecial 118, 3) := by decide +kernel
theorem dX3_rule_15 : decode cX3_rule 15 = .ok (.astore_n 2, 1) := by decide +kernel
theorem dX3_rule_16 : decode cX3_rule 16 = .ok (.aload_n 0, 1) := by decide +kernel
theorem dX3_rule_17 : decode cX3_rule 17 = .ok (.iconst 0, 1) := by decide +kernel
theorem dX3_rule_18 : decode cX3_rule 18 = .ok (.putfield 119, 3) := by decide +kernel
theorem dX3_rule_21 : decode cX3_rule 21 = .ok (.iload_n 1, 1) := by decide +kernel
theorem dX3_rule_22 : decode cX3_rule 22 = .ok (.tableswitch 116 0 4 #[34, 42, 77, 85, 100], 34) := by decide +kernel
theorem dX3_rule_56 : decode cX3_rule 56 = .ok (.aload_n 0, 1) := by decide +kernel
theorem dX3_rule_57 : decode cX3_rule 57 = .ok (.aload_n 2, 1) := by decide +kernel
theorem dX3_rule_58 : decode cX3_rule 58 = .ok (.invokevirtual 122, 3) := by decide +kernel
theorem dX3_rule_61 : decode cX3_rule 61 = .ok (.goto 88, 3) := by decide +kernel
theorem dX3_rule_64 : decode cX3_rule 64 = .ok (.aload_n 2, 1) := by decide +kernel
theorem dX3_rule_65 : decode cX3_rule 65 = .ok (.aload_n 0, 1) := by decide +kernel
theorem dX3_rule_66 : decode cX3_rule 66 = .ok (.ldc 125, 2) := by decide +kernel
theorem dX3_rule_68 : decode cX3_rule 68 = .ok (.invokevirtual 114, 3) := by decide +kernel
theorem dX3_rule_71 : decode cX3_rule 71 = .ok (.putfield 127, 3) := by decide +kernel
theorem dX3_rule_74 : decode cX3_rule 74 = .ok (.aload_n 2, 1) := by decide +kernel
theorem dX3_rule_75 : decode cX3_rule 75 = .ok (.aload_n 0, 1) := by decide +kernel
theorem dX3_rule_76 : decode cX3_rule 76 = .ok (.iconst 0, 1) := by decide +kernel
theorem dX3_rule_77 : decode cX3_rule 77 = .ok (.bipush 100, 2) := by decide +kernel
theorem dX3_rule_79 : decode cX3_rule 79 = .ok (.invokevirtual 130, 3) := by decide +kernel
theorem dX3_rule_82 : decode cX3_rule 82 = .ok (.putfield 133, 3) := by decide +kernel
theorem dX3_rule_85 : decode cX3_rule 85 = .ok (.aload_n 2, 1) := by decide +kernel
theorem dX3_rule_86 : decode cX3_rule 86 = .ok (.aload_n 0, 1) := by decide +kernel
theorem dX3_rule_87 : decode cX3_rule 87 = .ok (.iconst 0, 1) := by decide +kernel
theorem dX3_rule_88 : decode cX3_rule 88 = .ok (.bipush 100, 2) := by decide +kernel
theorem dX3_rule_90 : decode cX3_rule 90 = .ok (.invokevirtual 130, 3) := by decide +kernel
theorem dX3_rule_93 : decode cX3_rule 93 = .ok (.putfield 135, 3) := by decide +kernel
theorem dX3_rule_96 : decode cX3_rule 96 = .ok (.goto 53, 3) := by decide +kernel
theorem dX3_rule_99 : decode cX3_rule 99 = .ok (.aload_n 0, 1) := by decide +kernel
theorem dX3_rule_100 : decode cX3_rule 100 = .ok (.aload_n 2, 1) := by decide +kernel
theorem dX3_rule_101 : decode cX3_rule 101 = .ok (.invokevirtual 138, 3) := by decide +kernel
theorem dX3_rule_104 : decode cX3_rule 104 = .ok (.goto 45, 3) := by decide +kernel
theorem dX3_rule_107 : decode cX3_rule 107 = .ok (.aload_n 2, 1) := by decide +kernel
theorem dX3_rule_108 : decode cX3_rule 108 = .ok (.aload_n 0, 1) := by decide +kernel
theorem dX3_rule_109 : decode cX3_rule 109 = .ok (.iconst 0, 1) := by decide +kernel
theorem dX3_rule_110 : decode cX3_rule 110 = .ok (.sipush 500, 3) := by decide +kernel
theorem dX3_rule_113 : decode cX3_rule 113 = .ok (.invokevirtual 130, 3) := by decide +kernel
theorem dX3_rule_116 : decode cX3_rule 116 = .ok (.putfield 133, 3) := by decide +kernel
theorem dX3_rule_119 : decode cX3_rule 119 = .ok (.goto 30, 3) := by decide +kernel
theorem dX3_rule_122 : decode cX3_rule 122 = .ok (.aload_n 2, 1) := by decide +kernel
theorem dX3_rule_123 : decode cX3_rule 123 = .ok (.aload_n 0, 1) := by decide +kernel
theorem dX3_rule_124 : decode cX3_rule 124 = .ok (.bipush 50, 2) := by decide +kernel
theorem dX3_rule_126 : decode cX3_rule 126 = .ok (.sipush 150, 3) := by decide +kernel
theorem dX3_rule_129 : decode cX3_rule 129 = .ok (.invokevirtual 130, 3) := by decide +kernel
theorem dX3_rule_132 : decode cX3_rule 132 = .ok (.putfield 133, 3) := by decide +kernel
theorem dX3_rule_135 : decode cX3_rule 135 = .ok (.goto 14, 3) := by decide +kernel
theorem dX3_rule_138 : decode cX3_rule 138 = .ok (.aload_n 2, 1) := by decide +kernel
theorem dX3_rule_139 : decode cX3_rule 139 = .ok (.aload_n 0, 1) := by decide +kernel
theorem dX3_rule_140 : decode cX3_rule 140 = .ok (.iconst 0, 1) := by decide +kernel
theorem dX3_rule_141 : decode cX3_rule 141 = .ok (.bipush 100, 2) := by decide +kernel
theorem dX3_rule_143 : decode cX3_rule 143 = .ok (.invokevirtual 130, 3) := by decide +kernel
theorem dX3_rule_146 : decode cX3_rule 146 = .ok (.putfield 133, 3) := by decide +kernel
theorem dX3_rule_149 : decode cX3_rule 149 = .ok (.aload_n 0, 1) := by decide +kernel
theorem dX3_rule_150 : decode cX3_rule 150 = .ok (.ldc 141, 2) := by decide +kernel
theorem dX3_rule_152 : decode cX3_rule 152 = .ok (.invokevirtual 66, 3) := by decide +kernel
theorem dX3_rule_155 : decode cX3_rule 155 = .ok (.ifCond .eq 35, 3) := by decide +kernel
theorem dX3_rule_158 : decode cX3_rule 158 = .ok (.aload_n 0, 1) := by decide +kernel
theorem dX3_rule_159 : decode cX3_rule 159 = .ok (.invokevirtual 61, 3) := by decide +kernel
theorem dX3_rule_162 : decode cX3_rule 162 = .ok (.aload_n 0, 1) := by decide +kernel
theorem dX3_rule_163 : decode cX3_rule 163 = .ok (.iconst 0, 1) := by decide +kernel
theorem dX3_rule_164 : decode cX3_rule 164 = .ok (.invokevirtual 143, 3) := by decide +kernel
theorem dX3_rule_167 : decode cX3_rule 167 = .ok (.aload_n 2, 1) := by decide +kernel
theorem dX3_rule_168 : decode cX3_rule 168 = .ok (.aload_n 0, 1) := by decide +kernel
theorem dX3_rule_169 : decode cX3_rule 169 = .ok (.getfield 31, 3) := by decide +kernel
theorem dX3_rule_172 : decode cX3_rule 172 = .ok (.aload_n 0, 1) := by decide +kernel
theorem dX3_rule_173 : decode cX3_rule 173 = .ok (.getfield 119, 3) := by decide +kernel
theorem dX3_rule_176 : decode cX3_rule 176 = .ok (.aload_n 0, 1) := by decide +kernel
theorem dX3_rule_177 : decode cX3_rule 177 = .ok (.getfield 31, 3) := by decide +kernel
theorem dX3_rule_180 : decode cX3_rule 180 = .ok (.arraylength, 1) := by decide +kernel
theorem dX3_rule_181 : decode cX3_rule 181 = .ok (.invokestatic 34, 3) := by decide +kernel
theorem dX3_rule_184 : decode cX3_rule 184 = .ok (.invokestatic 146, 3) := by decide +kernel
theorem dX3_rule_187 : decode cX3_rule 187 = .ok (.putfield 150, 3) := by decide +kernel
theorem dX3_rule_190 : decode cX3_rule 190 = .ok (.aload_n 0, 1) := by decide +kernel
theorem dX3_rule_191 : decode cX3_rule 191 = .ok (.bipush 59, 2) := by decide +kernel
theorem dX3_rule_193 : decode cX3_rule 193 = .ok (.invokevirtual 70, 3) := by decide +kernel
theorem dX3_rule_196 : decode cX3_rule 196 = .ok (.aload_n 0, 1) := by decide +kernel
theorem dX3_rule_197 : decode cX3_rule 197 = .ok (.getfield 18, 3) := by decide +kernel
theorem dX3_rule_200 : decode cX3_rule 200 = .ok (.iconst (-1), 1) := by decide +kernel
theorem dX3_rule_201 : decode cX3_rule 201 = .ok (.if_icmp .ne 35, 3) := by decide +kernel
theorem dX3_rule_204 : decode cX3_rule 204 = .ok (.aload_n 0, 1) := by decide +kernel
theorem dX3_rule_205 : decode cX3_rule 205 = .ok (.getfield 58, 3) := by decide +kernel
theorem dX3_rule_208 : decode cX3_rule 208 = .ok (.aload_n 0, 1) := by decide +kernel
theorem dX3_rule_209 : decode cX3_rule 209 = .ok (.getfield 27, 3) := by decide +kernel
theorem dX3_rule_212 : decode cX3_rule 212 = .ok (.arraylength, 1) := by decide +kernel
theorem dX3_rule_213 : decode cX3_rule 213 = .ok (.if_icmp .ge 23, 3) := by decide +kernel
theorem dX3_rule_216 : decode cX3_rule 216 = .ok (.aload_n 0, 1) := by decide +kernel
theorem dX3_rule_217 : decode cX3_rule 217 = .ok (.getfield 27, 3) := by decide +kernel
theorem dX3_rule_220 : decode cX3_rule 220 = .ok (.aload_n 0, 1) := by decide +kernel
theorem dX3_rule_221 : decode cX3_rule 221 = .ok (.getfield 58, 3) := by decide +kernel
theorem dX3_rule_224 : decode cX3_rule 224 = .ok (.aload_n 2, 1) := by decide +kernel
theorem dX3_rule_225 : decode cX3_rule 225 = .ok (.aastore, 1) := by decide +kernel
theorem dX3_rule_226 : decode cX3_rule 226 = .ok (.aload_n 0, 1) := by decide +kernel
theorem dX3_rule_227 : decode cX3_rule 227 = .ok (.dup, 1) := by decide +kernel
theorem dX3_rule_228 : decode cX3_rule 228 = .ok (.getfield 58, 3) := by decide +kernel
theorem dX3_rule_231 : decode cX3_rule 231 = .ok (.iconst 1, 1) := by decide +kernel
theorem dX3_rule_232 : decode cX3_rule 232 = .ok (.iadd, 1) := by decide +kernel
theorem dX3_rule_233 : decode cX3_rule 233 = .ok (.putfield 58, 3) := by decide +kernel
theorem dX3_rule_236 : decode cX3_rule 236 = .ok (.return_, 1) := by decide +kernel
theorem dX3_allow_0 : decode cX3_allow 0 = .ok (.aload_n 1, 1) := by decide +kernel
theorem dX3_allow_1 : decode cX3_allow 1 = .ok (.aload_n 0, 1) := by decide +kernel
theorem dX3_allow_2 : decode cX3_allow 2 = .ok (.ldc 125, 2) := by decide +kernel
theorem dX3_allow_4 : decode cX3_allow 4 = .ok (.invokevirtual 114, 3) := by decide +kernel
theorem dX3_allow_7 : decode cX3_allow 7 = .ok (.putfield 127, 3) := by decide +kernel
theorem dX3_allow_10 : decode cX3_allow 10 = .ok (.aload_n 1, 1) := by decide +kernel
theorem dX3_allow_11 : decode cX3_allow 11 = .ok (.aload_n 0, 1) := by decide +kernel
theorem dX3_allow_12 : decode cX3_allow 12 = .ok (.ldc 152, 2) := by decide +kernel
theorem dX3_allow_14 : decode cX3_allow 14 = .ok (.invokevirtual 114, 3) := by decide +kernel
theorem dX3_allow_17 : decode cX3_allow 17 = .ok (.putfield 154, 3) := by decide +kernel
theorem dX3_allow_20 : decode cX3_allow 20 = .ok (.aload_n 1, 1) := by decide +kernel
theorem dX3_allow_21 : decode cX3_allow 21 = .ok (.getfield 154, 3) := by decide +kernel
theorem dX3_allow_24 : decode cX3_allow 24 = .ok (.iconst 3, 1) := by decide +kernel
theorem dX3_allow_25 : decode cX3_allow 25 = .ok (.if_icmp .eq 13, 3) := by decide +kernel
theorem dX3_allow_28 : decode cX3_allow 28 = .ok (.aload_n 1, 1) := by decide +kernel
theorem dX3_allow_29 : decode cX3_allow 29 = .ok (.aload_n 0, 1) := by decide +kernel
theorem dX3_allow_30 : decode cX3_allow 30 = .ok (.iconst 0, 1) := by decide +kernel
theorem dX3_allow_31 : decode cX3_allow 31 = .ok (.iconst 2, 1) := by decide +kernel
theorem dX3_allow_32 : decode cX3_allow 32 = .ok (.invokevirtual 130, 3) := by decide +kernel
theorem dX3_allow_35 : decode cX3_allow 35 = .ok (.putfield 157, 3) := by decide +kernel
theorem dX3_allow_38 : decode cX3_allow 38 = .ok (.aload_n 1, 1) := by decide +kernel
theorem dX3_allow_39 : decode cX3_allow 39 = .ok (.aload_n 0, 1) := by decide +kernel
theorem dX3_allow_40 : decode cX3_allow 40 = .ok (.iconst 0, 1) := by decide +kernel
theorem dX3_allow_41 : decode cX3_allow 41 = .ok (.sipush 200, 3) := by decide +kernel
theorem dX3_allow_44 : decode cX3_allow 44 = .ok (.invokevirtual 130, 3) := by decide +kernel
theorem dX3_allow_47 : decode cX3_allow 47 = .ok (.putfield 133, 3) := by decide +kernel
theorem dX3_allow_50 : decode cX3_allow 50 = .ok (.return_, 1) := by decide +kernel
theorem dX3_target_0 : decode cX3_target 0 = .ok (.aload_n 1, 1) := by decide +kernel
theorem dX3_target_1 : decode cX3_target 1 = .ok (.aload_n 0, 1) := by decide +kernel
theorem dX3_target_2 : decode cX3_target 2 = .ok (.iconst 0, 1) := by decide +kernel
theorem dX3_target_3 : decode cX3_target 3 = .ok (.iconst 2, 1) := by decide +kernel
theorem dX3_target_4 : decode cX3_target 4 = .ok (.invokevirtual 130, 3) := by decide +kernel
theorem dX3_target_7 : decode cX3_target 7 = .ok (.putfield 127, 3) := by decide +kernel
theorem dX3_target_10 : decode cX3_target 10 = .ok (.aload_n 1, 1) := by decide +kernel
theorem dX3_target_11 : decode cX3_target 11 = .ok (.aload_n 0, 1) := by decide +kernel
theorem dX3_target_12 : decode cX3_target 12 = .ok (.ldc 160, 2) := by decide +kernel
theorem dX3_target_14 : decode cX3_target 14 = .ok (.invokevirtual 114, 3) := by decide +kernel
theorem dX3_target_17 : decode cX3_target 17 = .ok (.putfield 154, 3) := by decide +kernel
theorem dX3_target_20 : decode cX3_target 20 = .ok (.aload_n 1, 1) := by decide +kernel
theorem dX3_target_21 : decode cX3_target 21 = .ok (.aload_n 0, 1) := by decide +kernel
theorem dX3_target_22 : decode cX3_target 22 = .ok (.iconst 0, 1) := by decide +kernel
theorem dX3_target_23 : decode cX3_target 23 = .ok (.ldc 162, 2) := by decide +kernel
theorem dX3_target_25 : decode cX3_target 25 = .ok (.invokevirtual 130, 3) := by decide +kernel
theorem dX3_target_28 : decode cX3_target 28 = .ok (.putfield 133, 3) := by decide +kernel
theorem dX3_target_31 : decode cX3_target 31 = .ok (.aload_n 0, 1) := by decide +kernel
theorem dX3_target_32 : decode cX3_target 32 = .ok (.ldc 163, 2) := by decide +kernel
theorem dX3_target_34 : decode cX3_target 34 = .ok (.invokevirtual 114, 3) := by decide +kernel
theorem dX3_target_37 : decode cX3_target 37 = .ok (.pop, 1) := by decide +kernel
theorem dX3_target_38 : decode cX3_target 38 = .ok (.aload_n 1, 1) := by decide +kernel
theorem dX3_target_39 : decode cX3_target 39 = .ok (.aload_n 0, 1) := by decide +kernel
theorem dX3_target_40 : decode cX3_target 40 = .ok (.iconst 1, 1) := by decide +kernel
theorem dX3_target_41 : decode cX3_target 41 = .ok (.ldc 162, 2) := by decide +kernel
theorem dX3_target_43 : decode cX3_target 43 = .ok (.invokevirtual 130, 3) := by decide +kernel
theorem dX3_target_46 : decode cX3_target 46 = .ok (.putfield 164, 3) := by decide +kernel
theorem dX3_target_49 : decode cX3_target 49 = .ok (.aload_n 0, 1) := by decide +kernel
theorem dX3_target_50 : decode cX3_target 50 = .ok (.ldc 166, 2) := by decide +kernel
theorem dX3_target_52 : decode cX3_target 52 = .ok (.invokevirtual 114, 3) := by decide +kernel
theorem dX3_target_55 : decode cX3_target 55 = .ok (.pop, 1) := by decide +kernel
theorem dX3_target_56 : decode cX3_target 56 = .ok (.aload_n 1, 1) := by decide +kernel
theorem dX3_target_57 : decode cX3_target 57 = .ok (.aload_n 0, 1) := by decide +kernel
theorem dX3_target_58 : decode cX3_target 58 = .ok (.iconst 0, 1) := by decide +kernel
theorem dX3_target_59 : decode cX3_target 59 = .ok (.ldc 162, 2) := by decide +kernel
theorem dX3_target_61 : decode cX3_target 61 = .ok (.invokevirtual 130, 3) := by decide +kernel
theorem dX3_target_64 : decode cX3_target 64 = .ok (.putfield 168, 3) := by decide +kernel
theorem dX3_target_67 : decode cX3_target 67 = .ok (.aload_n 0, 1) := by decide +kernel
theorem dX3_target_68 : decode cX3_target 68 = .ok (.ldc 170, 2) := by decide +kernel
theorem dX3_target_70 : decode cX3_target 70 = .ok (.invokevirtual 114, 3) := by decide +kernel
theorem dX3_target_73 : decode cX3_target 73 = .ok (.pop, 1) := by decide +kernel
theorem dX3_target_74 : decode cX3_target 74 = .ok (.aload_n 1, 1) := by decide +kernel
theorem dX3_target_75 : decode cX3_target 75 = .ok (.aload_n 0, 1) := by decide +kernel
theorem dX3_target_76 : decode cX3_target 76 = .ok (.iconst 0, 1) := by decide +kernel
theorem dX3_target_77 : decode cX3_target 77 = .ok (.ldc 162, 2) := by decide +kernel
theorem dX3_target_79 : decode cX3_target 79 = .ok (.invokevirtual 130, 3) := by decide +kernel
theorem dX3_target_82 : decode cX3_target 82 = .ok (.putfield 172, 3) := by decide +kernel
theorem dX3_target_85 : decode cX3_target 85 = .ok (.aload_n 0, 1) := by decide +kernel
theorem dX3_target_86 : decode cX3_target 86 = .ok (.ldc 174, 2) := by decide +kernel
theorem dX3_target_88 : decode cX3_target 88 = .ok (.invokevirtual 114, 3) := by decide +kernel
theorem dX3_target_91 : decode cX3_target 91 = .ok (.pop, 1) := by decide +kernel
theorem dX3_target_92 : decode cX3_target 92 = .ok (.aload_n 1, 1) := by decide +kernel
theorem dX3_target_93 : decode cX3_target 93 = .ok (.aload_n 0, 1) := by decide +kernel
theorem dX3_target_94 : decode cX3_target 94 = .ok (.iconst 0, 1) := by decide +kernel
theorem dX3_target_95 : decode cX3_target 95 = .ok (.ldc 162, 2) := by decide +kernel
theorem dX3_target_97 : decode cX3_target 97 = .ok (.invokevirtual 130, 3) := by decide +kernel
theorem dX3_target_100 : decode cX3_target 100 = .ok (.putfield 176, 3) := by decide +kernel
theorem dX3_target_103 : decode cX3_target 103 = .ok (.return_, 1) := by decide +kernel
theorem dX3_any_0 : decode cX3_any 0 = .ok (.aload_n 0, 1) := by decide +kernel
theorem dX3_any_1 : decode cX3_any 1 = .ok (.iload_n 1, 1) := by decide +kernel
theorem dX3_any_2 : decode cX3_any 2 = .ok (.invokevirtual 178, 3) := by decide +kernel
theorem dX3_any_5 : decode cX3_any 5 = .ok (.iconst 0, 1) := by decide +kernel
theorem dX3_any_6 : decode cX3_any 6 = .ok (.istore_n 2, 1) := by decide +kernel
theorem dX3_any_7 : decode cX3_any 7 = .ok (.iload_n 2, 1) := by decide +kernel
theorem dX3_any_8 : decode cX3_any 8 = .ok (.sipush 900, 3) := by decide +kernel
theorem dX3_any_11 : decode cX3_any 11 = .ok (.if_icmp .ge 33, 3) := by decide +kernel
theorem dX3_any_14 : decode cX3_any 14 = .ok (.aload_n 0, 1) := by decide +kernel
theorem dX3_any_15 : decode cX3_any 15 = .ok (.ldc 181, 2) := by decide +kernel
theorem dX3_any_17 : decode cX3_any 17 = .ok (.invokevirtual 66, 3) := by decide +kernel
theorem dX3_any_20 : decode cX3_any 20 = .ok (.ifCond .eq 24, 3) := by decide +kernel
theorem dX3_any_23 : decode cX3_any 23 = .ok (.aload_n 0, 1) := by decide +kernel
theorem dX3_any_24 : decode cX3_any 24 = .ok (.invokevirtual 61, 3) := by decide +kernel
theorem dX3_any_27 : decode cX3_any 27 = .ok (.aload_n 0, 1) := by decide +kernel
theorem dX3_any_28 : decode cX3_any 28 = .ok (.iload_n 1, 1) := by decide +kernel
theorem dX3_any_29 : decode cX3_any 29 = .ok (.invokevirtual 178, 3) := by decide +kernel
theorem dX3_any_32 : decode cX3_any 32 = .ok (.aload_n 0, 1) := by decide +kernel
theorem dX3_any_33 : decode cX3_any 33 = .ok (.bipush (-3), 2) := by decide +kernel
theorem dX3_any_35 : decode cX3_any 35 = .ok (.invokevirtual 183, 3) := by decide +kernel
theorem dX3_any_38 : decode cX3_any 38 = .ok (.iinc 2 1, 3) := by decide +kernel
theorem dX3_any_41 : decode cX3_any 41 = .ok (.goto (-34), 3) := by decide +kernel
theorem dX3_any_44 : decode cX3_any 44 = .ok (.return_, 1) := by decide +kernel
theorem dX3_all_0 : decode cX3_all 0 = .ok (.aload_n 0, 1) := by decide +kernel
theorem dX3_all_1 : decode cX3_all 1 = .ok (.iload_n 1, 1) := by decide +kernel
theorem dX3_all_2 : decode cX3_all 2 = .ok (.invokevirtual 186, 3) := by decide +kernel
theorem dX3_all_5 : decode cX3_all 5 = .ok (.iconst 0, 1) := by decide +kernel
theorem dX3_all_6 : decode cX3_all 6 = .ok (.istore_n 2, 1) := by decide +kernel
theorem dX3_all_7 : decode cX3_all 7 = .ok (.iload_n 2, 1) := by decide +kernel
theorem dX3_all_8 : decode cX3_all 8 = .ok (.sipush 900, 3) := by decide +kernel
theorem dX3_all_11 : decode cX3_all 11 = .ok (.if_icmp .ge 33, 3) := by decide +kernel
theorem dX3_all_14 : decode cX3_all 14 = .ok (.aload_n 0, 1) := by decide +kernel
theorem dX3_all_15 : decode cX3_all 15 = .ok (.ldc 189, 2) := by decide +kernel
theorem dX3_all_17 : decode cX3_all 17 = .ok (.invokevirtual 66, 3) := by decide +kernel
theorem dX3_all_20 : decode cX3_all 20 = .ok (.ifCond .eq 24, 3) := by decide +kernel
theorem dX3_all_23 : decode cX3_all 23 = .ok (.aload_n 0, 1) := by decide +kernel
theorem dX3_all_24 : decode cX3_all 24 = .ok (.invokevirtual 61, 3) := by decide +kernel
theorem dX3_all_27 : decode cX3_all 27 = .ok (.aload_n 0, 1) := by decide +kernel
theorem dX3_all_28 : decode cX3_all 28 = .ok (.iload_n 1, 1) := by decide +kernel
theorem dX3_all_29 : decode cX3_all 29 = .ok (.invokevirtual 186, 3) := by decide +kernel
theorem dX3_all_32 : decode cX3_all 32 = .ok (.aload_n 0, 1) := by decide +kernel
theorem dX3_all_33 : decode cX3_all 33 = .ok (.bipush (-2), 2) := by decide +kernel
theorem dX3_all_35 : decode cX3_all 35 = .ok (.invokevirtual 183, 3) := by decide +kernel
theorem dX3_all_38 : decode cX3_all 38 = .ok (.iinc 2 1, 3) := by decide +kernel
theorem dX3_all_41 : decode cX3_all 41 = .ok (.goto (-34), 3) := by decide +kernel
theorem dX3_all_44 : decode cX3_all 44 = .ok (.return_, 1) := by decide +kernel
theorem dX3_one_0 : decode cX3_one 0 = .ok (.aload_n 0, 1) := by decide +kernel
theorem dX3_one_1 : decode cX3_one 1 = .ok (.ldc 191, 2) := by decide +kernel
theorem dX3_one_3 : decode cX3_one 3 = .ok (.invokevirtual 66, 3) := by decide +kernel
theorem dX3_one_6 : decode cX3_one 6 = .ok (.istore_n 2, 1) := by decide +kernel
theorem dX3_one_7 : decode cX3_one 7 = .ok (.iload_n 2, 1) := by decide +kernel
theorem dX3_one_8 : decode cX3_one 8 = .ok (.ifCond .ne 17, 3) := by decide +kernel
theorem dX3_one_11 : decode cX3_one 11 = .ok (.aload_n 0, 1) := by decide +kernel
theorem dX3_one_12 : decode cX3_one 12 = .ok (.bipush 40, 2) := by decide +kernel
theorem dX3_one_14 : decode cX3_one 14 = .ok (.invokevirtual 193, 3) := by decide +kernel
theorem dX3_one_17 : decode cX3_one 17 = .ok (.ifCond .ne 8, 3) := by decide +kernel
theorem dX3_one_20 : decode cX3_one 20 = .ok (.aload_n 0, 1) := by decide +kernel
theorem dX3_one_21 : decode cX3_one 21 = .ok (.invokevirtual 197, 3) := by decide +kernel
theorem dX3_one_24 : decode cX3_one 24 = .ok (.return_, 1) := by decide +kernel
theorem dX3_one_25 : decode cX3_one 25 = .ok (.iload_n 1, 1) := by decide +kernel
theorem dX3_one_26 : decode cX3_one 26 = .ok (.bipush 10, 2) := by decide +kernel
theorem dX3_one_28 : decode cX3_one 28 = .ok (.if_icmp .lt 8, 3) := by decide +kernel
theorem dX3_one_31 : decode cX3_one 31 = .ok (.aload_n 0, 1) := by decide +kernel
theorem dX3_one_32 : decode cX3_one 32 = .ok (.invokevirtual 85, 3) := by decide +kernel
theorem dX3_one_35 : decode cX3_one 35 = .ok (.return_, 1) := by decide +kernel
theorem dX3_one_36 : decode cX3_one 36 = .ok (.aload_n 0, 1) := by decide +kernel
theorem dX3_one_37 : decode cX3_one 37 = .ok (.invokevirtual 61, 3) := by decide +kernel
theorem dX3_one_40 : decode cX3_one 40 = .ok (.iload_n 2, 1) := by decide +kernel
theorem dX3_one_41 : decode cX3_one 41 = .ok (.ifCond .eq 18, 3) := by decide +kernel
theorem dX3_one_44 : decode cX3_one 44 = .ok (.aload_n 0, 1) := by decide +kernel
theorem dX3_one_45 : decode cX3_one 45 = .ok (.iload_n 1, 1) := by decide +kernel
theorem dX3_one_46 : decode cX3_one 46 = .ok (.iconst 1, 1) := by decide +kernel
theorem dX3_one_47 : decode cX3_one 47 = .ok (.iadd, 1) := by decide +kernel
theorem dX3_one_48 : decode cX3_one 48 = .ok (.invokevirtual 186, 3) := by decide +kernel
theorem dX3_one_51 : decode cX3_one 51 = .ok (.aload_n 0, 1) := by decide +kernel
theorem dX3_one_52 : decode cX3_one 52 = .ok (.iconst (-1), 1) := by decide +kernel
theorem dX3_one_53 : decode cX3_one 53 = .ok (.invokevirtual 183, 3) := by decide +kernel
theorem dX3_one_56 : decode cX3_one 56 = .ok (.goto 16, 3) := by decide +kernel
theorem dX3_one_59 : decode cX3_one 59 = .ok (.aload_n 0, 1) := by decide +kernel
theorem dX3_one_60 : decode cX3_one 60 = .ok (.iload_n 1, 1) := by decide +kernel
theorem dX3_one_61 : decode cX3_one 61 = .ok (.iconst 1, 1) := by decide +kernel
theorem dX3_one_62 : decode cX3_one 62 = .ok (.iadd, 1) := by decide +kernel
theorem dX3_one_63 : decode cX3_one 63 = .ok (.invokevirtual 143, 3) := by decide +kernel
theorem dX3_one_66 : decode cX3_one 66 = .ok (.aload_n 0, 1) := by decide +kernel
theorem dX3_one_67 : decode cX3_one 67 = .ok (.bipush 41, 2) := by decide +kernel
theorem dX3_one_69 : decode cX3_one 69 = .ok (.invokevirtual 70, 3) := by decide +kernel
theorem dX3_one_72 : decode cX3_one 72 = .ok (.return_, 1) := by decide +kernel
theorem dX3_comparison_0 : decode cX3_comparison 0 = .ok (.aload_n 0, 1) := by decide +kernel
theorem dX3_comparison_1 : decode cX3_comparison 1 = .ok (.ldc 200, 2) := by decide +kernel
theorem dX3_comparison_3 : decode cX3_comparison 3 = .ok (.invokevirtual 114, 3) := by decide +kernel
theorem dX3_comparison_6 : decode cX3_comparison 6 = .ok (.istore_n 1, 1) := by decide +kernel
theorem dX3_comparison_7 : decode cX3_comparison 7 = .ok (.aload_n 0, 1) := by decide +kernel
theorem dX3_comparison_8 : decode cX3_comparison 8 = .ok (.bipush 60, 2) := by decide +kernel
theorem dX3_comparison_10 : decode cX3_comparison 10 = .ok (.invokevirtual 193, 3) := by decide +kernel
theorem dX3_comparison_13 : decode cX3_comparison 13 = .ok (.ifCond .eq 7, 3) := by decide +kernel
theorem dX3_comparison_16 : decode cX3_comparison 16 = .ok (.iconst 0, 1) := by decide +kernel
theorem dX3_comparison_17 : decode cX3_comparison 17 = .ok (.goto 30, 3) := by decide +kernel
theorem dX3_comparison_20 : decode cX3_comparison 20 = .ok (.aload_n 0, 1) := by decide +kernel
theorem dX3_comparison_21 : decode cX3_comparison 21 = .ok (.bipush 62, 2) := by decide +kernel
theorem dX3_comparison_23 : decode cX3_comparison 23 = .ok (.invokevirtual 193, 3) := by decide +kernel
theorem dX3_comparison_26 : decode cX3_comparison 26 = .ok (.ifCond .eq 7, 3) := by decide +kernel
theorem dX3_comparison_29 : decode cX3_comparison 29 = .ok (.iconst 1, 1) := by decide +kernel
theorem dX3_comparison_30 : decode cX3_comparison 30 = .ok (.goto 17, 3) := by decide +kernel
theorem dX3_comparison_33 : decode cX3_comparison 33 = .ok (.aload_n 0, 1) := by decide +kernel
theorem dX3_comparison_34 : decode cX3_comparison 34 = .ok (.bipush 61, 2) := by decide +kernel
theorem dX3_comparison_36 : decode cX3_comparison 36 = .ok (.invokevirtual 193, 3) := by decide +kernel
theorem dX3_comparison_39 : decode cX3_comparison 39 = .ok (.ifCond .eq 7, 3) := by decide +kernel
theorem dX3_comparison_42 : decode cX3_comparison 42 = .ok (.iconst 2, 1) := by decide +kernel
theorem dX3_comparison_43 : decode cX3_comparison 43 = .ok (.goto 4, 3) := by decide +kernel
theorem dX3_comparison_46 : decode cX3_comparison 46 = .ok (.iconst (-1), 1) := by decide +kernel
theorem dX3_comparison_47 : decode cX3_comparison 47 = .ok (.istore_n 2, 1) := by decide +kernel
theorem dX3_comparison_48 : decode cX3_comparison 48 = .ok (.iload_n 2, 1) := by decide +kernel
theorem dX3_comparison_49 : decode cX3_comparison 49 = .ok (.iconst (-1), 1) := by decide +kernel
theorem dX3_comparison_50 : decode cX3_comparison 50 = .ok (.if_icmp .ne 8, 3) := by decide +kernel
theorem dX3_comparison_53 : decode cX3_comparison 53 = .ok (.aload_n 0, 1) := by decide +kernel
theorem dX3_comparison_54 : decode cX3_comparison 54 = .ok (.invokevirtual 85, 3) := by decide +kernel
theorem dX3_comparison_57 : decode cX3_comparison 57 = .ok (.return_, 1) := by decide +kernel
theorem dX3_comparison_58 : decode cX3_comparison 58 = .ok (.aload_n 0, 1) := by decide +kernel
theorem dX3_comparison_59 : decode cX3_comparison 59 = .ok (.invokevirtual 61, 3) := by decide +kernel
theorem dX3_comparison_62 : decode cX3_comparison 62 = .ok (.aload_n 0, 1) := by decide +kernel
theorem dX3_comparison_63 : decode cX3_comparison 63 = .ok (.iload_n 1, 1) := by decide +kernel
theorem dX3_comparison_64 : decode cX3_comparison 64 = .ok (.iload_n 2, 1) := by decide +kernel
theorem dX3_comparison_65 : decode cX3_comparison 65 = .ok (.aload_n 0, 1) := by decide +kernel
theorem dX3_comparison_66 : decode cX3_comparison 66 = .ok (.iconst 0, 1) := by decide +kernel
theorem dX3_comparison_67 : decode cX3_comparison 67 = .ok (.ldc 162, 2) := by decide +kernel
theorem dX3_comparison_69 : decode cX3_comparison 69 = .ok (.invokevirtual 130, 3) := by decide +kernel
theorem dX3_comparison_72 : decode cX3_comparison 72 = .ok (.invokestatic 202, 3) := by decide +kernel
theorem dX3_comparison_75 : decode cX3_comparison 75 = .ok (.invokevirtual 183, 3) := by decide +kernel
theorem dX3_comparison_78 : decode cX3_comparison 78 = .ok (.return_, 1) := by decide +kernel
theorem dX3_write_0 : decode cX3_write 0 = .ok (.aload_n 0, 1) := by decide +kernel
theorem dX3_write_1 : decode cX3_write 1 = .ok (.getfield 119, 3) := by decide +kernel
theorem dX3_write_4 : decode cX3_write 4 = .ok (.aload_n 0, 1) := by decide +kernel
theorem dX3_write_5 : decode cX3_write 5 = .ok (.getfield 31, 3) := by decide +kernel
theorem dX3_write_8 : decode cX3_write 8 = .ok (.arraylength, 1) := by decide +kernel
theorem dX3_write_9 : decode cX3_write 9 = .ok (.if_icmp .ge 23, 3) := by decide +kernel
theorem dX3_write_12 : decode cX3_write 12 = .ok (.aload_n 0, 1) := by decide +kernel
theorem dX3_write_13 : decode cX3_write 13 = .ok (.getfield 31, 3) := by decide +kernel
theorem dX3_write_16 : decode cX3_write 16 = .ok (.aload_n 0, 1) := by decide +kernel
theorem dX3_write_17 : decode cX3_write 17 = .ok (.getfield 119, 3) := by decide +kernel
theorem dX3_write_20 : decode cX3_write 20 = .ok (.iload_n 1, 1) := by decide +kernel
theorem dX3_write_21 : decode cX3_write 21 = .ok (.iastore, 1) := by decide +kernel
theorem dX3_write_22 : decode cX3_write 22 = .ok (.aload_n 0, 1) := by decide +kernel
theorem dX3_write_23 : decode cX3_write 23 = .ok (.dup, 1) := by decide +kernel
theorem dX3_write_24 : decode cX3_write 24 = .ok (.getfield 119, 3) := by decide +kernel
theorem dX3_write_27 : decode cX3_write 27 = .ok (.iconst 1, 1) := by decide +kernel
theorem dX3_write_28 : decode cX3_write 28 = .ok (.iadd, 1) := by decide +kernel
theorem dX3_write_29 : decode cX3_write 29 = .ok (.putfield 119, 3) := by decide +kernel
theorem dX3_write_32 : decode cX3_write 32 = .ok (.return_, 1) := by decide +kernel
theorem dX3_pick_0 : decode cX3_pick 0 = .ok (.aload_n 0, 1) := by decide +kernel
theorem dX3_pick_1 : decode cX3_pick 1 = .ok (.aload_n 1, 1) := by decide +kernel
theorem dX3_pick_2 : decode cX3_pick 2 = .ok (.invokevirtual 205, 3) := by decide +kernel
theorem dX3_pick_5 : decode cX3_pick 5 = .ok (.istore_n 2, 1) := by decide +kernel
theorem dX3_pick_6 : decode cX3_pick 6 = .ok (.iload_n 2, 1) := by decide +kernel
theorem dX3_pick_7 : decode cX3_pick 7 = .ok (.iconst (-1), 1) := by decide +kernel
theorem dX3_pick_8 : decode cX3_pick 8 = .ok (.if_icmp .ne 10, 3) := by decide +kernel
theorem dX3_pick_11 : decode cX3_pick 11 = .ok (.aload_n 0, 1) := by decide +kernel
theorem dX3_pick_12 : decode cX3_pick 12 = .ok (.invokevirtual 85, 3) := by decide +kernel
theorem dX3_pick_15 : decode cX3_pick 15 = .ok (.goto 7, 3) := by decide +kernel
theorem dX3_pick_18 : decode cX3_pick 18 = .ok (.aload_n 0, 1) := by decide +kernel
theorem dX3_pick_19 : decode cX3_pick 19 = .ok (.invokevirtual 61, 3) := by decide +kernel
theorem dX3_pick_22 : decode cX3_pick 22 = .ok (.iload_n 2, 1) := by decide +kernel
theorem dX3_pick_23 : decode cX3_pick 23 = .ok (.ireturn, 1) := by decide +kernel
theorem dX3_number_0 : decode cX3_number 0 = .ok (.aload_n 0, 1) := by decide +kernel
theorem dX3_number_1 : decode cX3_number 1 = .ok (.getfield 74, 3) := by decide +kernel
theorem dX3_number_4 : decode cX3_number 4 = .ok (.iconst 2, 1) := by decide +kernel
theorem dX3_number_5 : decode cX3_number 5 = .ok (.if_icmp .ne 10, 3) := by decide +kernel
theorem dX3_number_8 : decode cX3_number 8 = .ok (.aload_n 0, 1) := by decide +kernel
theorem dX3_number_9 : decode cX3_number 9 = .ok (.invokevirtual 108, 3) := by decide +kernel
theorem dX3_number_12 : decode cX3_number 12 = .ok (.goto 4, 3) := by decide +kernel
theorem dX3_number_15 : decode cX3_number 15 = .ok (.iconst (-1), 1) := by decide +kernel
theorem dX3_number_16 : decode cX3_number 16 = .ok (.istore_n 3, 1) := by decide +kernel
theorem dX3_number_17 : decode cX3_number 17 = .ok (.iload_n 3, 1) := by decide +kernel
theorem dX3_number_18 : decode cX3_number 18 = .ok (.iconst (-1), 1) := by decide +kernel
theorem dX3_number_19 : decode cX3_number 19 = .ok (.if_icmp .eq 13, 3) := by decide +kernel
theorem dX3_number_22 : decode cX3_number 22 = .ok (.iload_n 3, 1) := by decide +kernel
theorem dX3_number_23 : decode cX3_number 23 = .ok (.iload_n 1, 1) := by decide +kernel
theorem dX3_number_24 : decode cX3_number 24 = .ok (.if_icmp .lt 8, 3) := by decide +kernel
theorem dX3_number_27 : decode cX3_number 27 = .ok (.iload_n 3, 1) := by decide +kernel
theorem dX3_number_28 : decode cX3_number 28 = .ok (.iload_n 2, 1) := by decide +kernel
theorem dX3_number_29 : decode cX3_number 29 = .ok (.if_icmp .le 9, 3) := by decide +kernel
theorem dX3_number_32 : decode cX3_number 32 = .ok (.aload_n 0, 1) := by decide +kernel
theorem dX3_number_33 : decode cX3_number 33 = .ok (.invokevirtual 85, 3) := by decide +kernel
theorem dX3_number_36 : decode cX3_number 36 = .ok (.iconst (-1), 1) := by decide +kernel
theorem dX3_number_37 : decode cX3_number 37 = .ok (.ireturn, 1) := by decide +kernel
theorem dX3_number_38 : decode cX3_number 38 = .ok (.aload_n 0, 1) := by decide +kernel
theorem dX3_number_39 : decode cX3_number 39 = .ok (.invokevirtual 61, 3) := by decide +kernel
theorem dX3_number_42 : decode cX3_number 42 = .ok (.iload_n 3, 1) := by decide +kernel
theorem dX3_number_43 : decode cX3_number 43 = .ok (.ireturn, 1) := by decide +kernel
theorem dX3_sign_0 : decode cX3_sign 0 = .ok (.aload_n 0, 1) := by decide +kernel
theorem dX3_sign_1 : decode cX3_sign 1 = .ok (.iload_n 1, 1) := by decide +kernel
theorem dX3_sign_2 : decode cX3_sign 2 = .ok (.invokevirtual 193, 3) := by decide +kernel
theorem dX3_sign_5 : decode cX3_sign 5 = .ok (.ifCond .eq 10, 3) := by decide +kernel
theorem dX3_sign_8 : decode cX3_sign 8 = .ok (.aload_n 0, 1) := by decide +kernel
theorem dX3_sign_9 : decode cX3_sign 9 = .ok (.invokevirtual 61, 3) := by decide +kernel
theorem dX3_sign_12 : decode cX3_sign 12 = .ok (.goto 7, 3) := by decide +kernel
theorem dX3_sign_15 : decode cX3_sign 15 = .ok (.aload_n 0, 1) := by decide +kernel
theorem dX3_sign_16 : decode cX3_sign 16 = .ok (.invokevirtual 85, 3) := by decide +kernel
theorem dX3_sign_19 : decode cX3_sign 19 = .ok (.return_, 1) := by decide +kernel
theorem dX3_isWord_0 : decode cX3_isWord 0 = .ok (.aload_n 0, 1) := by decide +kernel
theorem dX3_isWord_1 : decode cX3_isWord 1 = .ok (.aload_n 1, 1) := by decide +kernel
theorem dX3_isWord_2 : decode cX3_isWord 2 = .ok (.invokevirtual 205, 3) := by decide +kernel
theorem dX3_isWord_5 : decode cX3_isWord 5 = .ok (.ifCond .ne 7, 3) := by decide +kernel
theorem dX3_isWord_8 : decode cX3_isWord 8 = .ok (.iconst 1, 1) := by decide +kernel
theorem dX3_isWord_9 : decode cX3_isWord 9 = .ok (.goto 4, 3) := by decide +kernel
theorem dX3_isWord_12 : decode cX3_isWord 12 = .ok (.iconst 0, 1) := by decide +kernel
theorem dX3_isWord_13 : decode cX3_isWord 13 = .ok (.ireturn, 1) := by decide +kernel
theorem dX3_isSign_0 : decode cX3_isSign 0 = .ok (.aload_n 0, 1) := by decide +kernel
theorem dX3_isSign_1 : decode cX3_isSign 1 = .ok (.getfield 74, 3) := by decide +kernel
theorem dX3_isSign_4 : decode cX3_isSign 4 = .ok (.iconst 3, 1) := by decide +kernel
theorem dX3_isSign_5 : decode cX3_isSign 5 = .ok (.if_icmp .ne 19, 3) := by decide +kernel
theorem dX3_isSign_8 : decode cX3_isSign 8 = .ok (.aload_n 0, 1) := by decide +kernel
theorem dX3_isSign_9 : decode cX3_isSign 9 = .ok (.aload_n 0, 1) := by decide +kernel
theorem dX3_isSign_10 : decode cX3_isSign 10 = .ok (.getfield 208, 3) := by decide +kernel
theorem dX3_isSign_13 : decode cX3_isSign 13 = .ok (.invokevirtual 211, 3) := by decide +kernel
theorem dX3_isSign_16 : decode cX3_isSign 16 = .ok (.iload_n 1, 1) := by decide +kernel
theorem dX3_isSign_17 : decode cX3_isSign 17 = .ok (.if_icmp .ne 7, 3) := by decide +kernel
theorem dX3_isSign_20 : decode cX3_isSign 20 = .ok (.iconst 1, 1) := by decide +kernel
theorem dX3_isSign_21 : decode cX3_isSign 21 = .ok (.goto 4, 3) := by decide +kernel
theorem dX3_isSign_24 : decode cX3_isSign 24 = .ok (.iconst 0, 1) := by decide +kernel
theorem dX3_isSign_25 : decode cX3_isSign 25 = .ok (.ireturn, 1) := by decide +kernel
theorem dX3_placeAmong_0 : decode cX3_placeAmong 0 = .ok (.aload_n 0, 1) := by decide +kernel
theorem dX3_placeAmong_1 : decode cX3_placeAmong 1 = .ok (.getfield 74, 3) := by decide +kernel
theorem dX3_placeAmong_4 : decode cX3_placeAmong 4 = .ok (.iconst 1, 1) := by decide +kernel
theorem dX3_placeAmong_5 : decode cX3_placeAmong 5 = .ok (.if_icmp .eq 5, 3) := by decide +kernel
theorem dX3_placeAmong_8 : decode cX3_placeAmong 8 = .ok (.iconst (-1), 1) := by decide +kernel
theorem dX3_placeAmong_9 : decode cX3_placeAmong 9 = .ok (.ireturn, 1) := by decide +kernel
theorem dX3_placeAmong_10 : decode cX3_placeAmong 10 = .ok (.iconst 0, 1) := by decide +kernel
theorem dX3_placeAmong_11 : decode cX3_placeAmong 11 = .ok (.istore_n 2, 1) := by decide +kernel
theorem dX3_placeAmong_12 : decode cX3_placeAmong 12 = .ok (.aload_n 0, 1) := by decide +kernel
theorem dX3_placeAmong_13 : decode cX3_placeAmong 13 = .ok (.getfield 208, 3) := by decide +kernel
theorem dX3_placeAmong_16 : decode cX3_placeAmong 16 = .ok (.istore_n 3, 1) := by decide +kernel
theorem dX3_placeAmong_17 : decode cX3_placeAmong 17 = .ok (.iconst 0, 1) := by decide +kernel
theorem dX3_placeAmong_18 : decode cX3_placeAmong 18 = .ok (.istore 4, 2) := by decide +kernel
theorem dX3_placeAmong_20 : decode cX3_placeAmong 20 = .ok (.iload 4, 2) := by decide +kernel
theorem dX3_placeAmong_22 : decode cX3_placeAmong 22 = .ok (.aload_n 1, 1) := by decide +kernel
theorem dX3_placeAmong_23 : decode cX3_placeAmong 23 = .ok (.invokevirtual 215, 3) := by decide +kernel
theorem dX3_placeAmong_26 : decode cX3_placeAmong 26 = .ok (.if_icmp .gt 90, 3) := by decide +kernel
theorem dX3_placeAmong_29 : decode cX3_placeAmong 29 = .ok (.iload 4, 2) := by decide +kernel
theorem dX3_placeAmong_31 : decode cX3_placeAmong 31 = .ok (.aload_n 1, 1) := by decide +kernel
theorem dX3_placeAmong_32 : decode cX3_placeAmong 32 = .ok (.invokevirtual 215, 3) := by decide +kernel
theorem dX3_placeAmong_35 : decode cX3_placeAmong 35 = .ok (.if_icmp .ge 12, 3) := by decide +kernel
theorem dX3_placeAmong_38 : decode cX3_placeAmong 38 = .ok (.aload_n 1, 1) := by decide +kernel
theorem dX3_placeAmong_39 : decode cX3_placeAmong 39 = .ok (.iload 4, 2) := by decide +kernel
theorem dX3_placeAmong_41 : decode cX3_placeAmong 41 = .ok (.invokevirtual 219, 3) := by decide +kernel
theorem dX3_placeAmong_44 : decode cX3_placeAmong 44 = .ok (.goto 5, 3) := by decide +kernel
theorem dX3_placeAmong_47 : decode cX3_placeAmong 47 = .ok (.bipush 32, 2) := by decide +kernel
theorem dX3_placeAmong_49 : decode cX3_placeAmong 49 = .ok (.istore 5, 2) := by decide +kernel
theorem dX3_placeAmong_51 : decode cX3_placeAmong 51 = .ok (.iload 5, 2) := by decide +kernel
theorem dX3_placeAmong_53 : decode cX3_placeAmong 53 = .ok (.bipush 32, 2) := by decide +kernel
theorem dX3_placeAmong_55 : decode cX3_placeAmong 55 = .ok (.if_icmp .eq 37, 3) := by decide +kernel
theorem dX3_placeAmong_58 : decode cX3_placeAmong 58 = .ok (.iload_n 3, 1) := by decide +kernel
theorem dX3_placeAmong_59 : decode cX3_placeAmong 59 = .ok (.aload_n 0, 1) := by decide +kernel
theorem dX3_placeAmong_60 : decode cX3_placeAmong 60 = .ok (.getfield 46, 3) := by decide +kernel
theorem dX3_placeAmong_63 : decode cX3_placeAmong 63 = .ok (.if_icmp .ge 19, 3) := by decide +kernel
theorem dX3_placeAmong_66 : decode cX3_placeAmong 66 = .ok (.aload_n 0, 1) := by decide +kernel
theorem dX3_placeAmong_67 : decode cX3_placeAmong 67 = .ok (.iload_n 3, 1) := by decide +kernel
theorem dX3_placeAmong_68 : decode cX3_placeAmong 68 = .ok (.invokevirtual 211, 3) := by decide +kernel
theorem dX3_placeAmong_71 : decode cX3_placeAmong 71 = .ok (.iload 5, 2) := by decide +kernel
theorem dX3_placeAmong_73 : decode cX3_placeAmong 73 = .ok (.if_icmp .ne 9, 3) := by decide +kernel
theorem dX3_placeAmong_76 : decode cX3_placeAmong 76 = .ok (.iload_n 3, 1) := by decide +kernel
theorem dX3_placeAmong_77 : decode cX3_placeAmong 77 = .ok (.iconst 1, 1) := by decide +kernel
theorem dX3_placeAmong_78 : decode cX3_placeAmong 78 = .ok (.iadd, 1) := by decide +kernel
theorem dX3_placeAmong_79 : decode cX3_placeAmong 79 = .ok (.goto 9, 3) := by decide +kernel
theorem dX3_placeAmong_82 : decode cX3_placeAmong 82 = .ok (.aload_n 0, 1) := by decide +kernel
theorem dX3_placeAmong_83 : decode cX3_placeAmong 83 = .ok (.getfield 43, 3) := by decide +kernel
theorem dX3_placeAmong_86 : decode cX3_placeAmong 86 = .ok (.iconst 1, 1) := by decide +kernel
theorem dX3_placeAmong_87 : decode cX3_placeAmong 87 = .ok (.iadd, 1) := by decide +kernel
theorem dX3_placeAmong_88 : decode cX3_placeAmong 88 = .ok (.istore_n 3, 1) := by decide +kernel
theorem dX3_placeAmong_89 : decode cX3_placeAmong 89 = .ok (.goto 21, 3) := by decide +kernel
theorem dX3_placeAmong_92 : decode cX3_placeAmong 92 = .ok (.iload_n 3, 1) := by decide +kernel
theorem dX3_placeAmong_93 : decode cX3_placeAmong 93 = .ok (.aload_n 0, 1) := by decide +kernel
theorem dX3_placeAmong_94 : decode cX3_placeAmong 94 = .ok (.getfield 46, 3) := by decide +kernel
theorem dX3_placeAmong_97 : decode cX3_placeAmong 97 = .ok (.if_icmp .ne 5, 3) := by decide +kernel
theorem dX3_placeAmong_100 : decode cX3_placeAmong 100 = .ok (.iload_n 2, 1) := by decide +kernel
theorem dX3_placeAmong_101 : decode cX3_placeAmong 101 = .ok (.ireturn, 1) := by decide +kernel
theorem dX3_placeAmong_102 : decode cX3_placeAmong 102 = .ok (.iinc 2 1, 3) := by decide +kernel
theorem dX3_placeAmong_105 : decode cX3_placeAmong 105 = .ok (.aload_n 0, 1) := by decide +kernel
theorem dX3_placeAmong_106 : decode cX3_placeAmong 106 = .ok (.getfield 208, 3) := by decide +kernel
theorem dX3_placeAmong_109 : decode cX3_placeAmong 109 = .ok (.istore_n 3, 1) := by decide +kernel
theorem dX3_placeAmong_110 : decode cX3_placeAmong 110 = .ok (.iinc 4 1, 3) := by decide +kernel
theorem dX3_placeAmong_113 : decode cX3_placeAmong 113 = .ok (.goto (-93), 3) := by decide +kernel
theorem dX3_placeAmong_116 : decode cX3_placeAmong 116 = .ok (.iconst (-1), 1) := by decide +kernel
theorem dX3_placeAmong_117 : decode cX3_placeAmong 117 = .ok (.ireturn, 1) := by decide +kernel
theorem dX3_value_0 : decode cX3_value 0 = .ok (.aload_n 0, 1) := by decide +kernel
theorem dX3_value_1 : decode cX3_value 1 = .ok (.getfield 46, 3) := by decide +kernel
theorem dX3_value_4 : decode cX3_value 4 = .ok (.aload_n 0, 1) := by decide +kernel
theorem dX3_value_5 : decode cX3_value 5 = .ok (.getfield 208, 3) := by decide +kernel
theorem dX3_value_8 : decode cX3_value 8 = .ok (.isub, 1) := by decide +kernel
theorem dX3_value_9 : decode cX3_value 9 = .ok (.iconst 5, 1) := by decide +kernel
theorem dX3_value_10 : decode cX3_value 10 = .ok (.if_icmp .le 5, 3) := by decide +kernel
theorem dX3_value_13 : decode cX3_value 13 = .ok (.iconst (-1), 1) := by decide +kernel
theorem dX3_value_14 : decode cX3_value 14 = .ok (.ireturn, 1) := by decide +kernel
theorem dX3_value_15 : decode cX3_value 15 = .ok (.iconst 0, 1) := by decide +kernel
theorem dX3_value_16 : decode cX3_value 16 = .ok (.istore_n 1, 1) := by decide +kernel
theorem dX3_value_17 : decode cX3_value 17 = .ok (.aload_n 0, 1) := by decide +kernel
theorem dX3_value_18 : decode cX3_value 18 = .ok (.getfield 208, 3) := by decide +kernel
theorem dX3_value_21 : decode cX3_value 21 = .ok (.istore_n 2, 1) := by decide +kernel
theorem dX3_value_22 : decode cX3_value 22 = .ok (.iload_n 2, 1) := by decide +kernel
theorem dX3_value_23 : decode cX3_value 23 = .ok (.aload_n 0, 1) := by decide +kernel
theorem dX3_value_24 : decode cX3_value 24 = .ok (.getfield 46, 3) := by decide +kernel
theorem dX3_value_27 : decode cX3_value 27 = .ok (.if_icmp .ge 23, 3) := by decide +kernel
theorem dX3_value_30 : decode cX3_value 30 = .ok (.iload_n 1, 1) := by decide +kernel
theorem dX3_value_31 : decode cX3_value 31 = .ok (.bipush 10, 2) := by decide +kernel
theorem dX3_value_33 : decode cX3_value 33 = .ok (.imul, 1) := by decide +kernel
theorem dX3_value_34 : decode cX3_value 34 = .ok (.aload_n 0, 1) := by decide +kernel
theorem dX3_value_35 : decode cX3_value 35 = .ok (.iload_n 2, 1) := by decide +kernel
theorem dX3_value_36 : decode cX3_value 36 = .ok (.invokevirtual 211, 3) := by decide +kernel
theorem dX3_value_39 : decode cX3_value 39 = .ok (.iadd, 1) := by decide +kernel
theorem dX3_value_40 : decode cX3_value 40 = .ok (.bipush 48, 2) := by decide +kernel
theorem dX3_value_42 : decode cX3_value 42 = .ok (.isub, 1) := by decide +kernel
theorem dX3_value_43 : decode cX3_value 43 = .ok (.istore_n 1, 1) := by decide +kernel
theorem dX3_value_44 : decode cX3_value 44 = .ok (.iinc 2 1, 3) := by decide +kernel
theorem dX3_value_47 : decode cX3_value 47 = .ok (.goto (-25), 3) := by decide +kernel
theorem dX3_value_50 : decode cX3_value 50 = .ok (.iload_n 1, 1) := by decide +kernel
theorem dX3_value_51 : decode cX3_value 51 = .ok (.ireturn, 1) := by decide +kernel
theorem dX3_fail_0 : decode cX3_fail 0 = .ok (.aload_n 0, 1) := by decide +kernel
theorem dX3_fail_1 : decode cX3_fail 1 = .ok (.getfield 18, 3) := by decide +kernel
theorem dX3_fail_4 : decode cX3_fail 4 = .ok (.iconst (-1), 1) := by decide +kernel
theorem dX3_fail_5 : decode cX3_fail 5 = .ok (.if_icmp .ne 11, 3) := by decide +kernel
theorem dX3_fail_8 : decode cX3_fail 8 = .ok (.aload_n 0, 1) := by decide +kernel
theorem dX3_fail_9 : decode cX3_fail 9 = .ok (.aload_n 0, 1) := by decide +kernel
theorem dX3_fail_10 : decode cX3_fail 10 = .ok (.getfield 208, 3) := by decide +kernel
theorem dX3_fail_13 : decode cX3_fail 13 = .ok (.putfield 18, 3) := by decide +kernel
theorem dX3_fail_16 : decode cX3_fail 16 = .ok (.aload_n 0, 1) := by decide +kernel
theorem dX3_fail_17 : decode cX3_fail 17 = .ok (.iconst 5, 1) := by decide +kernel
theorem dX3_fail_18 : decode cX3_fail 18 = .ok (.putfield 74, 3) := by decide +kernel
theorem dX3_fail_21 : decode cX3_fail 21 = .ok (.return_, 1) := by decide +kernel
theorem dX3_step_0 : decode cX3_step 0 = .ok (.aload_n 0, 1) := by decide +kernel
theorem dX3_step_1 : decode cX3_step 1 = .ok (.getfield 18, 3) := by decide +kernel
theorem dX3_step_4 : decode cX3_step 4 = .ok (.iconst (-1), 1) := by decide +kernel
theorem dX3_step_5 : decode cX3_step 5 = .ok (.if_icmp .eq 4, 3) := by decide +kernel
theorem dX3_step_8 : decode cX3_step 8 = .ok (.return_, 1) := by decide +kernel
theorem dX3_step_9 : decode cX3_step 9 = .ok (.aload_n 0, 1) := by decide +kernel
theorem dX3_step_10 : decode cX3_step 10 = .ok (.aload_n 0, 1) := by decide +kernel
theorem dX3_step_11 : decode cX3_step 11 = .ok (.getfield 46, 3) := by decide +kernel
theorem dX3_step_14 : decode cX3_step 14 = .ok (.putfield 208, 3) := by decide +kernel
theorem dX3_step_17 : decode cX3_step 17 = .ok (.aload_n 0, 1) := by decide +kernel
theorem dX3_step_18 : decode cX3_step 18 = .ok (.getfield 208, 3) := by decide +kernel
theorem dX3_step_21 : decode cX3_step 21 = .ok (.aload_n 0, 1) := by decide +kernel
theorem dX3_step_22 : decode cX3_step 22 = .ok (.getfield 43, 3) := by decide +kernel
theorem dX3_step_25 : decode cX3_step 25 = .ok (.if_icmp .ge 31, 3) := by decide +kernel
theorem dX3_step_28 : decode cX3_step 28 = .ok (.aload_n 0, 1) := by decide +kernel
theorem dX3_step_29 : decode cX3_step 29 = .ok (.aload_n 0, 1) := by decide +kernel
theorem dX3_step_30 : decode cX3_step 30 = .ok (.getfield 208, 3) := by decide +kernel
theorem dX3_step_33 : decode cX3_step 33 = .ok (.invokevirtual 211, 3) := by decide +kernel
theorem dX3_step_36 : decode cX3_step 36 = .ok (.invokestatic 223, 3) := by decide +kernel
theorem dX3_step_39 : decode cX3_step 39 = .ok (.iconst 4, 1) := by decide +kernel
theorem dX3_step_40 : decode cX3_step 40 = .ok (.if_icmp .ne 16, 3) := by decide +kernel
theorem dX3_step_43 : decode cX3_step 43 = .ok (.aload_n 0, 1) := by decide +kernel
theorem dX3_step_44 : decode cX3_step 44 = .ok (.dup, 1) := by decide +kernel
theorem dX3_step_45 : decode cX3_step 45 = .ok (.getfield 208, 3) := by decide +kernel
theorem dX3_step_48 : decode cX3_step 48 = .ok (.iconst 1, 1) := by decide +kernel
theorem dX3_step_49 : decode cX3_step 49 = .ok (.iadd, 1) := by decide +kernel
theorem dX3_step_50 : decode cX3_step 50 = .ok (.putfield 208, 3) := by decide +kernel
theorem dX3_step_53 : decode cX3_step 53 = .ok (.goto (-36), 3) := by decide +kernel
theorem dX3_step_56 : decode cX3_step 56 = .ok (.aload_n 0, 1) := by decide +kernel
theorem dX3_step_57 : decode cX3_step 57 = .ok (.aload_n 0, 1) := by decide +kernel
theorem dX3_step_58 : decode cX3_step 58 = .ok (.getfield 208, 3) := by decide +kernel
theorem dX3_step_61 : decode cX3_step 61 = .ok (.putfield 46, 3) := by decide +kernel
theorem dX3_step_64 : decode cX3_step 64 = .ok (.aload_n 0, 1) := by decide +kernel
theorem dX3_step_65 : decode cX3_step 65 = .ok (.aload_n 0, 1) := by decide +kernel
theorem dX3_step_66 : decode cX3_step 66 = .ok (.getfield 208, 3) := by decide +kernel
theorem dX3_step_69 : decode cX3_step 69 = .ok (.aload_n 0, 1) := by decide +kernel
theorem dX3_step_70 : decode cX3_step 70 = .ok (.getfield 43, 3) := by decide +kernel
theorem dX3_step_73 : decode cX3_step 73 = .ok (.if_icmp .ge 17, 3) := by decide +kernel
theorem dX3_step_76 : decode cX3_step 76 = .ok (.aload_n 0, 1) := by decide +kernel
theorem dX3_step_77 : decode cX3_step 77 = .ok (.aload_n 0, 1) := by decide +kernel
theorem dX3_step_78 : decode cX3_step 78 = .ok (.getfield 208, 3) := by decide +kernel
theorem dX3_step_81 : decode cX3_step 81 = .ok (.invokevirtual 211, 3) := by decide +kernel
theorem dX3_step_84 : decode cX3_step 84 = .ok (.invokestatic 223, 3) := by decide +kernel
theorem dX3_step_87 : decode cX3_step 87 = .ok (.goto 4, 3) := by decide +kernel
theorem dX3_step_90 : decode cX3_step 90 = .ok (.iconst 0, 1) := by decide +kernel
theorem dX3_step_91 : decode cX3_step 91 = .ok (.putfield 74, 3) := by decide +kernel
theorem dX3_step_94 : decode cX3_step 94 = .ok (.aload_n 0, 1) := by decide +kernel
theorem dX3_step_95 : decode cX3_step 95 = .ok (.getfield 74, 3) := by decide +kernel
theorem dX3_step_98 : decode cX3_step 98 = .ok (.ifCond .ne 4, 3) := by decide +kernel
theorem dX3_step_101 : decode cX3_step 101 = .ok (.return_, 1) := by decide +kernel
theorem dX3_step_102 : decode cX3_step 102 = .ok (.aload_n 0, 1) := by decide +kernel
theorem dX3_step_103 : decode cX3_step 103 = .ok (.dup, 1) := by decide +kernel
theorem dX3_step_104 : decode cX3_step 104 = .ok (.getfield 46, 3) := by decide +kernel
theorem dX3_step_107 : decode cX3_step 107 = .ok (.iconst 1, 1) := by decide +kernel
theorem dX3_step_108 : decode cX3_step 108 = .ok (.iadd, 1) := by decide +kernel
theorem dX3_step_109 : decode cX3_step 109 = .ok (.putfield 46, 3) := by decide +kernel
theorem dX3_step_112 : decode cX3_step 112 = .ok (.aload_n 0, 1) := by decide +kernel
theorem dX3_step_113 : decode cX3_step 113 = .ok (.getfield 46, 3) := by decide +kernel
theorem dX3_step_116 : decode cX3_step 116 = .ok (.aload_n 0, 1) := by decide +kernel
theorem dX3_step_117 : decode cX3_step 117 = .ok (.getfield 43, 3) := by decide +kernel
theorem dX3_step_120 : decode cX3_step 120 = .ok (.if_icmp .ge 50, 3) := by decide +kernel
theorem dX3_step_123 : decode cX3_step 123 = .ok (.aload_n 0, 1) := by decide +kernel
theorem dX3_step_124 : decode cX3_step 124 = .ok (.getfield 74, 3) := by decide +kernel
theorem dX3_step_127 : decode cX3_step 127 = .ok (.iconst 1, 1) := by decide +kernel
theorem dX3_step_128 : decode cX3_step 128 = .ok (.if_icmp .eq 11, 3) := by decide +kernel
theorem dX3_step_131 : decode cX3_step 131 = .ok (.aload_n 0, 1) := by decide +kernel
theorem dX3_step_132 : decode cX3_step 132 = .ok (.getfield 74, 3) := by decide +kernel
theorem dX3_step_135 : decode cX3_step 135 = .ok (.iconst 2, 1) := by decide +kernel
theorem dX3_step_136 : decode cX3_step 136 = .ok (.if_icmp .ne 34, 3) := by decide +kernel
theorem dX3_step_139 : decode cX3_step 139 = .ok (.aload_n 0, 1) := by decide +kernel
theorem dX3_step_140 : decode cX3_step 140 = .ok (.aload_n 0, 1) := by decide +kernel
theorem dX3_step_141 : decode cX3_step 141 = .ok (.getfield 46, 3) := by decide +kernel
theorem dX3_step_144 : decode cX3_step 144 = .ok (.invokevirtual 211, 3) := by decide +kernel
theorem dX3_step_147 : decode cX3_step 147 = .ok (.invokestatic 223, 3) := by decide +kernel
theorem dX3_step_150 : decode cX3_step 150 = .ok (.aload_n 0, 1) := by decide +kernel
theorem dX3_step_151 : decode cX3_step 151 = .ok (.getfield 74, 3) := by decide +kernel
theorem dX3_step_154 : decode cX3_step 154 = .ok (.if_icmp .ne 16, 3) := by decide +kernel
theorem dX3_step_157 : decode cX3_step 157 = .ok (.aload_n 0, 1) := by decide +kernel
theorem dX3_step_158 : decode cX3_step 158 = .ok (.dup, 1) := by decide +kernel
theorem dX3_step_159 : decode cX3_step 159 = .ok (.getfield 46, 3) := by decide +kernel
theorem dX3_step_162 : decode cX3_step 162 = .ok (.iconst 1, 1) := by decide +kernel
theorem dX3_step_163 : decode cX3_step 163 = .ok (.iadd, 1) := by decide +kernel
theorem dX3_step_164 : decode cX3_step 164 = .ok (.putfield 46, 3) := by decide +kernel
theorem dX3_step_167 : decode cX3_step 167 = .ok (.goto (-55), 3) := by decide +kernel
theorem dX3_step_170 : decode cX3_step 170 = .ok (.return_, 1) := by decide +kernel
theorem dX3_byteAt_0 : decode cX3_byteAt 0 = .ok (.iload_n 1, 1) := by decide +kernel
theorem dX3_byteAt_1 : decode cX3_byteAt 1 = .ok (.ifCond .lt 29, 3) := by decide +kernel
theorem dX3_byteAt_4 : decode cX3_byteAt 4 = .ok (.iload_n 1, 1) := by decide +kernel
theorem dX3_byteAt_5 : decode cX3_byteAt 5 = .ok (.aload_n 0, 1) := by decide +kernel
theorem dX3_byteAt_6 : decode cX3_byteAt 6 = .ok (.getfield 43, 3) := by decide +kernel
theorem dX3_byteAt_9 : decode cX3_byteAt 9 = .ok (.if_icmp .ge 21, 3) := by decide +kernel
theorem dX3_byteAt_12 : decode cX3_byteAt 12 = .ok (.iload_n 1, 1) := by decide +kernel
theorem dX3_byteAt_13 : decode cX3_byteAt 13 = .ok (.aload_n 0, 1) := by decide +kernel
theorem dX3_byteAt_14 : decode cX3_byteAt 14 = .ok (.getfield 13, 3) := by decide +kernel
theorem dX3_byteAt_17 : decode cX3_byteAt 17 = .ok (.arraylength, 1) := by decide +kernel
theorem dX3_byteAt_18 : decode cX3_byteAt 18 = .ok (.if_icmp .ge 12, 3) := by decide +kernel
theorem dX3_byteAt_21 : decode cX3_byteAt 21 = .ok (.aload_n 0, 1) := by decide +kernel
theorem dX3_byteAt_22 : decode cX3_byteAt 22 = .ok (.getfield 13, 3) := by decide +kernel
theorem dX3_byteAt_25 : decode cX3_byteAt 25 = .ok (.iload_n 1, 1) := by decide +kernel
theorem dX3_byteAt_26 : decode cX3_byteAt 26 = .ok (.iaload, 1) := by decide +kernel
theorem dX3_byteAt_27 : decode cX3_byteAt 27 = .ok (.goto 4, 3) := by decide +kernel
theorem dX3_byteAt_30 : decode cX3_byteAt 30 = .ok (.iconst (-1), 1) := by decide +kernel
theorem dX3_byteAt_31 : decode cX3_byteAt 31 = .ok (.ireturn, 1) := by decide +kernel
theorem dX3_kindOf_0 : decode cX3_kindOf 0 = .ok (.iload_n 0, 1) := by decide +kernel
theorem dX3_kindOf_1 : decode cX3_kindOf 1 = .ok (.bipush 97, 2) := by decide +kernel
theorem dX3_kindOf_3 : decode cX3_kindOf 3 = .ok (.if_icmp .lt 11, 3) := by decide +kernel
theorem dX3_kindOf_6 : decode cX3_kindOf 6 = .ok (.iload_n 0, 1) := by decide +kernel
theorem dX3_kindOf_7 : decode cX3_kindOf 7 = .ok (.bipush 122, 2) := by decide +kernel
theorem dX3_kindOf_9 : decode cX3_kindOf 9 = .ok (.if_icmp .gt 5, 3) := by decide +kernel
theorem dX3_kindOf_12 : decode cX3_kindOf 12 = .ok (.iconst 1, 1) := by decide +kernel
theorem dX3_kindOf_13 : decode cX3_kindOf 13 = .ok (.ireturn, 1) := by decide +kernel
theorem dX3_kindOf_14 : decode cX3_kindOf 14 = .ok (.iload_n 0, 1) := by decide +kernel
theorem dX3_kindOf_15 : decode cX3_kindOf 15 = .ok (.bipush 48, 2) := by decide +kernel
theorem dX3_kindOf_17 : decode cX3_kindOf 17 = .ok (.if_icmp .lt 11, 3) := by decide +kernel
theorem dX3_kindOf_20 : decode cX3_kindOf 20 = .ok (.iload_n 0, 1) := by decide +kernel
theorem dX3_kindOf_21 : decode cX3_kindOf 21 = .ok (.bipush 57, 2) := by decide +kernel
theorem dX3_kindOf_23 : decode cX3_kindOf 23 = .ok (.if_icmp .gt 5, 3) := by decide +kernel
theorem dX3_kindOf_26 : decode cX3_kindOf 26 = .ok (.iconst 2, 1) := by decide +kernel
theorem dX3_kindOf_27 : decode cX3_kindOf 27 = .ok (.ireturn, 1) := by decide +kernel
theorem dX3_kindOf_28 : decode cX3_kindOf 28 = .ok (.iload_n 0, 1) := by decide +kernel
theorem dX3_kindOf_29 : decode cX3_kindOf 29 = .ok (.lookupswitch 79 #[(10, 75), (32, 75), (40, 77), (41, 77), (59, 77), (60, 77), (61, 77), (62, 77)], 75) := by decide +kernel
theorem dX3_kindOf_104 : decode cX3_kindOf 104 = .ok (.iconst 4, 1) := by decide +kernel
theorem dX3_kindOf_105 : decode cX3_kindOf 105 = .ok (.ireturn, 1) := by decide +kernel
theorem dX3_kindOf_106 : decode cX3_kindOf 106 = .ok (.iconst 3, 1) := by decide +kernel
theorem dX3_kindOf_107 : decode cX3_kindOf 107 = .ok (.ireturn, 1) := by decide +kernel
theorem dX3_kindOf_108 : decode cX3_kindOf 108 = .ok (.iconst 5, 1) := by decide +kernel
theorem dX3_kindOf_109 : decode cX3_kindOf 109 = .ok (.ireturn, 1) := by decide +kernel
theorem dX4_init_0 : decode cX4_init 0 = .ok (.aload_n 0, 1) := by decide +kernel
theorem dX4_init_1 : decode cX4_init 1 = .ok (.invokespecial 3, 3) := by decide +kernel
theorem dX4_init_4 : decode cX4_init 4 = .ok (.aload_n 0, 1) := by decide +kernel
theorem dX4_init_5 : decode cX4_init 5 = .ok (.bipush 11, 2) := by decide +kernel
theorem dX4_init_7 : decode cX4_init 7 = .ok (.newarray .int, 2) := by decide +kernel
theorem dX4_init_9 : decode cX4_init 9 = .ok (.putfield 9, 3) := by decide +kernel
theorem dX4_init_12 : decode cX4_init 12 = .ok (.aload_n 0, 1) := by decide +kernel
theorem dX4_init_13 : decode cX4_init 13 = .ok (.new 15, 3) := by decide +kernel
theorem dX4_init_16 : decode cX4_init 16 = .ok (.dup, 1) := by decide +kernel
theorem dX4_init_17 : decode cX4_init 17 = .ok (.invokespecial 17, 3) := by decide +kernel
theorem dX4_init_20 : decode cX4_init 20 = .ok (.putfield 18, 3) := by decide +kernel
theorem dX4_init_23 : decode cX4_init 23 = .ok (.aload_n 0, 1) := by decide +kernel
theorem dX4_init_24 : decode cX4_init 24 = .ok (.new 22, 3) := by decide +kernel
theorem dX4_init_27 : decode cX4_init 27 = .ok (.dup, 1) := by decide +kernel
theorem dX4_init_28 : decode cX4_init 28 = .ok (.invokespecial 24, 3) := by decide +kernel
theorem dX4_init_31 : decode cX4_init 31 = .ok (.putfield 25, 3) := by decide +kernel
theorem dX4_init_34 : decode cX4_init 34 = .ok (.aload_n 0, 1) := by decide +kernel
theorem dX4_init_35 : decode cX4_init 35 = .ok (.new 29, 3) := by decide +kernel
theorem dX4_init_38 : decode cX4_init 38 = .ok (.dup, 1) := by decide +kernel
theorem dX4_init_39 : decode cX4_init 39 = .ok (.invokespecial 31, 3) := by decide +kernel
theorem dX4_init_42 : decode cX4_init 42 = .ok (.putfield 32, 3) := by decide +kernel
theorem dX4_init_45 : decode cX4_init 45 = .ok (.aload_n 0, 1) := by decide +kernel
theorem dX4_init_46 : decode cX4_init 46 = .ok (.new 29, 3) := by decide +kernel
theorem dX4_init_49 : decode cX4_init 49 = .ok (.dup, 1) := by decide +kernel
theorem dX4_init_50 : decode cX4_init 50 = .ok (.invokespecial 31, 3) := by decide +kernel
theorem dX4_init_53 : decode cX4_init 53 = .ok (.putfield 36, 3) := by decide +kernel
theorem dX4_init_56 : decode cX4_init 56 = .ok (.return_, 1) := by decide +kernel
theorem dX4_takeFirm_0 : decode cX4_takeFirm 0 = .ok (.aload_n 0, 1) := by decide +kernel
theorem dX4_takeFirm_1 : decode cX4_takeFirm 1 = .ok (.getfield 39, 3) := by decide +kernel
theorem dX4_takeFirm_4 : decode cX4_takeFirm 4 = .ok (.bipush 11, 2) := by decide +kernel
theorem dX4_takeFirm_6 : decode cX4_takeFirm 6 = .ok (.if_icmp .lt 5, 3) := by decide +kernel
theorem dX4_takeFirm_9 : decode cX4_takeFirm 9 = .ok (.iconst (-1), 1) := by decide +kernel
theorem dX4_takeFirm_10 : decode cX4_takeFirm 10 = .ok (.ireturn, 1) := by decide +kernel
theorem dX4_takeFirm_11 : decode cX4_takeFirm 11 = .ok (.aload_n 0, 1) := by decide +kernel
theorem dX4_takeFirm_12 : decode cX4_takeFirm 12 = .ok (.getfield 9, 3) := by decide +kernel
theorem dX4_takeFirm_15 : decode cX4_takeFirm 15 = .ok (.aload_n 0, 1) := by decide +kernel
theorem dX4_takeFirm_16 : decode cX4_takeFirm 16 = .ok (.getfield 39, 3) := by decide +kernel
theorem dX4_takeFirm_19 : decode cX4_takeFirm 19 = .ok (.iload_n 1, 1) := by decide +kernel
theorem dX4_takeFirm_20 : decode cX4_takeFirm 20 = .ok (.iastore, 1) := by decide +kernel
theorem dX4_takeFirm_21 : decode cX4_takeFirm 21 = .ok (.aload_n 0, 1) := by decide +kernel
theorem dX4_takeFirm_22 : decode cX4_takeFirm 22 = .ok (.dup, 1) := by decide +kernel
theorem dX4_takeFirm_23 : decode cX4_takeFirm 23 = .ok (.getfield 39, 3) := by decide +kernel
theorem dX4_takeFirm_26 : decode cX4_takeFirm 26 = .ok (.iconst 1, 1) := by decide +kernel
theorem dX4_takeFirm_27 : decode cX4_takeFirm 27 = .ok (.iadd, 1) := by decide +kernel
theorem dX4_takeFirm_28 : decode cX4_takeFirm 28 = .ok (.putfield 39, 3) := by decide +kernel
theorem dX4_takeFirm_31 : decode cX4_takeFirm 31 = .ok (.aload_n 0, 1) := by decide +kernel
theorem dX4_takeFirm_32 : decode cX4_takeFirm 32 = .ok (.getfield 39, 3) := by decide +kernel
theorem dX4_takeFirm_35 : decode cX4_takeFirm 35 = .ok (.iconst 1, 1) := by decide +kernel
theorem dX4_takeFirm_36 : decode cX4_takeFirm 36 = .ok (.isub, 1) := by decide +kernel
theorem dX4_takeFirm_37 : decode cX4_takeFirm 37 = .ok (.ireturn, 1) := by decide +kernel
theorem dX4_firstWorthOf_0 : decode cX4_firstWorthOf 0 = .ok (.iload_n 1, 1) := by decide +kernel
theorem dX4_firstWorthOf_1 : decode cX4_firstWorthOf 1 = .ok (.ifCond .lt 18, 3) := by decide +kernel
theorem dX4_firstWorthOf_4 : decode cX4_firstWorthOf 4 = .ok (.iload_n 1, 1) := by decide +kernel
theorem dX4_firstWorthOf_5 : decode cX4_firstWorthOf 5 = .ok (.bipush 11, 2) := by decide +kernel
theorem dX4_firstWorthOf_7 : decode cX4_firstWorthOf 7 = .ok (.if_icmp .ge 12, 3) := by decide +kernel
theorem dX4_firstWorthOf_10 : decode cX4_firstWorthOf 10 = .ok (.aload_n 0, 1) := by decide +kernel
theorem dX4_firstWorthOf_11 : decode cX4_firstWorthOf 11 = .ok (.getfield 9, 3) := by decide +kernel
theorem dX4_firstWorthOf_14 : decode cX4_firstWorthOf 14 = .ok (.iload_n 1, 1) := by decide +kernel
theorem dX4_firstWorthOf_15 : decode cX4_firstWorthOf 15 = .ok (.iaload, 1) := by decide +kernel
theorem dX4_firstWorthOf_16 : decode cX4_firstWorthOf 16 = .ok (.goto 4, 3) := by decide +kernel
theorem dX4_firstWorthOf_19 : decode cX4_firstWorthOf 19 = .ok (.iconst 0, 1) := by decide +kernel
theorem dX4_firstWorthOf_20 : decode cX4_firstWorthOf 20 = .ok (.ireturn, 1) := by decide +kernel
theorem dX4_homesOf_0 : decode cX4_homesOf 0 = .ok (.iconst 0, 1) := by decide +kernel
theorem dX4_homesOf_1 : decode cX4_homesOf 1 = .ok (.aload_n 0, 1) := by decide +kernel
theorem dX4_homesOf_2 : decode cX4_homesOf 2 = .ok (.getfield 18, 3) := by decide +kernel
theorem dX4_homesOf_5 : decode cX4_homesOf 5 = .ok (.iload_n 2, 1) := by decide +kernel
theorem dX4_homesOf_6 : decode cX4_homesOf 6 = .ok (.iload_n 3, 1) := by decide +kernel
theorem dX4_homesOf_7 : decode cX4_homesOf 7 = .ok (.bipush 11, 2) := by decide +kernel
theorem dX4_homesOf_9 : decode cX4_homesOf 9 = .ok (.iload_n 1, 1) := by decide +kernel
theorem dX4_homesOf_10 : decode cX4_homesOf 10 = .ok (.iadd, 1) := by decide +kernel
theorem dX4_homesOf_11 : decode cX4_homesOf 11 = .ok (.iload 4, 2) := by decide +kernel
theorem dX4_homesOf_13 : decode cX4_homesOf 13 = .ok (.invokevirtual 43, 3) := by decide +kernel
theorem dX4_homesOf_16 : decode cX4_homesOf 16 = .ok (.invokestatic 47, 3) := by decide +kernel
theorem dX4_homesOf_19 : decode cX4_homesOf 19 = .ok (.ireturn, 1) := by decide +kernel
theorem dX4_partOf_0 : decode cX4_partOf 0 = .ok (.lconst 0, 1) := by decide +kernel
theorem dX4_partOf_1 : decode cX4_partOf 1 = .ok (.lstore 7, 2) := by decide +kernel
theorem dX4_partOf_3 : decode cX4_partOf 3 = .ok (.iconst 0, 1) := by decide +kernel
theorem dX4_partOf_4 : decode cX4_partOf 4 = .ok (.istore 9, 2) := by decide +kernel
theorem dX4_partOf_6 : decode cX4_partOf 6 = .ok (.iload 9, 2) := by decide +kernel
theorem dX4_partOf_8 : decode cX4_partOf 8 = .ok (.iconst 3, 1) := by decide +kernel
theorem dX4_partOf_9 : decode cX4_partOf 9 = .ok (.if_icmp .ge 34, 3) := by decide +kernel
theorem dX4_partOf_12 : decode cX4_partOf 12 = .ok (.lload 7, 2) := by decide +kernel
theorem dX4_partOf_14 : decode cX4_partOf 14 = .ok (.aload_n 0, 1) := by decide +kernel
theorem dX4_partOf_15 : decode cX4_partOf 15 = .ok (.iload 9, 2) := by decide +kernel
theorem dX4_partOf_17 : decode cX4_partOf 17 = .ok (.invokevirtual 53, 3) := by decide +kernel
theorem dX4_partOf_20 : decode cX4_partOf 20 = .ok (.aload_n 0, 1) := by decide +kernel
theorem dX4_partOf_21 : decode cX4_partOf 21 = .ok (.iload 9, 2) := by decide +kernel
theorem dX4_partOf_23 : decode cX4_partOf 23 = .ok (.iload 4, 2) := by decide +kernel
theorem dX4_partOf_25 : decode cX4_partOf 25 = .ok (.iload 5, 2) := by decide +kernel
theorem dX4_partOf_27 : decode cX4_partOf 27 = .ok (.iload 6, 2) := by decide +kernel
theorem dX4_partOf_29 : decode cX4_partOf 29 = .ok (.invokevirtual 57, 3) := by decide +kernel
theorem dX4_partOf_32 : decode cX4_partOf 32 = .ok (.i2l, 1) := by decide +kernel
theorem dX4_partOf_33 : decode cX4_partOf 33 = .ok (.lmul, 1) := by decide +kernel
theorem dX4_partOf_34 : decode cX4_partOf 34 = .ok (.ladd, 1) := by decide +kernel
theorem dX4_partOf_35 : decode cX4_partOf 35 = .ok (.lstore 7, 2) := by decide +kernel
theorem dX4_partOf_37 : decode cX4_partOf 37 = .ok (.iinc 9 1, 3) := by decide +kernel
theorem dX4_partOf_40 : decode cX4_partOf 40 = .ok (.goto (-34), 3) := by decide +kernel
theorem dX4_partOf_43 : decode cX4_partOf 43 = .ok (.lload_n 1, 1) := by decide +kernel
theorem dX4_partOf_44 : decode cX4_partOf 44 = .ok (.aload_n 0, 1) := by decide +kernel
theorem dX4_partOf_45 : decode cX4_partOf 45 = .ok (.iload_n 3, 1) := by decide +kernel
theorem dX4_partOf_46 : decode cX4_partOf 46 = .ok (.invokevirtual 53, 3) := by decide +kernel
theorem dX4_partOf_49 : decode cX4_partOf 49 = .ok (.lmul, 1) := by decide +kernel
theorem dX4_partOf_50 : decode cX4_partOf 50 = .ok (.lload 7, 2) := by decide +kernel
theorem dX4_partOf_52 : decode cX4_partOf 52 = .ok (.invokestatic 60, 3) := by decide +kernel
theorem dX4_partOf_55 : decode cX4_partOf 55 = .ok (.lreturn, 1) := by decide +kernel
theorem dX4_partsOf_0 : decode cX4_partsOf 0 = .ok (.iload_n 1, 1) := by decide +kernel
theorem dX4_partsOf_1 : decode cX4_partsOf 1 = .ok (.ifCond .lt 20, 3) := by decide +kernel
theorem dX4_partsOf_4 : decode cX4_partsOf 4 = .ok (.iload_n 1, 1) := by decide +kernel
theorem dX4_partsOf_5 : decode cX4_partsOf 5 = .ok (.getstatic 66, 3) := by decide +kernel
theorem dX4_partsOf_8 : decode cX4_partsOf 8 = .ok (.arraylength, 1) := by decide +kernel
theorem dX4_partsOf_9 : decode cX4_partsOf 9 = .ok (.if_icmp .ge 12, 3) := by decide +kernel
theorem dX4_partsOf_12 : decode cX4_partsOf 12 = .ok (.getstatic 66, 3) := by decide +kernel
theorem dX4_partsOf_15 : decode cX4_partsOf 15 = .ok (.iload_n 1, 1) := by decide +kernel
theorem dX4_partsOf_16 : decode cX4_partsOf 16 = .ok (.iaload, 1) := by decide +kernel
theorem dX4_partsOf_17 : decode cX4_partsOf 17 = .ok (.i2l, 1) := by decide +kernel
theorem dX4_partsOf_18 : decode cX4_partsOf 18 = .ok (.goto 4, 3) := by decide +kernel
theorem dX4_partsOf_21 : decode cX4_partsOf 21 = .ok (.lconst 0, 1) := by decide +kernel
theorem dX4_partsOf_22 : decode cX4_partsOf 22 = .ok (.lreturn, 1) := by decide +kernel
theorem dX5_init_0 : decode cX5_init 0 = .ok (.aload_n 0, 1) := by decide +kernel
theorem dX5_init_1 : decode cX5_init 1 = .ok (.invokespecial 3, 3) := by decide +kernel
theorem dX5_init_4 : decode cX5_init 4 = .ok (.aload_n 0, 1) := by decide +kernel
theorem dX5_init_5 : decode cX5_init 5 = .ok (.getstatic 9, 3) := by decide +kernel
theorem dX5_init_8 : decode cX5_init 8 = .ok (.putfield 13, 3) := by decide +kernel
theorem dX5_init_11 : decode cX5_init 11 = .ok (.aload_n 0, 1) := by decide +kernel
theorem dX5_init_12 : decode cX5_init 12 = .ok (.iload_n 1, 1) := by decide +kernel
theorem dX5_init_13 : decode cX5_init 13 = .ok (.putfield 18, 3) := by decide +kernel
theorem dX5_init_16 : decode cX5_init 16 = .ok (.return_, 1) := by decide +kernel
theorem dX5_slotOf_0 : decode cX5_slotOf 0 = .ok (.iload_n 0, 1) := by decide +kernel
theorem dX5_slotOf_1 : decode cX5_slotOf 1 = .ok (.tableswitch 38 0 2 #[27, 29, 33], 27) := by decide +kernel
theorem dX5_slotOf_28 : decode cX5_slotOf 28 = .ok (.iload_n 1, 1) := by decide +kernel
theorem dX5_slotOf_29 : decode cX5_slotOf 29 = .ok (.ireturn, 1) := by decide +kernel
theorem dX5_slotOf_30 : decode cX5_slotOf 30 = .ok (.iconst 4, 1) := by decide +kernel
theorem dX5_slotOf_31 : decode cX5_slotOf 31 = .ok (.iload_n 1, 1) := by decide +kernel
theorem dX5_slotOf_32 : decode cX5_slotOf 32 = .ok (.iadd, 1) := by decide +kernel
theorem dX5_slotOf_33 : decode cX5_slotOf 33 = .ok (.ireturn, 1) := by decide +kernel
theorem dX5_slotOf_34 : decode cX5_slotOf 34 = .ok (.bipush 8, 2) := by decide +kernel
theorem dX5_slotOf_36 : decode cX5_slotOf 36 = .ok (.iload_n 1, 1) := by decide +kernel
theorem dX5_slotOf_37 : decode cX5_slotOf 37 = .ok (.iadd, 1) := by decide +kernel
theorem dX5_slotOf_38 : decode cX5_slotOf 38 = .ok (.ireturn, 1) := by decide +kernel
theorem dX5_slotOf_39 : decode cX5_slotOf 39 = .ok (.bipush 11, 2) := by decide +kernel
theorem dX5_slotOf_41 : decode cX5_slotOf 41 = .ok (.iload_n 0, 1) := by decide +kernel
theorem dX5_slotOf_42 : decode cX5_slotOf 42 = .ok (.iadd, 1) := by decide +kernel
theorem dX5_slotOf_43 : decode cX5_slotOf 43 = .ok (.iconst 3, 1) := by decide +kernel
theorem dX5_slotOf_44 : decode cX5_slotOf 44 = .ok (.isub, 1) := by decide +kernel
theorem dX5_slotOf_45 : decode cX5_slotOf 45 = .ok (.ireturn, 1) := by decide +kernel
theorem dX5_slot_0 : decode cX5_slot 0 = .ok (.aload_n 0, 1) := by decide +kernel
theorem dX5_slot_1 : decode cX5_slot 1 = .ok (.getfield 18, 3) := by decide +kernel
theorem dX5_slot_4 : decode cX5_slot 4 = .ok (.aload_n 0, 1) := by decide +kernel
theorem dX5_slot_5 : decode cX5_slot 5 = .ok (.getfield 22, 3) := by decide +kernel
theorem dX5_slot_8 : decode cX5_slot 8 = .ok (.invokestatic 25, 3) := by decide +kernel
theorem dX5_slot_11 : decode cX5_slot 11 = .ok (.ireturn, 1) := by decide +kernel
theorem dX5_hasUnless_0 : decode cX5_hasUnless 0 = .ok (.aload_n 0, 1) := by decide +kernel
theorem dX5_hasUnless_1 : decode cX5_hasUnless 1 = .ok (.getfield 13, 3) := by decide +kernel
theorem dX5_hasUnless_4 : decode cX5_hasUnless 4 = .ok (.arraylength, 1) := by decide +kernel
theorem dX5_hasUnless_5 : decode cX5_hasUnless 5 = .ok (.ifCond .le 7, 3) := by decide +kernel
theorem dX5_hasUnless_8 : decode cX5_hasUnless 8 = .ok (.iconst 1, 1) := by decide +kernel
theorem dX5_hasUnless_9 : decode cX5_hasUnless 9 = .ok (.goto 4, 3) := by decide +kernel
theorem dX5_hasUnless_12 : decode cX5_hasUnless 12 = .ok (.iconst 0, 1) := by decide +kernel
theorem dX5_hasUnless_13 : decode cX5_hasUnless 13 = .ok (.ireturn, 1) := by decide +kernel
theorem dX5_stands_0 : decode cX5_stands 0 = .ok (.aload_n 0, 1) := by decide +kernel
theorem dX5_stands_1 : decode cX5_stands 1 = .ok (.invokevirtual 29, 3) := by decide +kernel
theorem dX5_stands_4 : decode cX5_stands 4 = .ok (.ifCond .ne 5, 3) := by decide +kernel
theorem dX5_stands_7 : decode cX5_stands 7 = .ok (.iconst 1, 1) := by decide +kernel
theorem dX5_stands_8 : decode cX5_stands 8 = .ok (.ireturn, 1) := by decide +kernel
theorem dX5_stands_9 : decode cX5_stands 9 = .ok (.lconst 0, 1) := by decide +kernel
theorem dX5_stands_10 : decode cX5_stands 10 = .ok (.lstore_n 2, 1) := by decide +kernel
theorem dX5_stands_11 : decode cX5_stands 11 = .ok (.aload_n 0, 1) := by decide +kernel
theorem dX5_stands_12 : decode cX5_stands 12 = .ok (.getfield 13, 3) := by decide +kernel
theorem dX5_stands_15 : decode cX5_stands 15 = .ok (.astore 4, 2) := by decide +kernel
theorem dX5_stands_17 : decode cX5_stands 17 = .ok (.aload 4, 2) := by decide +kernel
theorem dX5_stands_19 : decode cX5_stands 19 = .ok (.arraylength, 1) := by decide +kernel
theorem dX5_stands_20 : decode cX5_stands 20 = .ok (.istore 5, 2) := by decide +kernel
theorem dX5_stands_22 : decode cX5_stands 22 = .ok (.iconst 0, 1) := by decide +kernel
theorem dX5_stands_23 : decode cX5_stands 23 = .ok (.istore 6, 2) := by decide +kernel
theorem dX5_stands_25 : decode cX5_stands 25 = .ok (.iload 6, 2) := by decide +kernel
theorem dX5_stands_27 : decode cX5_stands 27 = .ok (.iload 5, 2) := by decide +kernel
theorem dX5_stands_29 : decode cX5_stands 29 = .ok (.if_icmp .ge 88, 3) := by decide +kernel
theorem dX5_stands_32 : decode cX5_stands 32 = .ok (.aload 4, 2) := by decide +kernel
theorem dX5_stands_34 : decode cX5_stands 34 = .ok (.iload 6, 2) := by decide +kernel
theorem dX5_stands_36 : decode cX5_stands 36 = .ok (.iaload, 1) := by decide +kernel
theorem dX5_stands_37 : decode cX5_stands 37 = .ok (.istore 7, 2) := by decide +kernel
theorem dX5_stands_39 : decode cX5_stands 39 = .ok (.iload 7, 2) := by decide +kernel
theorem dX5_stands_41 : decode cX5_stands 41 = .ok (.iconst (-1), 1) := by decide +kernel
theorem dX5_stands_42 : decode cX5_stands 42 = .ok (.if_icmp .ne 10, 3) := by decide +kernel
theorem dX5_stands_45 : decode cX5_stands 45 = .ok (.lload_n 2, 1) := by decide +kernel
theorem dX5_stands_46 : decode cX5_stands 46 = .ok (.lconst 1, 1) := by decide +kernel
theorem dX5_stands_47 : decode cX5_stands 47 = .ok (.lxor, 1) := by decide +kernel
theorem dX5_stands_48 : decode cX5_stands 48 = .ok (.lstore_n 2, 1) := by decide +kernel
theorem dX5_stands_49 : decode cX5_stands 49 = .ok (.goto 62, 3) := by decide +kernel
theorem dX5_stands_52 : decode cX5_stands 52 = .ok (.iload 7, 2) := by decide +kernel
theorem dX5_stands_54 : decode cX5_stands 54 = .ok (.bipush (-2), 2) := by decide +kernel
theorem dX5_stands_56 : decode cX5_stands 56 = .ok (.if_icmp .ne 16, 3) := by decide +kernel
theorem dX5_stands_59 : decode cX5_stands 59 = .ok (.lload_n 2, 1) := by decide +kernel
theorem dX5_stands_60 : decode cX5_stands 60 = .ok (.iconst 1, 1) := by decide +kernel
theorem dX5_stands_61 : decode cX5_stands 61 = .ok (.lshr, 1) := by decide +kernel
theorem dX5_stands_62 : decode cX5_stands 62 = .ok (.lload_n 2, 1) := by decide +kernel
theorem dX5_stands_63 : decode cX5_stands 63 = .ok (.ldc2_w 33, 3) := by decide +kernel
theorem dX5_stands_66 : decode cX5_stands 66 = .ok (.lor, 1) := by decide +kernel
theorem dX5_stands_67 : decode cX5_stands 67 = .ok (.land, 1) := by decide +kernel
theorem dX5_stands_68 : decode cX5_stands 68 = .ok (.lstore_n 2, 1) := by decide +kernel
theorem dX5_stands_69 : decode cX5_stands 69 = .ok (.goto 42, 3) := by decide +kernel
theorem dX5_stands_72 : decode cX5_stands 72 = .ok (.iload 7, 2) := by decide +kernel
theorem dX5_stands_74 : decode cX5_stands 74 = .ok (.bipush (-3), 2) := by decide +kernel
theorem dX5_stands_76 : decode cX5_stands 76 = .ok (.if_icmp .ne 14, 3) := by decide +kernel
theorem dX5_stands_79 : decode cX5_stands 79 = .ok (.lload_n 2, 1) := by decide +kernel
theorem dX5_stands_80 : decode cX5_stands 80 = .ok (.iconst 1, 1) := by decide +kernel
theorem dX5_stands_81 : decode cX5_stands 81 = .ok (.lshr, 1) := by decide +kernel
theorem dX5_stands_82 : decode cX5_stands 82 = .ok (.lload_n 2, 1) := by decide +kernel
theorem dX5_stands_83 : decode cX5_stands 83 = .ok (.lconst 1, 1) := by decide +kernel
theorem dX5_stands_84 : decode cX5_stands 84 = .ok (.land, 1) := by decide +kernel
theorem dX5_stands_85 : decode cX5_stands 85 = .ok (.lor, 1) := by decide +kernel
theorem dX5_stands_86 : decode cX5_stands 86 = .ok (.lstore_n 2, 1) := by decide +kernel
theorem dX5_stands_87 : decode cX5_stands 87 = .ok (.goto 24, 3) := by decide +kernel
theorem dX5_stands_90 : decode cX5_stands 90 = .ok (.lload_n 2, 1) := by decide +kernel
theorem dX5_stands_91 : decode cX5_stands 91 = .ok (.iconst 1, 1) := by decide +kernel
theorem dX5_stands_92 : decode cX5_stands 92 = .ok (.lshl, 1) := by decide +kernel
theorem dX5_stands_93 : decode cX5_stands 93 = .ok (.aload_n 0, 1) := by decide +kernel
theorem dX5_stands_94 : decode cX5_stands 94 = .ok (.iload 7, 2) := by decide +kernel
theorem dX5_stands_96 : decode cX5_stands 96 = .ok (.aload_n 1, 1) := by decide +kernel
theorem dX5_stands_97 : decode cX5_stands 97 = .ok (.invokevirtual 35, 3) := by decide +kernel
theorem dX5_stands_100 : decode cX5_stands 100 = .ok (.ifCond .eq 7, 3) := by decide +kernel
theorem dX5_stands_103 : decode cX5_stands 103 = .ok (.iconst 1, 1) := by decide +kernel
theorem dX5_stands_104 : decode cX5_stands 104 = .ok (.goto 4, 3) := by decide +kernel
theorem dX5_stands_107 : decode cX5_stands 107 = .ok (.iconst 0, 1) := by decide +kernel
theorem dX5_stands_108 : decode cX5_stands 108 = .ok (.i2l, 1) := by decide +kernel
theorem dX5_stands_109 : decode cX5_stands 109 = .ok (.lor, 1) := by decide +kernel
theorem dX5_stands_110 : decode cX5_stands 110 = .ok (.lstore_n 2, 1) := by decide +kernel
theorem dX5_stands_111 : decode cX5_stands 111 = .ok (.iinc 6 1, 3) := by decide +kernel
theorem dX5_stands_114 : decode cX5_stands 114 = .ok (.goto (-89), 3) := by decide +kernel
theorem dX5_stands_117 : decode cX5_stands 117 = .ok (.lload_n 2, 1) := by decide +kernel
theorem dX5_stands_118 : decode cX5_stands 118 = .ok (.lconst 1, 1) := by decide +kernel
theorem dX5_stands_119 : decode cX5_stands 119 = .ok (.land, 1) := by decide +kernel
theorem dX5_stands_120 : decode cX5_stands 120 = .ok (.lconst 0, 1) := by decide +kernel
theorem dX5_stands_121 : decode cX5_stands 121 = .ok (.lcmp, 1) := by decide +kernel
theorem dX5_stands_122 : decode cX5_stands 122 = .ok (.ifCond .ne 7, 3) := by decide +kernel
theorem dX5_stands_125 : decode cX5_stands 125 = .ok (.iconst 1, 1) := by decide +kernel
theorem dX5_stands_126 : decode cX5_stands 126 = .ok (.goto 4, 3) := by decide +kernel
theorem dX5_stands_129 : decode cX5_stands 129 = .ok (.iconst 0, 1) := by decide +kernel
theorem dX5_stands_130 : decode cX5_stands 130 = .ok (.ireturn, 1) := by decide +kernel
theorem dX5_comparison_0 : decode cX5_comparison 0 = .ok (.iload_n 2, 1) := by decide +kernel
theorem dX5_comparison_1 : decode cX5_comparison 1 = .ok (.iconst 5, 1) := by decide +kernel
theorem dX5_comparison_2 : decode cX5_comparison 2 = .ok (.imul, 1) := by decide +kernel
theorem dX5_comparison_3 : decode cX5_comparison 3 = .ok (.iload_n 0, 1) := by decide +kernel
theorem dX5_comparison_4 : decode cX5_comparison 4 = .ok (.iadd, 1) := by decide +kernel
theorem dX5_comparison_5 : decode cX5_comparison 5 = .ok (.iconst 3, 1) := by decide +kernel
theorem dX5_comparison_6 : decode cX5_comparison 6 = .ok (.imul, 1) := by decide +kernel
theorem dX5_comparison_7 : decode cX5_comparison 7 = .ok (.iload_n 1, 1) := by decide +kernel
theorem dX5_comparison_8 : decode cX5_comparison 8 = .ok (.iadd, 1) := by decide +kernel
theorem dX5_comparison_9 : decode cX5_comparison 9 = .ok (.ireturn, 1) := by decide +kernel
theorem dX5_compares_0 : decode cX5_compares 0 = .ok (.iload_n 1, 1) := by decide +kernel
theorem dX5_compares_1 : decode cX5_compares 1 = .ok (.iconst 3, 1) := by decide +kernel
theorem dX5_compares_2 : decode cX5_compares 2 = .ok (.idiv, 1) := by decide +kernel
theorem dX5_compares_3 : decode cX5_compares 3 = .ok (.iconst 5, 1) := by decide +kernel
theorem dX5_compares_4 : decode cX5_compares 4 = .ok (.irem, 1) := by decide +kernel
theorem dX5_compares_5 : decode cX5_compares 5 = .ok (.istore_n 3, 1) := by decide +kernel
theorem dX5_compares_6 : decode cX5_compares 6 = .ok (.iload_n 3, 1) := by decide +kernel
theorem dX5_compares_7 : decode cX5_compares 7 = .ok (.ifCond .lt 9, 3) := by decide +kernel
theorem dX5_compares_10 : decode cX5_compares 10 = .ok (.iload_n 3, 1) := by decide +kernel
theorem dX5_compares_11 : decode cX5_compares 11 = .ok (.aload_n 2, 1) := by decide +kernel
theorem dX5_compares_12 : decode cX5_compares 12 = .ok (.arraylength, 1) := by decide +kernel
theorem dX5_compares_13 : decode cX5_compares 13 = .ok (.if_icmp .lt 5, 3) := by decide +kernel
theorem dX5_compares_16 : decode cX5_compares 16 = .ok (.iconst 0, 1) := by decide +kernel
theorem dX5_compares_17 : decode cX5_compares 17 = .ok (.ireturn, 1) := by decide +kernel
theorem dX5_compares_18 : decode cX5_compares 18 = .ok (.iload_n 1, 1) := by decide +kernel
theorem dX5_compares_19 : decode cX5_compares 19 = .ok (.iconst 3, 1) := by decide +kernel
theorem dX5_compares_20 : decode cX5_compares 20 = .ok (.idiv, 1) := by decide +kernel
theorem dX5_compares_21 : decode cX5_compares 21 = .ok (.iconst 5, 1) := by decide +kernel
theorem dX5_compares_22 : decode cX5_compares 22 = .ok (.idiv, 1) := by decide +kernel
theorem dX5_compares_23 : decode cX5_compares 23 = .ok (.i2l, 1) := by decide +kernel
theorem dX5_compares_24 : decode cX5_compares 24 = .ok (.lstore 4, 2) := by decide +kernel
theorem dX5_compares_26 : decode cX5_compares 26 = .ok (.iload_n 1, 1) := by decide +kernel
theorem dX5_compares_27 : decode cX5_compares 27 = .ok (.iconst 3, 1) := by decide +kernel
theorem dX5_compares_28 : decode cX5_compares 28 = .ok (.irem, 1) := by decide +kernel
theorem dX5_compares_29 : decode cX5_compares 29 = .ok (.lookupswitch 57 #[(0, 27), (1, 42)], 27) := by decide +kernel
theorem dX5_compares_56 : decode cX5_compares 56 = .ok (.aload_n 2, 1) := by decide +kernel
theorem dX5_compares_57 : decode cX5_compares 57 = .ok (.iload_n 3, 1) := by decide +kernel
theorem dX5_compares_58 : decode cX5_compares 58 = .ok (.laload, 1) := by decide +kernel
theorem dX5_compares_59 : decode cX5_compares 59 = .ok (.lload 4, 2) := by decide +kernel
theorem dX5_compares_61 : decode cX5_compares 61 = .ok (.lcmp, 1) := by decide +kernel
theorem dX5_compares_62 : decode cX5_compares 62 = .ok (.ifCond .ge 7, 3) := by decide +kernel
theorem dX5_compares_65 : decode cX5_compares 65 = .ok (.iconst 1, 1) := by decide +kernel
theorem dX5_compares_66 : decode cX5_compares 66 = .ok (.goto 4, 3) := by decide +kernel
theorem dX5_compares_69 : decode cX5_compares 69 = .ok (.iconst 0, 1) := by decide +kernel
theorem dX5_compares_70 : decode cX5_compares 70 = .ok (.ireturn, 1) := by decide +kernel
theorem dX5_compares_71 : decode cX5_compares 71 = .ok (.aload_n 2, 1) := by decide +kernel
theorem dX5_compares_72 : decode cX5_compares 72 = .ok (.iload_n 3, 1) := by decide +kernel
theorem dX5_compares_73 : decode cX5_compares 73 = .ok (.laload, 1) := by decide +kernel
theorem dX5_compares_74 : decode cX5_compares 74 = .ok (.lload 4, 2) := by decide +kernel
theorem dX5_compares_76 : decode cX5_compares 76 = .ok (.lcmp, 1) := by decide +kernel
theorem dX5_compares_77 : decode cX5_compares 77 = .ok (.ifCond .le 7, 3) := by decide +kernel
theorem dX5_compares_80 : decode cX5_compares 80 = .ok (.iconst 1, 1) := by decide +kernel
theorem dX5_compares_81 : decode cX5_compares 81 = .ok (.goto 4, 3) := by decide +kernel
theorem dX5_compares_84 : decode cX5_compares 84 = .ok (.iconst 0, 1) := by decide +kernel
theorem dX5_compares_85 : decode cX5_compares 85 = .ok (.ireturn, 1) := by decide +kernel
theorem dX5_compares_86 : decode cX5_compares 86 = .ok (.aload_n 2, 1) := by decide +kernel
theorem dX5_compares_87 : decode cX5_compares 87 = .ok (.iload_n 3, 1) := by decide +kernel
theorem dX5_compares_88 : decode cX5_compares 88 = .ok (.laload, 1) := by decide +kernel
theorem dX5_compares_89 : decode cX5_compares 89 = .ok (.lload 4, 2) := by decide +kernel
theorem dX5_compares_91 : decode cX5_compares 91 = .ok (.lcmp, 1) := by decide +kernel
theorem dX5_compares_92 : decode cX5_compares 92 = .ok (.ifCond .ne 7, 3) := by decide +kernel
theorem dX5_compares_95 : decode cX5_compares 95 = .ok (.iconst 1, 1) := by decide +kernel
theorem dX5_compares_96 : decode cX5_compares 96 = .ok (.goto 4, 3) := by decide +kernel
theorem dX5_compares_99 : decode cX5_compares 99 = .ok (.iconst 0, 1) := by decide +kernel
theorem dX5_compares_100 : decode cX5_compares 100 = .ok (.ireturn, 1) := by decide +kernel
theorem dX5_earns_0 : decode cX5_earns 0 = .ok (.aload_n 0, 1) := by decide +kernel
theorem dX5_earns_1 : decode cX5_earns 1 = .ok (.getfield 39, 3) := by decide +kernel
theorem dX5_earns_4 : decode cX5_earns 4 = .ok (.ifCond .ne 13, 3) := by decide +kernel
theorem dX5_earns_7 : decode cX5_earns 7 = .ok (.lload_n 1, 1) := by decide +kernel
theorem dX5_earns_8 : decode cX5_earns 8 = .ok (.aload_n 0, 1) := by decide +kernel
theorem dX5_earns_9 : decode cX5_earns 9 = .ok (.getfield 42, 3) := by decide +kernel
theorem dX5_earns_12 : decode cX5_earns 12 = .ok (.i2l, 1) := by decide +kernel
theorem dX5_earns_13 : decode cX5_earns 13 = .ok (.lsub, 1) := by decide +kernel
theorem dX5_earns_14 : decode cX5_earns 14 = .ok (.goto 10, 3) := by decide +kernel
theorem dX5_earns_17 : decode cX5_earns 17 = .ok (.aload_n 0, 1) := by decide +kernel
theorem dX5_earns_18 : decode cX5_earns 18 = .ok (.getfield 42, 3) := by decide +kernel
theorem dX5_earns_21 : decode cX5_earns 21 = .ok (.i2l, 1) := by decide +kernel
theorem dX5_earns_22 : decode cX5_earns 22 = .ok (.lload_n 1, 1) := by decide +kernel
theorem dX5_earns_23 : decode cX5_earns 23 = .ok (.lsub, 1) := by decide +kernel
theorem dX5_earns_24 : decode cX5_earns 24 = .ok (.lstore_n 3, 1) := by decide +kernel
theorem dX5_earns_25 : decode cX5_earns 25 = .ok (.lconst 0, 1) := by decide +kernel
theorem dX5_earns_26 : decode cX5_earns 26 = .ok (.lload_n 3, 1) := by decide +kernel
theorem dX5_earns_27 : decode cX5_earns 27 = .ok (.invokestatic 45, 3) := by decide +kernel
theorem dX5_earns_30 : decode cX5_earns 30 = .ok (.aload_n 0, 1) := by decide +kernel
theorem dX5_earns_31 : decode cX5_earns 31 = .ok (.getfield 51, 3) := by decide +kernel
theorem dX5_earns_34 : decode cX5_earns 34 = .ok (.i2l, 1) := by decide +kernel
theorem dX5_earns_35 : decode cX5_earns 35 = .ok (.lsub, 1) := by decide +kernel
theorem dX5_earns_36 : decode cX5_earns 36 = .ok (.invokestatic 54, 3) := by decide +kernel
theorem dX5_earns_39 : decode cX5_earns 39 = .ok (.lstore 5, 2) := by decide +kernel
theorem dX5_earns_41 : decode cX5_earns 41 = .ok (.aload_n 0, 1) := by decide +kernel
theorem dX5_earns_42 : decode cX5_earns 42 = .ok (.getfield 60, 3) := by decide +kernel
theorem dX5_earns_45 : decode cX5_earns 45 = .ok (.i2l, 1) := by decide +kernel
theorem dX5_earns_46 : decode cX5_earns 46 = .ok (.lload 5, 2) := by decide +kernel
theorem dX5_earns_48 : decode cX5_earns 48 = .ok (.aload_n 0, 1) := by decide +kernel
theorem dX5_earns_49 : decode cX5_earns 49 = .ok (.getfield 63, 3) := by decide +kernel
theorem dX5_earns_52 : decode cX5_earns 52 = .ok (.i2l, 1) := by decide +kernel
theorem dX5_earns_53 : decode cX5_earns 53 = .ok (.invokestatic 66, 3) := by decide +kernel
theorem dX5_earns_56 : decode cX5_earns 56 = .ok (.aload_n 0, 1) := by decide +kernel
theorem dX5_earns_57 : decode cX5_earns 57 = .ok (.getfield 69, 3) := by decide +kernel
theorem dX5_earns_60 : decode cX5_earns 60 = .ok (.i2l, 1) := by decide +kernel
theorem dX5_earns_61 : decode cX5_earns 61 = .ok (.lmul, 1) := by decide +kernel
theorem dX5_earns_62 : decode cX5_earns 62 = .ok (.invokestatic 72, 3) := by decide +kernel
theorem dX5_earns_65 : decode cX5_earns 65 = .ok (.lstore 7, 2) := by decide +kernel
theorem dX5_earns_67 : decode cX5_earns 67 = .ok (.lload_n 3, 1) := by decide +kernel
theorem dX5_earns_68 : decode cX5_earns 68 = .ok (.lconst 0, 1) := by decide +kernel
theorem dX5_earns_69 : decode cX5_earns 69 = .ok (.lcmp, 1) := by decide +kernel
theorem dX5_earns_70 : decode cX5_earns 70 = .ok (.ifCond .ge 9, 3) := by decide +kernel
theorem dX5_earns_73 : decode cX5_earns 73 = .ok (.lload 7, 2) := by decide +kernel
theorem dX5_earns_75 : decode cX5_earns 75 = .ok (.lneg, 1) := by decide +kernel
theorem dX5_earns_76 : decode cX5_earns 76 = .ok (.goto 5, 3) := by decide +kernel
theorem dX5_earns_79 : decode cX5_earns 79 = .ok (.lload 7, 2) := by decide +kernel
theorem dX5_earns_81 : decode cX5_earns 81 = .ok (.lreturn, 1) := by decide +kernel
theorem dX6_init_0 : decode cX6_init 0 = .ok (.aload_n 0, 1) := by decide +kernel
theorem dX6_init_1 : decode cX6_init 1 = .ok (.invokespecial 3, 3) := by decide +kernel
theorem dX6_init_4 : decode cX6_init 4 = .ok (.aload_n 0, 1) := by decide +kernel
theorem dX6_init_5 : decode cX6_init 5 = .ok (.iconst 0, 1) := by decide +kernel
theorem dX6_init_6 : decode cX6_init 6 = .ok (.iload_n 1, 1) := by decide +kernel
theorem dX6_init_7 : decode cX6_init 7 = .ok (.invokestatic 9, 3) := by decide +kernel
theorem dX6_init_10 : decode cX6_init 10 = .ok (.anewarray 15, 3) := by decide +kernel
theorem dX6_init_13 : decode cX6_init 13 = .ok (.putfield 17, 3) := by decide +kernel
theorem dX6_init_16 : decode cX6_init 16 = .ok (.return_, 1) := by decide +kernel
theorem dX6_add_0 : decode cX6_add 0 = .ok (.aload_n 0, 1) := by decide +kernel
theorem dX6_add_1 : decode cX6_add 1 = .ok (.getfield 23, 3) := by decide +kernel
theorem dX6_add_4 : decode cX6_add 4 = .ok (.aload_n 0, 1) := by decide +kernel
theorem dX6_add_5 : decode cX6_add 5 = .ok (.getfield 17, 3) := by decide +kernel
theorem dX6_add_8 : decode cX6_add 8 = .ok (.arraylength, 1) := by decide +kernel
theorem dX6_add_9 : decode cX6_add 9 = .ok (.if_icmp .ge 23, 3) := by decide +kernel
theorem dX6_add_12 : decode cX6_add 12 = .ok (.aload_n 0, 1) := by decide +kernel
theorem dX6_add_13 : decode cX6_add 13 = .ok (.getfield 17, 3) := by decide +kernel
theorem dX6_add_16 : decode cX6_add 16 = .ok (.aload_n 0, 1) := by decide +kernel
theorem dX6_add_17 : decode cX6_add 17 = .ok (.getfield 23, 3) := by decide +kernel
theorem dX6_add_20 : decode cX6_add 20 = .ok (.aload_n 1, 1) := by decide +kernel
theorem dX6_add_21 : decode cX6_add 21 = .ok (.aastore, 1) := by decide +kernel
theorem dX6_add_22 : decode cX6_add 22 = .ok (.aload_n 0, 1) := by decide +kernel
theorem dX6_add_23 : decode cX6_add 23 = .ok (.dup, 1) := by decide +kernel
theorem dX6_add_24 : decode cX6_add 24 = .ok (.getfield 23, 3) := by decide +kernel
theorem dX6_add_27 : decode cX6_add 27 = .ok (.iconst 1, 1) := by decide +kernel
theorem dX6_add_28 : decode cX6_add 28 = .ok (.iadd, 1) := by decide +kernel
theorem dX6_add_29 : decode cX6_add 29 = .ok (.putfield 23, 3) := by decide +kernel
theorem dX6_add_32 : decode cX6_add 32 = .ok (.return_, 1) := by decide +kernel
theorem dX6_at_0 : decode cX6_at 0 = .ok (.iload_n 1, 1) := by decide +kernel
theorem dX6_at_1 : decode cX6_at 1 = .ok (.ifCond .lt 20, 3) := by decide +kernel
theorem dX6_at_4 : decode cX6_at 4 = .ok (.iload_n 1, 1) := by decide +kernel
theorem dX6_at_5 : decode cX6_at 5 = .ok (.aload_n 0, 1) := by decide +kernel
theorem dX6_at_6 : decode cX6_at 6 = .ok (.getfield 23, 3) := by decide +kernel
theorem dX6_at_9 : decode cX6_at 9 = .ok (.if_icmp .ge 12, 3) := by decide +kernel
theorem dX6_at_12 : decode cX6_at 12 = .ok (.aload_n 0, 1) := by decide +kernel
theorem dX6_at_13 : decode cX6_at 13 = .ok (.getfield 17, 3) := by decide +kernel
theorem dX6_at_16 : decode cX6_at 16 = .ok (.iload_n 1, 1) := by decide +kernel
theorem dX6_at_17 : decode cX6_at 17 = .ok (.aaload, 1) := by decide +kernel
theorem dX6_at_18 : decode cX6_at 18 = .ok (.goto 4, 3) := by decide +kernel
theorem dX6_at_21 : decode cX6_at 21 = .ok (.aconst_null, 1) := by decide +kernel
theorem dX6_at_22 : decode cX6_at 22 = .ok (.areturn, 1) := by decide +kernel
theorem dX7_init_0 : decode cX7_init 0 = .ok (.aload_n 0, 1) := by decide +kernel
theorem dX7_init_1 : decode cX7_init 1 = .ok (.invokespecial 3, 3) := by decide +kernel
theorem dX7_init_4 : decode cX7_init 4 = .ok (.aload_n 0, 1) := by decide +kernel
theorem dX7_init_5 : decode cX7_init 5 = .ok (.iconst 3, 1) := by decide +kernel
theorem dX7_init_6 : decode cX7_init 6 = .ok (.anewarray 9, 3) := by decide +kernel
theorem dX7_init_9 : decode cX7_init 9 = .ok (.putfield 11, 3) := by decide +kernel
theorem dX7_init_12 : decode cX7_init 12 = .ok (.aload_n 0, 1) := by decide +kernel
theorem dX7_init_13 : decode cX7_init 13 = .ok (.bipush 15, 2) := by decide +kernel
theorem dX7_init_15 : decode cX7_init 15 = .ok (.bipush 17, 2) := by decide +kernel
theorem dX7_init_17 : decode cX7_init 17 = .ok (.multianewarray 17 2, 4) := by decide +kernel
theorem dX7_init_21 : decode cX7_init 21 = .ok (.putfield 19, 3) := by decide +kernel
theorem dX7_init_24 : decode cX7_init 24 = .ok (.aload_n 0, 1) := by decide +kernel
theorem dX7_init_25 : decode cX7_init 25 = .ok (.bipush 15, 2) := by decide +kernel
theorem dX7_init_27 : decode cX7_init 27 = .ok (.bipush 9, 2) := by decide +kernel
theorem dX7_init_29 : decode cX7_init 29 = .ok (.multianewarray 17 2, 4) := by decide +kernel
theorem dX7_init_33 : decode cX7_init 33 = .ok (.putfield 22, 3) := by decide +kernel
theorem dX7_init_36 : decode cX7_init 36 = .ok (.aload_n 0, 1) := by decide +kernel
theorem dX7_init_37 : decode cX7_init 37 = .ok (.bipush 16, 2) := by decide +kernel
theorem dX7_init_39 : decode cX7_init 39 = .ok (.newarray .long, 2) := by decide +kernel
theorem dX7_init_41 : decode cX7_init 41 = .ok (.putfield 25, 3) := by decide +kernel
theorem dX7_init_44 : decode cX7_init 44 = .ok (.aload_n 0, 1) := by decide +kernel
theorem dX7_init_45 : decode cX7_init 45 = .ok (.bipush 15, 2) := by decide +kernel
theorem dX7_init_47 : decode cX7_init 47 = .ok (.iconst 4, 1) := by decide +kernel
theorem dX7_init_48 : decode cX7_init 48 = .ok (.multianewarray 29 2, 4) := by decide +kernel
theorem dX7_init_52 : decode cX7_init 52 = .ok (.putfield 31, 3) := by decide +kernel
theorem dX7_init_55 : decode cX7_init 55 = .ok (.aload_n 0, 1) := by decide +kernel
theorem dX7_init_56 : decode cX7_init 56 = .ok (.bipush 15, 2) := by decide +kernel
theorem dX7_init_58 : decode cX7_init 58 = .ok (.bipush 15, 2) := by decide +kernel
theorem dX7_init_60 : decode cX7_init 60 = .ok (.multianewarray 29 2, 4) := by decide +kernel
theorem dX7_init_64 : decode cX7_init 64 = .ok (.putfield 34, 3) := by decide +kernel
theorem dX7_init_67 : decode cX7_init 67 = .ok (.aload_n 0, 1) := by decide +kernel
theorem dX7_init_68 : decode cX7_init 68 = .ok (.bipush 15, 2) := by decide +kernel
theorem dX7_init_70 : decode cX7_init 70 = .ok (.newarray .long, 2) := by decide +kernel
theorem dX7_init_72 : decode cX7_init 72 = .ok (.putfield 37, 3) := by decide +kernel
theorem dX7_init_75 : decode cX7_init 75 = .ok (.aload_n 0, 1) := by decide +kernel
theorem dX7_init_76 : decode cX7_init 76 = .ok (.bipush 15, 2) := by decide +kernel
theorem dX7_init_78 : decode cX7_init 78 = .ok (.newarray .long, 2) := by decide +kernel
theorem dX7_init_80 : decode cX7_init 80 = .ok (.putfield 40, 3) := by decide +kernel
theorem dX7_init_83 : decode cX7_init 83 = .ok (.aload_n 0, 1) := by decide +kernel
theorem dX7_init_84 : decode cX7_init 84 = .ok (.iconst 5, 1) := by decide +kernel
theorem dX7_init_85 : decode cX7_init 85 = .ok (.newarray .long, 2) := by decide +kernel
theorem dX7_init_87 : decode cX7_init 87 = .ok (.putfield 43, 3) := by decide +kernel
theorem dX7_init_90 : decode cX7_init 90 = .ok (.aload_n 0, 1) := by decide +kernel
theorem dX7_init_91 : decode cX7_init 91 = .ok (.aload_n 1, 1) := by decide +kernel
theorem dX7_init_92 : decode cX7_init 92 = .ok (.putfield 46, 3) := by decide +kernel
theorem dX7_init_95 : decode cX7_init 95 = .ok (.aload_n 0, 1) := by decide +kernel
theorem dX7_init_96 : decode cX7_init 96 = .ok (.new 50, 3) := by decide +kernel
theorem dX7_init_99 : decode cX7_init 99 = .ok (.dup, 1) := by decide +kernel
theorem dX7_init_100 : decode cX7_init 100 = .ok (.aload_n 1, 1) := by decide +kernel
theorem dX7_init_101 : decode cX7_init 101 = .ok (.invokespecial 52, 3) := by decide +kernel
theorem dX7_init_104 : decode cX7_init 104 = .ok (.putfield 55, 3) := by decide +kernel
theorem dX7_init_107 : decode cX7_init 107 = .ok (.return_, 1) := by decide +kernel
theorem dX7_useRules_0 : decode cX7_useRules 0 = .ok (.iload_n 1, 1) := by decide +kernel
theorem dX7_useRules_1 : decode cX7_useRules 1 = .ok (.ifCond .lt 15, 3) := by decide +kernel
theorem dX7_useRules_4 : decode cX7_useRules 4 = .ok (.iload_n 1, 1) := by decide +kernel
theorem dX7_useRules_5 : decode cX7_useRules 5 = .ok (.iconst 3, 1) := by decide +kernel
theorem dX7_useRules_6 : decode cX7_useRules 6 = .ok (.if_icmp .ge 10, 3) := by decide +kernel
theorem dX7_useRules_9 : decode cX7_useRules 9 = .ok (.aload_n 0, 1) := by decide +kernel
theorem dX7_useRules_10 : decode cX7_useRules 10 = .ok (.getfield 11, 3) := by decide +kernel
theorem dX7_useRules_13 : decode cX7_useRules 13 = .ok (.iload_n 1, 1) := by decide +kernel
theorem dX7_useRules_14 : decode cX7_useRules 14 = .ok (.aload_n 2, 1) := by decide +kernel
theorem dX7_useRules_15 : decode cX7_useRules 15 = .ok (.aastore, 1) := by decide +kernel
theorem dX7_useRules_16 : decode cX7_useRules 16 = .ok (.return_, 1) := by decide +kernel
theorem dX7_open_0 : decode cX7_open 0 = .ok (.aload_n 0, 1) := by decide +kernel
theorem dX7_open_1 : decode cX7_open 1 = .ok (.iload_n 1, 1) := by decide +kernel
theorem dX7_open_2 : decode cX7_open 2 = .ok (.putfield 59, 3) := by decide +kernel
theorem dX7_open_5 : decode cX7_open 5 = .ok (.aload_n 0, 1) := by decide +kernel
theorem dX7_open_6 : decode cX7_open 6 = .ok (.iload_n 3, 1) := by decide +kernel
theorem dX7_open_7 : decode cX7_open 7 = .ok (.putfield 63, 3) := by decide +kernel
theorem dX7_open_10 : decode cX7_open 10 = .ok (.aload_n 0, 1) := by decide +kernel
theorem dX7_open_11 : decode cX7_open 11 = .ok (.getfield 25, 3) := by decide +kernel
theorem dX7_open_14 : decode cX7_open 14 = .ok (.iconst 0, 1) := by decide +kernel
theorem dX7_open_15 : decode cX7_open 15 = .ok (.aload_n 0, 1) := by decide +kernel
theorem dX7_open_16 : decode cX7_open 16 = .ok (.getfield 46, 3) := by decide +kernel
theorem dX7_open_19 : decode cX7_open 19 = .ok (.aload_n 0, 1) := by decide +kernel
theorem dX7_open_20 : decode cX7_open 20 = .ok (.getfield 59, 3) := by decide +kernel
theorem dX7_open_23 : decode cX7_open 23 = .ok (.invokevirtual 66, 3) := by decide +kernel
theorem dX7_open_26 : decode cX7_open 26 = .ok (.i2l, 1) := by decide +kernel
theorem dX7_open_27 : decode cX7_open 27 = .ok (.lastore, 1) := by decide +kernel
theorem dX7_open_28 : decode cX7_open 28 = .ok (.iconst 0, 1) := by decide +kernel
theorem dX7_open_29 : decode cX7_open 29 = .ok (.istore 4, 2) := by decide +kernel
theorem dX7_open_31 : decode cX7_open 31 = .ok (.iload 4, 2) := by decide +kernel
theorem dX7_open_33 : decode cX7_open 33 = .ok (.iload_n 2, 1) := by decide +kernel
theorem dX7_open_34 : decode cX7_open 34 = .ok (.if_icmp .gt 93, 3) := by decide +kernel
theorem dX7_open_37 : decode cX7_open 37 = .ok (.iload 4, 2) := by decide +kernel
theorem dX7_open_39 : decode cX7_open 39 = .ok (.bipush 15, 2) := by decide +kernel
theorem dX7_open_41 : decode cX7_open 41 = .ok (.if_icmp .ge 86, 3) := by decide +kernel
theorem dX7_open_44 : decode cX7_open 44 = .ok (.aload_n 0, 1) := by decide +kernel
theorem dX7_open_45 : decode cX7_open 45 = .ok (.iload 4, 2) := by decide +kernel
theorem dX7_open_47 : decode cX7_open 47 = .ok (.invokevirtual 72, 3) := by decide +kernel
theorem dX7_open_50 : decode cX7_open 50 = .ok (.aload_n 0, 1) := by decide +kernel
theorem dX7_open_51 : decode cX7_open 51 = .ok (.getfield 25, 3) := by decide +kernel
theorem dX7_open_54 : decode cX7_open 54 = .ok (.iload 4, 2) := by decide +kernel
theorem dX7_open_56 : decode cX7_open 56 = .ok (.laload, 1) := by decide +kernel
theorem dX7_open_57 : decode cX7_open 57 = .ok (.aload_n 0, 1) := by decide +kernel
theorem dX7_open_58 : decode cX7_open 58 = .ok (.iload 4, 2) := by decide +kernel
theorem dX7_open_60 : decode cX7_open 60 = .ok (.iconst 4, 1) := by decide +kernel
theorem dX7_open_61 : decode cX7_open 61 = .ok (.invokevirtual 76, 3) := by decide +kernel
theorem dX7_open_64 : decode cX7_open 64 = .ok (.i2l, 1) := by decide +kernel
theorem dX7_open_65 : decode cX7_open 65 = .ok (.invokestatic 80, 3) := by decide +kernel
theorem dX7_open_68 : decode cX7_open 68 = .ok (.lstore 5, 2) := by decide +kernel
theorem dX7_open_70 : decode cX7_open 70 = .ok (.aload_n 0, 1) := by decide +kernel
theorem dX7_open_71 : decode cX7_open 71 = .ok (.getfield 25, 3) := by decide +kernel
theorem dX7_open_74 : decode cX7_open 74 = .ok (.iload 4, 2) := by decide +kernel
theorem dX7_open_76 : decode cX7_open 76 = .ok (.laload, 1) := by decide +kernel
theorem dX7_open_77 : decode cX7_open 77 = .ok (.aload_n 0, 1) := by decide +kernel
theorem dX7_open_78 : decode cX7_open 78 = .ok (.iload 4, 2) := by decide +kernel
theorem dX7_open_80 : decode cX7_open 80 = .ok (.iconst 5, 1) := by decide +kernel
theorem dX7_open_81 : decode cX7_open 81 = .ok (.invokevirtual 76, 3) := by decide +kernel
theorem dX7_open_84 : decode cX7_open 84 = .ok (.i2l, 1) := by decide +kernel
theorem dX7_open_85 : decode cX7_open 85 = .ok (.invokestatic 80, 3) := by decide +kernel
theorem dX7_open_88 : decode cX7_open 88 = .ok (.lstore 7, 2) := by decide +kernel
theorem dX7_open_90 : decode cX7_open 90 = .ok (.aload_n 0, 1) := by decide +kernel
theorem dX7_open_91 : decode cX7_open 91 = .ok (.getfield 25, 3) := by decide +kernel
theorem dX7_open_94 : decode cX7_open 94 = .ok (.iload 4, 2) := by decide +kernel
theorem dX7_open_96 : decode cX7_open 96 = .ok (.iconst 1, 1) := by decide +kernel
theorem dX7_open_97 : decode cX7_open 97 = .ok (.iadd, 1) := by decide +kernel
theorem dX7_open_98 : decode cX7_open 98 = .ok (.lload 5, 2) := by decide +kernel
theorem dX7_open_100 : decode cX7_open 100 = .ok (.aload_n 0, 1) := by decide +kernel
theorem dX7_open_101 : decode cX7_open 101 = .ok (.getfield 46, 3) := by decide +kernel
theorem dX7_open_104 : decode cX7_open 104 = .ok (.getfield 86, 3) := by decide +kernel
theorem dX7_open_107 : decode cX7_open 107 = .ok (.aload_n 0, 1) := by decide +kernel
theorem dX7_open_108 : decode cX7_open 108 = .ok (.getfield 59, 3) := by decide +kernel
theorem dX7_open_111 : decode cX7_open 111 = .ok (.iload 4, 2) := by decide +kernel
theorem dX7_open_113 : decode cX7_open 113 = .ok (.invokevirtual 90, 3) := by decide +kernel
theorem dX7_open_116 : decode cX7_open 116 = .ok (.ladd, 1) := by decide +kernel
theorem dX7_open_117 : decode cX7_open 117 = .ok (.lload 7, 2) := by decide +kernel
theorem dX7_open_119 : decode cX7_open 119 = .ok (.lsub, 1) := by decide +kernel
theorem dX7_open_120 : decode cX7_open 120 = .ok (.lastore, 1) := by decide +kernel
theorem dX7_open_121 : decode cX7_open 121 = .ok (.iinc 4 1, 3) := by decide +kernel
theorem dX7_open_124 : decode cX7_open 124 = .ok (.goto (-93), 3) := by decide +kernel
theorem dX7_open_127 : decode cX7_open 127 = .ok (.return_, 1) := by decide +kernel
theorem dX7_settle_0 : decode cX7_settle 0 = .ok (.iload_n 1, 1) := by decide +kernel
theorem dX7_settle_1 : decode cX7_settle 1 = .ok (.ifCond .lt 9, 3) := by decide +kernel
theorem dX7_settle_4 : decode cX7_settle 4 = .ok (.iload_n 1, 1) := by decide +kernel
theorem dX7_settle_5 : decode cX7_settle 5 = .ok (.bipush 15, 2) := by decide +kernel
theorem dX7_settle_7 : decode cX7_settle 7 = .ok (.if_icmp .lt 4, 3) := by decide +kernel
theorem dX7_settle_10 : decode cX7_settle 10 = .ok (.return_, 1) := by decide +kernel
theorem dX7_settle_11 : decode cX7_settle 11 = .ok (.aload_n 0, 1) := by decide +kernel
theorem dX7_settle_12 : decode cX7_settle 12 = .ok (.getfield 19, 3) := by decide +kernel
theorem dX7_settle_15 : decode cX7_settle 15 = .ok (.iload_n 1, 1) := by decide +kernel
theorem dX7_settle_16 : decode cX7_settle 16 = .ok (.aaload, 1) := by decide +kernel
theorem dX7_settle_17 : decode cX7_settle 17 = .ok (.astore_n 2, 1) := by decide +kernel
theorem dX7_settle_18 : decode cX7_settle 18 = .ok (.aload_n 0, 1) := by decide +kernel
theorem dX7_settle_19 : decode cX7_settle 19 = .ok (.getfield 22, 3) := by decide +kernel
theorem dX7_settle_22 : decode cX7_settle 22 = .ok (.iload_n 1, 1) := by decide +kernel
theorem dX7_settle_23 : decode cX7_settle 23 = .ok (.aaload, 1) := by decide +kernel
theorem dX7_settle_24 : decode cX7_settle 24 = .ok (.astore_n 3, 1) := by decide +kernel
theorem dX7_settle_25 : decode cX7_settle 25 = .ok (.aload_n 2, 1) := by decide +kernel
theorem dX7_settle_26 : decode cX7_settle 26 = .ok (.iconst (-1), 1) := by decide +kernel
theorem dX7_settle_27 : decode cX7_settle 27 = .ok (.invokestatic 96, 3) := by decide +kernel
theorem dX7_settle_30 : decode cX7_settle 30 = .ok (.aload_n 3, 1) := by decide +kernel
theorem dX7_settle_31 : decode cX7_settle 31 = .ok (.iconst 0, 1) := by decide +kernel
theorem dX7_settle_32 : decode cX7_settle 32 = .ok (.invokestatic 96, 3) := by decide +kernel
theorem dX7_settle_35 : decode cX7_settle 35 = .ok (.aload_n 3, 1) := by decide +kernel
theorem dX7_settle_36 : decode cX7_settle 36 = .ok (.iconst 4, 1) := by decide +kernel
theorem dX7_settle_37 : decode cX7_settle 37 = .ok (.bipush 100, 2) := by decide +kernel
theorem dX7_settle_39 : decode cX7_settle 39 = .ok (.iastore, 1) := by decide +kernel
theorem dX7_settle_40 : decode cX7_settle 40 = .ok (.aload_n 3, 1) := by decide +kernel
theorem dX7_settle_41 : decode cX7_settle 41 = .ok (.bipush 7, 2) := by decide +kernel
theorem dX7_settle_43 : decode cX7_settle 43 = .ok (.iconst (-1), 1) := by decide +kernel
theorem dX7_settle_44 : decode cX7_settle 44 = .ok (.iastore, 1) := by decide +kernel
theorem dX7_settle_45 : decode cX7_settle 45 = .ok (.aload_n 0, 1) := by decide +kernel
theorem dX7_settle_46 : decode cX7_settle 46 = .ok (.iload_n 1, 1) := by decide +kernel
theorem dX7_settle_47 : decode cX7_settle 47 = .ok (.invokevirtual 102, 3) := by decide +kernel
theorem dX7_settle_50 : decode cX7_settle 50 = .ok (.astore 4, 2) := by decide +kernel
theorem dX7_settle_52 : decode cX7_settle 52 = .ok (.aload 4, 2) := by decide +kernel
theorem dX7_settle_54 : decode cX7_settle 54 = .ok (.ifnonnull 4, 3) := by decide +kernel
theorem dX7_settle_57 : decode cX7_settle 57 = .ok (.return_, 1) := by decide +kernel
theorem dX7_settle_58 : decode cX7_settle 58 = .ok (.aload_n 0, 1) := by decide +kernel
theorem dX7_settle_59 : decode cX7_settle 59 = .ok (.iload_n 1, 1) := by decide +kernel
theorem dX7_settle_60 : decode cX7_settle 60 = .ok (.invokevirtual 106, 3) := by decide +kernel
theorem dX7_settle_63 : decode cX7_settle 63 = .ok (.iconst 0, 1) := by decide +kernel
theorem dX7_settle_64 : decode cX7_settle 64 = .ok (.istore 5, 2) := by decide +kernel
theorem dX7_settle_66 : decode cX7_settle 66 = .ok (.iload 5, 2) := by decide +kernel
theorem dX7_settle_68 : decode cX7_settle 68 = .ok (.aload 4, 2) := by decide +kernel
theorem dX7_settle_70 : decode cX7_settle 70 = .ok (.getfield 109, 3) := by decide +kernel
theorem dX7_settle_73 : decode cX7_settle 73 = .ok (.if_icmp .ge 93, 3) := by decide +kernel
theorem dX7_settle_76 : decode cX7_settle 76 = .ok (.aload 4, 2) := by decide +kernel
theorem dX7_settle_78 : decode cX7_settle 78 = .ok (.iload 5, 2) := by decide +kernel
theorem dX7_settle_80 : decode cX7_settle 80 = .ok (.invokevirtual 112, 3) := by decide +kernel
theorem dX7_settle_83 : decode cX7_settle 83 = .ok (.astore 6, 2) := by decide +kernel
theorem dX7_settle_85 : decode cX7_settle 85 = .ok (.aload 6, 2) := by decide +kernel
theorem dX7_settle_87 : decode cX7_settle 87 = .ok (.ifnull 73, 3) := by decide +kernel
theorem dX7_settle_90 : decode cX7_settle 90 = .ok (.aload 6, 2) := by decide +kernel
theorem dX7_settle_92 : decode cX7_settle 92 = .ok (.aload_n 0, 1) := by decide +kernel
theorem dX7_settle_93 : decode cX7_settle 93 = .ok (.getfield 43, 3) := by decide +kernel
theorem dX7_settle_96 : decode cX7_settle 96 = .ok (.invokevirtual 116, 3) := by decide +kernel
theorem dX7_settle_99 : decode cX7_settle 99 = .ok (.ifCond .ne 6, 3) := by decide +kernel
theorem dX7_settle_102 : decode cX7_settle 102 = .ok (.goto 58, 3) := by decide +kernel
theorem dX7_settle_105 : decode cX7_settle 105 = .ok (.aload 6, 2) := by decide +kernel
theorem dX7_settle_107 : decode cX7_settle 107 = .ok (.invokevirtual 122, 3) := by decide +kernel
theorem dX7_settle_110 : decode cX7_settle 110 = .ok (.istore 7, 2) := by decide +kernel
theorem dX7_settle_112 : decode cX7_settle 112 = .ok (.iload 7, 2) := by decide +kernel
theorem dX7_settle_114 : decode cX7_settle 114 = .ok (.ifCond .lt 46, 3) := by decide +kernel
theorem dX7_settle_117 : decode cX7_settle 117 = .ok (.iload 7, 2) := by decide +kernel
theorem dX7_settle_119 : decode cX7_settle 119 = .ok (.bipush 17, 2) := by decide +kernel
theorem dX7_settle_121 : decode cX7_settle 121 = .ok (.if_icmp .ge 39, 3) := by decide +kernel
theorem dX7_settle_124 : decode cX7_settle 124 = .ok (.aload 6, 2) := by decide +kernel
theorem dX7_settle_126 : decode cX7_settle 126 = .ok (.getfield 126, 3) := by decide +kernel
theorem dX7_settle_129 : decode cX7_settle 129 = .ok (.ifCond .lt 31, 3) := by decide +kernel
theorem dX7_settle_132 : decode cX7_settle 132 = .ok (.aload 6, 2) := by decide +kernel
theorem dX7_settle_134 : decode cX7_settle 134 = .ok (.getfield 126, 3) := by decide +kernel
theorem dX7_settle_137 : decode cX7_settle 137 = .ok (.bipush 9, 2) := by decide +kernel
theorem dX7_settle_139 : decode cX7_settle 139 = .ok (.if_icmp .ge 21, 3) := by decide +kernel
theorem dX7_settle_142 : decode cX7_settle 142 = .ok (.aload_n 2, 1) := by decide +kernel
theorem dX7_settle_143 : decode cX7_settle 143 = .ok (.iload 7, 2) := by decide +kernel
theorem dX7_settle_145 : decode cX7_settle 145 = .ok (.iload 5, 2) := by decide +kernel
theorem dX7_settle_147 : decode cX7_settle 147 = .ok (.iastore, 1) := by decide +kernel
theorem dX7_settle_148 : decode cX7_settle 148 = .ok (.aload_n 3, 1) := by decide +kernel
theorem dX7_settle_149 : decode cX7_settle 149 = .ok (.aload 6, 2) := by decide +kernel
theorem dX7_settle_151 : decode cX7_settle 151 = .ok (.getfield 126, 3) := by decide +kernel
theorem dX7_settle_154 : decode cX7_settle 154 = .ok (.aload 6, 2) := by decide +kernel
theorem dX7_settle_156 : decode cX7_settle 156 = .ok (.getfield 129, 3) := by decide +kernel
theorem dX7_settle_159 : decode cX7_settle 159 = .ok (.iastore, 1) := by decide +kernel
theorem dX7_settle_160 : decode cX7_settle 160 = .ok (.iinc 5 1, 3) := by decide +kernel
theorem dX7_settle_163 : decode cX7_settle 163 = .ok (.goto (-97), 3) := by decide +kernel
theorem dX7_settle_166 : decode cX7_settle 166 = .ok (.return_, 1) := by decide +kernel
theorem dX7_findWords_0 : decode cX7_findWords 0 = .ok (.aload_n 0, 1) := by decide +kernel
theorem dX7_findWords_1 : decode cX7_findWords 1 = .ok (.getfield 43, 3) := by decide +kernel
theorem dX7_findWords_4 : decode cX7_findWords 4 = .ok (.iconst 0, 1) := by decide +kernel
theorem dX7_findWords_5 : decode cX7_findWords 5 = .ok (.iload_n 1, 1) := by decide +kernel
theorem dX7_findWords_6 : decode cX7_findWords 6 = .ok (.i2l, 1) := by decide +kernel
theorem dX7_findWords_7 : decode cX7_findWords 7 = .ok (.lastore, 1) := by decide +kernel
theorem dX7_findWords_8 : decode cX7_findWords 8 = .ok (.aload_n 0, 1) := by decide +kernel
theorem dX7_findWords_9 : decode cX7_findWords 9 = .ok (.getfield 43, 3) := by decide +kernel
theorem dX7_findWords_12 : decode cX7_findWords 12 = .ok (.iconst 1, 1) := by decide +kernel
theorem dX7_findWords_13 : decode cX7_findWords 13 = .ok (.aload_n 0, 1) := by decide +kernel
theorem dX7_findWords_14 : decode cX7_findWords 14 = .ok (.getfield 59, 3) := by decide +kernel
theorem dX7_findWords_17 : decode cX7_findWords 17 = .ok (.i2l, 1) := by decide +kernel
theorem dX7_findWords_18 : decode cX7_findWords 18 = .ok (.lastore, 1) := by decide +kernel
theorem dX7_findWords_19 : decode cX7_findWords 19 = .ok (.aload_n 0, 1) := by decide +kernel
theorem dX7_findWords_20 : decode cX7_findWords 20 = .ok (.getfield 43, 3) := by decide +kernel
theorem dX7_findWords_23 : decode cX7_findWords 23 = .ok (.iconst 2, 1) := by decide +kernel
theorem dX7_findWords_24 : decode cX7_findWords 24 = .ok (.aload_n 0, 1) := by decide +kernel
theorem dX7_findWords_25 : decode cX7_findWords 25 = .ok (.getfield 46, 3) := by decide +kernel
theorem dX7_findWords_28 : decode cX7_findWords 28 = .ok (.getfield 132, 3) := by decide +kernel
theorem dX7_findWords_31 : decode cX7_findWords 31 = .ok (.aload_n 0, 1) := by decide +kernel
theorem dX7_findWords_32 : decode cX7_findWords 32 = .ok (.getfield 59, 3) := by decide +kernel
theorem dX7_findWords_35 : decode cX7_findWords 35 = .ok (.iload_n 1, 1) := by decide +kernel
theorem dX7_findWords_36 : decode cX7_findWords 36 = .ok (.iload_n 1, 1) := by decide +kernel
theorem dX7_findWords_37 : decode cX7_findWords 37 = .ok (.invokestatic 136, 3) := by decide +kernel
theorem dX7_findWords_40 : decode cX7_findWords 40 = .ok (.invokevirtual 139, 3) := by decide +kernel
theorem dX7_findWords_43 : decode cX7_findWords 43 = .ok (.i2l, 1) := by decide +kernel
theorem dX7_findWords_44 : decode cX7_findWords 44 = .ok (.lastore, 1) := by decide +kernel
theorem dX7_findWords_45 : decode cX7_findWords 45 = .ok (.aload_n 0, 1) := by decide +kernel
theorem dX7_findWords_46 : decode cX7_findWords 46 = .ok (.getfield 43, 3) := by decide +kernel
theorem dX7_findWords_49 : decode cX7_findWords 49 = .ok (.iconst 3, 1) := by decide +kernel
theorem dX7_findWords_50 : decode cX7_findWords 50 = .ok (.aload_n 0, 1) := by decide +kernel
theorem dX7_findWords_51 : decode cX7_findWords 51 = .ok (.getfield 25, 3) := by decide +kernel
theorem dX7_findWords_54 : decode cX7_findWords 54 = .ok (.iload_n 1, 1) := by decide +kernel
theorem dX7_findWords_55 : decode cX7_findWords 55 = .ok (.laload, 1) := by decide +kernel
theorem dX7_findWords_56 : decode cX7_findWords 56 = .ok (.lastore, 1) := by decide +kernel
theorem dX7_findWords_57 : decode cX7_findWords 57 = .ok (.aload_n 0, 1) := by decide +kernel
theorem dX7_findWords_58 : decode cX7_findWords 58 = .ok (.getfield 43, 3) := by decide +kernel
theorem dX7_findWords_61 : decode cX7_findWords 61 = .ok (.iconst 4, 1) := by decide +kernel
theorem dX7_findWords_62 : decode cX7_findWords 62 = .ok (.aload_n 0, 1) := by decide +kernel
theorem dX7_findWords_63 : decode cX7_findWords 63 = .ok (.getfield 46, 3) := by decide +kernel
theorem dX7_findWords_66 : decode cX7_findWords 66 = .ok (.getfield 86, 3) := by decide +kernel
theorem dX7_findWords_69 : decode cX7_findWords 69 = .ok (.aload_n 0, 1) := by decide +kernel
theorem dX7_findWords_70 : decode cX7_findWords 70 = .ok (.getfield 59, 3) := by decide +kernel
theorem dX7_findWords_73 : decode cX7_findWords 73 = .ok (.iload_n 1, 1) := by decide +kernel
theorem dX7_findWords_74 : decode cX7_findWords 74 = .ok (.invokevirtual 145, 3) := by decide +kernel
theorem dX7_findWords_77 : decode cX7_findWords 77 = .ok (.i2l, 1) := by decide +kernel
theorem dX7_findWords_78 : decode cX7_findWords 78 = .ok (.lastore, 1) := by decide +kernel
theorem dX7_findWords_79 : decode cX7_findWords 79 = .ok (.return_, 1) := by decide +kernel
theorem dX7_bookOf_0 : decode cX7_bookOf 0 = .ok (.iload_n 1, 1) := by decide +kernel
theorem dX7_bookOf_1 : decode cX7_bookOf 1 = .ok (.ifCond .lt 20, 3) := by decide +kernel
theorem dX7_bookOf_4 : decode cX7_bookOf 4 = .ok (.iload_n 1, 1) := by decide +kernel
theorem dX7_bookOf_5 : decode cX7_bookOf 5 = .ok (.bipush 15, 2) := by decide +kernel
theorem dX7_bookOf_7 : decode cX7_bookOf 7 = .ok (.if_icmp .ge 14, 3) := by decide +kernel
theorem dX7_bookOf_10 : decode cX7_bookOf 10 = .ok (.aload_n 0, 1) := by decide +kernel
theorem dX7_bookOf_11 : decode cX7_bookOf 11 = .ok (.getfield 11, 3) := by decide +kernel
theorem dX7_bookOf_14 : decode cX7_bookOf 14 = .ok (.iload_n 1, 1) := by decide +kernel
theorem dX7_bookOf_15 : decode cX7_bookOf 15 = .ok (.iconst 5, 1) := by decide +kernel
theorem dX7_bookOf_16 : decode cX7_bookOf 16 = .ok (.idiv, 1) := by decide +kernel
theorem dX7_bookOf_17 : decode cX7_bookOf 17 = .ok (.aaload, 1) := by decide +kernel
theorem dX7_bookOf_18 : decode cX7_bookOf 18 = .ok (.goto 4, 3) := by decide +kernel
theorem dX7_bookOf_21 : decode cX7_bookOf 21 = .ok (.aconst_null, 1) := by decide +kernel
theorem dX7_bookOf_22 : decode cX7_bookOf 22 = .ok (.areturn, 1) := by decide +kernel
theorem dX7_decidedOn_0 : decode cX7_decidedOn 0 = .ok (.iload_n 0, 1) := by decide +kernel
theorem dX7_decidedOn_1 : decode cX7_decidedOn 1 = .ok (.iconst 5, 1) := by decide +kernel
theorem dX7_decidedOn_2 : decode cX7_decidedOn 2 = .ok (.idiv, 1) := by decide +kernel
theorem dX7_decidedOn_3 : decode cX7_decidedOn 3 = .ok (.sipush 500, 3) := by decide +kernel
theorem dX7_decidedOn_6 : decode cX7_decidedOn 6 = .ok (.imul, 1) := by decide +kernel
theorem dX7_decidedOn_7 : decode cX7_decidedOn 7 = .ok (.ireturn, 1) := by decide +kernel
theorem dX7_standsAt_0 : decode cX7_standsAt 0 = .ok (.iload_n 1, 1) := by decide +kernel
theorem dX7_standsAt_1 : decode cX7_standsAt 1 = .ok (.ifCond .lt 19, 3) := by decide +kernel
theorem dX7_standsAt_4 : decode cX7_standsAt 4 = .ok (.iload_n 1, 1) := by decide +kernel
theorem dX7_standsAt_5 : decode cX7_standsAt 5 = .ok (.bipush 15, 2) := by decide +kernel
theorem dX7_standsAt_7 : decode cX7_standsAt 7 = .ok (.if_icmp .ge 13, 3) := by decide +kernel
theorem dX7_standsAt_10 : decode cX7_standsAt 10 = .ok (.iload_n 2, 1) := by decide +kernel
theorem dX7_standsAt_11 : decode cX7_standsAt 11 = .ok (.ifCond .lt 9, 3) := by decide +kernel
theorem dX7_standsAt_14 : decode cX7_standsAt 14 = .ok (.iload_n 2, 1) := by decide +kernel
theorem dX7_standsAt_15 : decode cX7_standsAt 15 = .ok (.bipush 17, 2) := by decide +kernel
theorem dX7_standsAt_17 : decode cX7_standsAt 17 = .ok (.if_icmp .lt 5, 3) := by decide +kernel
theorem dX7_standsAt_20 : decode cX7_standsAt 20 = .ok (.iconst (-1), 1) := by decide +kernel
theorem dX7_standsAt_21 : decode cX7_standsAt 21 = .ok (.ireturn, 1) := by decide +kernel
theorem dX7_standsAt_22 : decode cX7_standsAt 22 = .ok (.aload_n 0, 1) := by decide +kernel
theorem dX7_standsAt_23 : decode cX7_standsAt 23 = .ok (.getfield 19, 3) := by decide +kernel
theorem dX7_standsAt_26 : decode cX7_standsAt 26 = .ok (.iload_n 1, 1) := by decide +kernel
theorem dX7_standsAt_27 : decode cX7_standsAt 27 = .ok (.aaload, 1) := by decide +kernel
theorem dX7_standsAt_28 : decode cX7_standsAt 28 = .ok (.iload_n 2, 1) := by decide +kernel
theorem dX7_standsAt_29 : decode cX7_standsAt 29 = .ok (.iaload, 1) := by decide +kernel
theorem dX7_standsAt_30 : decode cX7_standsAt 30 = .ok (.ireturn, 1) := by decide +kernel
theorem dX7_ruleAt_0 : decode cX7_ruleAt 0 = .ok (.aload_n 0, 1) := by decide +kernel
theorem dX7_ruleAt_1 : decode cX7_ruleAt 1 = .ok (.iload_n 1, 1) := by decide +kernel
theorem dX7_ruleAt_2 : decode cX7_ruleAt 2 = .ok (.invokevirtual 102, 3) := by decide +kernel
theorem dX7_ruleAt_5 : decode cX7_ruleAt 5 = .ok (.astore 4, 2) := by decide +kernel
theorem dX7_ruleAt_7 : decode cX7_ruleAt 7 = .ok (.aload 4, 2) := by decide +kernel
theorem dX7_ruleAt_9 : decode cX7_ruleAt 9 = .ok (.ifnonnull 7, 3) := by decide +kernel
theorem dX7_ruleAt_12 : decode cX7_ruleAt 12 = .ok (.aconst_null, 1) := by decide +kernel
theorem dX7_ruleAt_13 : decode cX7_ruleAt 13 = .ok (.goto 18, 3) := by decide +kernel
theorem dX7_ruleAt_16 : decode cX7_ruleAt 16 = .ok (.aload 4, 2) := by decide +kernel
theorem dX7_ruleAt_18 : decode cX7_ruleAt 18 = .ok (.aload_n 0, 1) := by decide +kernel
theorem dX7_ruleAt_19 : decode cX7_ruleAt 19 = .ok (.iload_n 1, 1) := by decide +kernel
theorem dX7_ruleAt_20 : decode cX7_ruleAt 20 = .ok (.iload_n 2, 1) := by decide +kernel
theorem dX7_ruleAt_21 : decode cX7_ruleAt 21 = .ok (.iload_n 3, 1) := by decide +kernel
theorem dX7_ruleAt_22 : decode cX7_ruleAt 22 = .ok (.invokestatic 148, 3) := by decide +kernel
theorem dX7_ruleAt_25 : decode cX7_ruleAt 25 = .ok (.invokevirtual 151, 3) := by decide +kernel
theorem dX7_ruleAt_28 : decode cX7_ruleAt 28 = .ok (.invokevirtual 112, 3) := by decide +kernel
theorem dX7_ruleAt_31 : decode cX7_ruleAt 31 = .ok (.areturn, 1) := by decide +kernel
theorem dX7_numberAt_0 : decode cX7_numberAt 0 = .ok (.iload_n 1, 1) := by decide +kernel
theorem dX7_numberAt_1 : decode cX7_numberAt 1 = .ok (.ifCond .lt 24, 3) := by decide +kernel
theorem dX7_numberAt_4 : decode cX7_numberAt 4 = .ok (.iload_n 1, 1) := by decide +kernel
theorem dX7_numberAt_5 : decode cX7_numberAt 5 = .ok (.bipush 15, 2) := by decide +kernel
theorem dX7_numberAt_7 : decode cX7_numberAt 7 = .ok (.if_icmp .ge 18, 3) := by decide +kernel
theorem dX7_numberAt_10 : decode cX7_numberAt 10 = .ok (.iload_n 2, 1) := by decide +kernel
theorem dX7_numberAt_11 : decode cX7_numberAt 11 = .ok (.iconst 3, 1) := by decide +kernel
theorem dX7_numberAt_12 : decode cX7_numberAt 12 = .ok (.if_icmp .lt 13, 3) := by decide +kernel
theorem dX7_numberAt_15 : decode cX7_numberAt 15 = .ok (.iload_n 2, 1) := by decide +kernel
theorem dX7_numberAt_16 : decode cX7_numberAt 16 = .ok (.bipush 9, 2) := by decide +kernel
theorem dX7_numberAt_18 : decode cX7_numberAt 18 = .ok (.if_icmp .ge 7, 3) := by decide +kernel
theorem dX7_numberAt_21 : decode cX7_numberAt 21 = .ok (.iconst 1, 1) := by decide +kernel
theorem dX7_numberAt_22 : decode cX7_numberAt 22 = .ok (.goto 4, 3) := by decide +kernel
theorem dX7_numberAt_25 : decode cX7_numberAt 25 = .ok (.iconst 0, 1) := by decide +kernel
theorem dX7_numberAt_26 : decode cX7_numberAt 26 = .ok (.istore_n 3, 1) := by decide +kernel
theorem dX7_numberAt_27 : decode cX7_numberAt 27 = .ok (.iload_n 3, 1) := by decide +kernel
theorem dX7_numberAt_28 : decode cX7_numberAt 28 = .ok (.ifCond .eq 14, 3) := by decide +kernel
theorem dX7_numberAt_31 : decode cX7_numberAt 31 = .ok (.aload_n 0, 1) := by decide +kernel
theorem dX7_numberAt_32 : decode cX7_numberAt 32 = .ok (.getfield 22, 3) := by decide +kernel
theorem dX7_numberAt_35 : decode cX7_numberAt 35 = .ok (.iload_n 1, 1) := by decide +kernel
theorem dX7_numberAt_36 : decode cX7_numberAt 36 = .ok (.aaload, 1) := by decide +kernel
theorem dX7_numberAt_37 : decode cX7_numberAt 37 = .ok (.iload_n 2, 1) := by decide +kernel
theorem dX7_numberAt_38 : decode cX7_numberAt 38 = .ok (.iaload, 1) := by decide +kernel
theorem dX7_numberAt_39 : decode cX7_numberAt 39 = .ok (.goto 4, 3) := by decide +kernel
theorem dX7_numberAt_42 : decode cX7_numberAt 42 = .ok (.iconst 0, 1) := by decide +kernel
theorem dX7_numberAt_43 : decode cX7_numberAt 43 = .ok (.ireturn, 1) := by decide +kernel
theorem dX7_worthAt_0 : decode cX7_worthAt 0 = .ok (.iload_n 1, 1) := by decide +kernel
theorem dX7_worthAt_1 : decode cX7_worthAt 1 = .ok (.ifCond .lt 18, 3) := by decide +kernel
theorem dX7_worthAt_4 : decode cX7_worthAt 4 = .ok (.iload_n 1, 1) := by decide +kernel
theorem dX7_worthAt_5 : decode cX7_worthAt 5 = .ok (.bipush 15, 2) := by decide +kernel
theorem dX7_worthAt_7 : decode cX7_worthAt 7 = .ok (.if_icmp .ge 12, 3) := by decide +kernel
theorem dX7_worthAt_10 : decode cX7_worthAt 10 = .ok (.aload_n 0, 1) := by decide +kernel
theorem dX7_worthAt_11 : decode cX7_worthAt 11 = .ok (.getfield 25, 3) := by decide +kernel
theorem dX7_worthAt_14 : decode cX7_worthAt 14 = .ok (.iload_n 1, 1) := by decide +kernel
theorem dX7_worthAt_15 : decode cX7_worthAt 15 = .ok (.laload, 1) := by decide +kernel
theorem dX7_worthAt_16 : decode cX7_worthAt 16 = .ok (.goto 4, 3) := by decide +kernel
theorem dX7_worthAt_19 : decode cX7_worthAt 19 = .ok (.lconst 0, 1) := by decide +kernel
theorem dX7_worthAt_20 : decode cX7_worthAt 20 = .ok (.lreturn, 1) := by decide +kernel
theorem dX7_allowedFor_0 : decode cX7_allowedFor 0 = .ok (.aload_n 0, 1) := by decide +kernel
theorem dX7_allowedFor_1 : decode cX7_allowedFor 1 = .ok (.getfield 46, 3) := by decide +kernel
theorem dX7_allowedFor_4 : decode cX7_allowedFor 4 = .ok (.getfield 154, 3) := by decide +kernel
theorem dX7_allowedFor_7 : decode cX7_allowedFor 7 = .ok (.aload_n 0, 1) := by decide +kernel
theorem dX7_allowedFor_8 : decode cX7_allowedFor 8 = .ok (.getfield 59, 3) := by decide +kernel
theorem dX7_allowedFor_11 : decode cX7_allowedFor 11 = .ok (.iload_n 2, 1) := by decide +kernel
theorem dX7_allowedFor_12 : decode cX7_allowedFor 12 = .ok (.iload_n 1, 1) := by decide +kernel
theorem dX7_allowedFor_13 : decode cX7_allowedFor 13 = .ok (.aload_n 0, 1) := by decide +kernel
theorem dX7_allowedFor_14 : decode cX7_allowedFor 14 = .ok (.getfield 63, 3) := by decide +kernel
theorem dX7_allowedFor_17 : decode cX7_allowedFor 17 = .ok (.invokevirtual 158, 3) := by decide +kernel
theorem dX7_allowedFor_20 : decode cX7_allowedFor 20 = .ok (.istore_n 3, 1) := by decide +kernel
theorem dX7_allowedFor_21 : decode cX7_allowedFor 21 = .ok (.iload_n 3, 1) := by decide +kernel
theorem dX7_allowedFor_22 : decode cX7_allowedFor 22 = .ok (.iconst (-1), 1) := by decide +kernel
theorem dX7_allowedFor_23 : decode cX7_allowedFor 23 = .ok (.if_icmp .eq 6, 3) := by decide +kernel
theorem dX7_allowedFor_26 : decode cX7_allowedFor 26 = .ok (.iload_n 3, 1) := by decide +kernel
theorem dX7_allowedFor_27 : decode cX7_allowedFor 27 = .ok (.i2l, 1) := by decide +kernel
theorem dX7_allowedFor_28 : decode cX7_allowedFor 28 = .ok (.lreturn, 1) := by decide +kernel
theorem dX7_allowedFor_29 : decode cX7_allowedFor 29 = .ok (.aload_n 0, 1) := by decide +kernel
theorem dX7_allowedFor_30 : decode cX7_allowedFor 30 = .ok (.iload_n 1, 1) := by decide +kernel
theorem dX7_allowedFor_31 : decode cX7_allowedFor 31 = .ok (.iconst 0, 1) := by decide +kernel
theorem dX7_allowedFor_32 : decode cX7_allowedFor 32 = .ok (.iload_n 2, 1) := by decide +kernel
theorem dX7_allowedFor_33 : decode cX7_allowedFor 33 = .ok (.invokevirtual 164, 3) := by decide +kernel
theorem dX7_allowedFor_36 : decode cX7_allowedFor 36 = .ok (.astore 4, 2) := by decide +kernel
theorem dX7_allowedFor_38 : decode cX7_allowedFor 38 = .ok (.aload 4, 2) := by decide +kernel
theorem dX7_allowedFor_40 : decode cX7_allowedFor 40 = .ok (.ifnonnull 7, 3) := by decide +kernel
theorem dX7_allowedFor_43 : decode cX7_allowedFor 43 = .ok (.lconst 0, 1) := by decide +kernel
theorem dX7_allowedFor_44 : decode cX7_allowedFor 44 = .ok (.goto 19, 3) := by decide +kernel
theorem dX7_allowedFor_47 : decode cX7_allowedFor 47 = .ok (.aload_n 0, 1) := by decide +kernel
theorem dX7_allowedFor_48 : decode cX7_allowedFor 48 = .ok (.aload 4, 2) := by decide +kernel
theorem dX7_allowedFor_50 : decode cX7_allowedFor 50 = .ok (.iload_n 1, 1) := by decide +kernel
theorem dX7_allowedFor_51 : decode cX7_allowedFor 51 = .ok (.invokevirtual 168, 3) := by decide +kernel
theorem dX7_allowedFor_54 : decode cX7_allowedFor 54 = .ok (.aload 4, 2) := by decide +kernel
theorem dX7_allowedFor_56 : decode cX7_allowedFor 56 = .ok (.getfield 129, 3) := by decide +kernel
theorem dX7_allowedFor_59 : decode cX7_allowedFor 59 = .ok (.i2l, 1) := by decide +kernel
theorem dX7_allowedFor_60 : decode cX7_allowedFor 60 = .ok (.invokestatic 80, 3) := by decide +kernel
theorem dX7_allowedFor_63 : decode cX7_allowedFor 63 = .ok (.lreturn, 1) := by decide +kernel
theorem dX7_toldBy_0 : decode cX7_toldBy 0 = .ok (.iload_n 2, 1) := by decide +kernel
theorem dX7_toldBy_1 : decode cX7_toldBy 1 = .ok (.invokestatic 136, 3) := by decide +kernel
theorem dX7_toldBy_4 : decode cX7_toldBy 4 = .ok (.istore_n 3, 1) := by decide +kernel
theorem dX7_toldBy_5 : decode cX7_toldBy 5 = .ok (.aload_n 1, 1) := by decide +kernel
theorem dX7_toldBy_6 : decode cX7_toldBy 6 = .ok (.getfield 172, 3) := by decide +kernel
theorem dX7_toldBy_9 : decode cX7_toldBy 9 = .ok (.iconst 3, 1) := by decide +kernel
theorem dX7_toldBy_10 : decode cX7_toldBy 10 = .ok (.if_icmp .ne 42, 3) := by decide +kernel
theorem dX7_toldBy_13 : decode cX7_toldBy 13 = .ok (.aload_n 0, 1) := by decide +kernel
theorem dX7_toldBy_14 : decode cX7_toldBy 14 = .ok (.getfield 46, 3) := by decide +kernel
theorem dX7_toldBy_17 : decode cX7_toldBy 17 = .ok (.getfield 132, 3) := by decide +kernel
theorem dX7_toldBy_20 : decode cX7_toldBy 20 = .ok (.aload_n 0, 1) := by decide +kernel
theorem dX7_toldBy_21 : decode cX7_toldBy 21 = .ok (.getfield 59, 3) := by decide +kernel
theorem dX7_toldBy_24 : decode cX7_toldBy 24 = .ok (.iload_n 2, 1) := by decide +kernel
theorem dX7_toldBy_25 : decode cX7_toldBy 25 = .ok (.bipush 7, 2) := by decide +kernel
theorem dX7_toldBy_27 : decode cX7_toldBy 27 = .ok (.aload_n 1, 1) := by decide +kernel
theorem dX7_toldBy_28 : decode cX7_toldBy 28 = .ok (.getfield 175, 3) := by decide +kernel
theorem dX7_toldBy_31 : decode cX7_toldBy 31 = .ok (.iadd, 1) := by decide +kernel
theorem dX7_toldBy_32 : decode cX7_toldBy 32 = .ok (.iload_n 3, 1) := by decide +kernel
theorem dX7_toldBy_33 : decode cX7_toldBy 33 = .ok (.invokevirtual 178, 3) := by decide +kernel
theorem dX7_toldBy_36 : decode cX7_toldBy 36 = .ok (.istore 4, 2) := by decide +kernel
theorem dX7_toldBy_38 : decode cX7_toldBy 38 = .ok (.iload 4, 2) := by decide +kernel
theorem dX7_toldBy_40 : decode cX7_toldBy 40 = .ok (.iconst (-1), 1) := by decide +kernel
theorem dX7_toldBy_41 : decode cX7_toldBy 41 = .ok (.if_icmp .ne 7, 3) := by decide +kernel
theorem dX7_toldBy_44 : decode cX7_toldBy 44 = .ok (.lconst 0, 1) := by decide +kernel
theorem dX7_toldBy_45 : decode cX7_toldBy 45 = .ok (.goto 6, 3) := by decide +kernel
theorem dX7_toldBy_48 : decode cX7_toldBy 48 = .ok (.iload 4, 2) := by decide +kernel
theorem dX7_toldBy_50 : decode cX7_toldBy 50 = .ok (.i2l, 1) := by decide +kernel
theorem dX7_toldBy_51 : decode cX7_toldBy 51 = .ok (.lreturn, 1) := by decide +kernel
theorem dX7_toldBy_52 : decode cX7_toldBy 52 = .ok (.aload_n 0, 1) := by decide +kernel
theorem dX7_toldBy_53 : decode cX7_toldBy 53 = .ok (.getfield 55, 3) := by decide +kernel
theorem dX7_toldBy_56 : decode cX7_toldBy 56 = .ok (.aload_n 0, 1) := by decide +kernel
theorem dX7_toldBy_57 : decode cX7_toldBy 57 = .ok (.getfield 59, 3) := by decide +kernel
theorem dX7_toldBy_60 : decode cX7_toldBy 60 = .ok (.aload_n 1, 1) := by decide +kernel
theorem dX7_toldBy_61 : decode cX7_toldBy 61 = .ok (.getfield 175, 3) := by decide +kernel
theorem dX7_toldBy_64 : decode cX7_toldBy 64 = .ok (.iload_n 2, 1) := by decide +kernel
theorem dX7_toldBy_65 : decode cX7_toldBy 65 = .ok (.iconst 5, 1) := by decide +kernel
theorem dX7_toldBy_66 : decode cX7_toldBy 66 = .ok (.idiv, 1) := by decide +kernel
theorem dX7_toldBy_67 : decode cX7_toldBy 67 = .ok (.aload_n 1, 1) := by decide +kernel
theorem dX7_toldBy_68 : decode cX7_toldBy 68 = .ok (.getfield 181, 3) := by decide +kernel
theorem dX7_toldBy_71 : decode cX7_toldBy 71 = .ok (.invokevirtual 184, 3) := by decide +kernel
theorem dX7_toldBy_74 : decode cX7_toldBy 74 = .ok (.aload_n 0, 1) := by decide +kernel
theorem dX7_toldBy_75 : decode cX7_toldBy 75 = .ok (.getfield 46, 3) := by decide +kernel
theorem dX7_toldBy_78 : decode cX7_toldBy 78 = .ok (.getfield 132, 3) := by decide +kernel
theorem dX7_toldBy_81 : decode cX7_toldBy 81 = .ok (.aload_n 0, 1) := by decide +kernel
theorem dX7_toldBy_82 : decode cX7_toldBy 82 = .ok (.getfield 59, 3) := by decide +kernel
theorem dX7_toldBy_85 : decode cX7_toldBy 85 = .ok (.iload_n 2, 1) := by decide +kernel
theorem dX7_toldBy_86 : decode cX7_toldBy 86 = .ok (.aload_n 1, 1) := by decide +kernel
theorem dX7_toldBy_87 : decode cX7_toldBy 87 = .ok (.getfield 181, 3) := by decide +kernel
theorem dX7_toldBy_90 : decode cX7_toldBy 90 = .ok (.iload_n 3, 1) := by decide +kernel
theorem dX7_toldBy_91 : decode cX7_toldBy 91 = .ok (.invokevirtual 188, 3) := by decide +kernel
theorem dX7_toldBy_94 : decode cX7_toldBy 94 = .ok (.istore 4, 2) := by decide +kernel
theorem dX7_toldBy_96 : decode cX7_toldBy 96 = .ok (.aload_n 1, 1) := by decide +kernel
theorem dX7_toldBy_97 : decode cX7_toldBy 97 = .ok (.getfield 172, 3) := by decide +kernel
theorem dX7_toldBy_100 : decode cX7_toldBy 100 = .ok (.lookupswitch 50 #[(0, 28), (1, 39)], 28) := by decide +kernel
theorem dX7_toldBy_128 : decode cX7_toldBy 128 = .ok (.aload_n 0, 1) := by decide +kernel
theorem dX7_toldBy_129 : decode cX7_toldBy 129 = .ok (.getfield 55, 3) := by decide +kernel
theorem dX7_toldBy_132 : decode cX7_toldBy 132 = .ok (.iload 4, 2) := by decide +kernel
theorem dX7_toldBy_134 : decode cX7_toldBy 134 = .ok (.i2l, 1) := by decide +kernel
theorem dX7_toldBy_135 : decode cX7_toldBy 135 = .ok (.invokevirtual 191, 3) := by decide +kernel
theorem dX7_toldBy_138 : decode cX7_toldBy 138 = .ok (.lreturn, 1) := by decide +kernel
theorem dX7_toldBy_139 : decode cX7_toldBy 139 = .ok (.aload_n 0, 1) := by decide +kernel
theorem dX7_toldBy_140 : decode cX7_toldBy 140 = .ok (.getfield 55, 3) := by decide +kernel
theorem dX7_toldBy_143 : decode cX7_toldBy 143 = .ok (.iload 4, 2) := by decide +kernel
theorem dX7_toldBy_145 : decode cX7_toldBy 145 = .ok (.i2l, 1) := by decide +kernel
theorem dX7_toldBy_146 : decode cX7_toldBy 146 = .ok (.invokevirtual 195, 3) := by decide +kernel
theorem dX7_toldBy_149 : decode cX7_toldBy 149 = .ok (.lreturn, 1) := by decide +kernel
theorem dX7_toldBy_150 : decode cX7_toldBy 150 = .ok (.aload_n 0, 1) := by decide +kernel
theorem dX7_toldBy_151 : decode cX7_toldBy 151 = .ok (.getfield 55, 3) := by decide +kernel
theorem dX7_toldBy_154 : decode cX7_toldBy 154 = .ok (.iload 4, 2) := by decide +kernel
theorem dX7_toldBy_156 : decode cX7_toldBy 156 = .ok (.i2l, 1) := by decide +kernel
theorem dX7_toldBy_157 : decode cX7_toldBy 157 = .ok (.invokevirtual 198, 3) := by decide +kernel
theorem dX7_toldBy_160 : decode cX7_toldBy 160 = .ok (.lreturn, 1) := by decide +kernel
theorem dX7_fillLines_0 : decode cX7_fillLines 0 = .ok (.iconst 0, 1) := by decide +kernel
theorem dX7_fillLines_1 : decode cX7_fillLines 1 = .ok (.iload_n 1, 1) := by decide +kernel
theorem dX7_fillLines_2 : decode cX7_fillLines 2 = .ok (.iconst 1, 1) := by decide +kernel
theorem dX7_fillLines_3 : decode cX7_fillLines 3 = .ok (.isub, 1) := by decide +kernel
theorem dX7_fillLines_4 : decode cX7_fillLines 4 = .ok (.invokestatic 201, 3) := by decide +kernel
theorem dX7_fillLines_7 : decode cX7_fillLines 7 = .ok (.istore_n 3, 1) := by decide +kernel
theorem dX7_fillLines_8 : decode cX7_fillLines 8 = .ok (.iload_n 3, 1) := by decide +kernel
theorem dX7_fillLines_9 : decode cX7_fillLines 9 = .ok (.iload_n 2, 1) := by decide +kernel
theorem dX7_fillLines_10 : decode cX7_fillLines 10 = .ok (.if_icmp .gt 46, 3) := by decide +kernel
theorem dX7_fillLines_13 : decode cX7_fillLines 13 = .ok (.iload_n 3, 1) := by decide +kernel
theorem dX7_fillLines_14 : decode cX7_fillLines 14 = .ok (.bipush 15, 2) := by decide +kernel
theorem dX7_fillLines_16 : decode cX7_fillLines 16 = .ok (.if_icmp .ge 40, 3) := by decide +kernel
theorem dX7_fillLines_19 : decode cX7_fillLines 19 = .ok (.iconst 0, 1) := by decide +kernel
theorem dX7_fillLines_20 : decode cX7_fillLines 20 = .ok (.istore 4, 2) := by decide +kernel
theorem dX7_fillLines_22 : decode cX7_fillLines 22 = .ok (.iload 4, 2) := by decide +kernel
theorem dX7_fillLines_24 : decode cX7_fillLines 24 = .ok (.iconst 4, 1) := by decide +kernel
theorem dX7_fillLines_25 : decode cX7_fillLines 25 = .ok (.if_icmp .ge 25, 3) := by decide +kernel
theorem dX7_fillLines_28 : decode cX7_fillLines 28 = .ok (.aload_n 0, 1) := by decide +kernel
theorem dX7_fillLines_29 : decode cX7_fillLines 29 = .ok (.getfield 31, 3) := by decide +kernel
theorem dX7_fillLines_32 : decode cX7_fillLines 32 = .ok (.iload_n 3, 1) := by decide +kernel
theorem dX7_fillLines_33 : decode cX7_fillLines 33 = .ok (.aaload, 1) := by decide +kernel
theorem dX7_fillLines_34 : decode cX7_fillLines 34 = .ok (.iload 4, 2) := by decide +kernel
theorem dX7_fillLines_36 : decode cX7_fillLines 36 = .ok (.aload_n 0, 1) := by decide +kernel
theorem dX7_fillLines_37 : decode cX7_fillLines 37 = .ok (.iload_n 3, 1) := by decide +kernel
theorem dX7_fillLines_38 : decode cX7_fillLines 38 = .ok (.iload 4, 2) := by decide +kernel
theorem dX7_fillLines_40 : decode cX7_fillLines 40 = .ok (.invokevirtual 206, 3) := by decide +kernel
theorem dX7_fillLines_43 : decode cX7_fillLines 43 = .ok (.lastore, 1) := by decide +kernel
theorem dX7_fillLines_44 : decode cX7_fillLines 44 = .ok (.iinc 4 1, 3) := by decide +kernel
theorem dX7_fillLines_47 : decode cX7_fillLines 47 = .ok (.goto (-25), 3) := by decide +kernel
theorem dX7_fillLines_50 : decode cX7_fillLines 50 = .ok (.iinc 3 1, 3) := by decide +kernel
theorem dX7_fillLines_53 : decode cX7_fillLines 53 = .ok (.goto (-45), 3) := by decide +kernel
theorem dX7_fillLines_56 : decode cX7_fillLines 56 = .ok (.iconst 0, 1) := by decide +kernel
theorem dX7_fillLines_57 : decode cX7_fillLines 57 = .ok (.iload_n 1, 1) := by decide +kernel
theorem dX7_fillLines_58 : decode cX7_fillLines 58 = .ok (.invokestatic 201, 3) := by decide +kernel
theorem dX7_fillLines_61 : decode cX7_fillLines 61 = .ok (.istore_n 3, 1) := by decide +kernel
theorem dX7_fillLines_62 : decode cX7_fillLines 62 = .ok (.iload_n 3, 1) := by decide +kernel
theorem dX7_fillLines_63 : decode cX7_fillLines 63 = .ok (.iload_n 2, 1) := by decide +kernel
theorem dX7_fillLines_64 : decode cX7_fillLines 64 = .ok (.if_icmp .gt 20, 3) := by decide +kernel
theorem dX7_fillLines_67 : decode cX7_fillLines 67 = .ok (.iload_n 3, 1) := by decide +kernel
theorem dX7_fillLines_68 : decode cX7_fillLines 68 = .ok (.bipush 15, 2) := by decide +kernel
theorem dX7_fillLines_70 : decode cX7_fillLines 70 = .ok (.if_icmp .ge 14, 3) := by decide +kernel
theorem dX7_fillLines_73 : decode cX7_fillLines 73 = .ok (.aload_n 0, 1) := by decide +kernel
theorem dX7_fillLines_74 : decode cX7_fillLines 74 = .ok (.iload_n 3, 1) := by decide +kernel
theorem dX7_fillLines_75 : decode cX7_fillLines 75 = .ok (.invokevirtual 209, 3) := by decide +kernel
theorem dX7_fillLines_78 : decode cX7_fillLines 78 = .ok (.iinc 3 1, 3) := by decide +kernel
theorem dX7_fillLines_81 : decode cX7_fillLines 81 = .ok (.goto (-19), 3) := by decide +kernel
theorem dX7_fillLines_84 : decode cX7_fillLines 84 = .ok (.return_, 1) := by decide +kernel
theorem dX7_fillLinesOf_0 : decode cX7_fillLinesOf 0 = .ok (.iload_n 1, 1) := by decide +kernel
theorem dX7_fillLinesOf_1 : decode cX7_fillLinesOf 1 = .ok (.ifCond .lt 9, 3) := by decide +kernel
theorem dX7_fillLinesOf_4 : decode cX7_fillLinesOf 4 = .ok (.iload_n 1, 1) := by decide +kernel
theorem dX7_fillLinesOf_5 : decode cX7_fillLinesOf 5 = .ok (.bipush 15, 2) := by decide +kernel
theorem dX7_fillLinesOf_7 : decode cX7_fillLinesOf 7 = .ok (.if_icmp .lt 4, 3) := by decide +kernel
theorem dX7_fillLinesOf_10 : decode cX7_fillLinesOf 10 = .ok (.return_, 1) := by decide +kernel
theorem dX7_fillLinesOf_11 : decode cX7_fillLinesOf 11 = .ok (.aload_n 0, 1) := by decide +kernel
theorem dX7_fillLinesOf_12 : decode cX7_fillLinesOf 12 = .ok (.getfield 34, 3) := by decide +kernel
theorem dX7_fillLinesOf_15 : decode cX7_fillLinesOf 15 = .ok (.iload_n 1, 1) := by decide +kernel
theorem dX7_fillLinesOf_16 : decode cX7_fillLinesOf 16 = .ok (.aaload, 1) := by decide +kernel
theorem dX7_fillLinesOf_17 : decode cX7_fillLinesOf 17 = .ok (.astore_n 2, 1) := by decide +kernel
theorem dX7_fillLinesOf_18 : decode cX7_fillLinesOf 18 = .ok (.aload_n 2, 1) := by decide +kernel
theorem dX7_fillLinesOf_19 : decode cX7_fillLinesOf 19 = .ok (.lconst 0, 1) := by decide +kernel
theorem dX7_fillLinesOf_20 : decode cX7_fillLinesOf 20 = .ok (.invokestatic 212, 3) := by decide +kernel
theorem dX7_fillLinesOf_23 : decode cX7_fillLinesOf 23 = .ok (.lconst 0, 1) := by decide +kernel
theorem dX7_fillLinesOf_24 : decode cX7_fillLinesOf 24 = .ok (.lstore_n 3, 1) := by decide +kernel
theorem dX7_fillLinesOf_25 : decode cX7_fillLinesOf 25 = .ok (.iconst 0, 1) := by decide +kernel
theorem dX7_fillLinesOf_26 : decode cX7_fillLinesOf 26 = .ok (.istore 5, 2) := by decide +kernel
theorem dX7_fillLinesOf_28 : decode cX7_fillLinesOf 28 = .ok (.iload 5, 2) := by decide +kernel
theorem dX7_fillLinesOf_30 : decode cX7_fillLinesOf 30 = .ok (.iconst 4, 1) := by decide +kernel
theorem dX7_fillLinesOf_31 : decode cX7_fillLinesOf 31 = .ok (.if_icmp .ge 29, 3) := by decide +kernel
theorem dX7_fillLinesOf_34 : decode cX7_fillLinesOf 34 = .ok (.aload_n 2, 1) := by decide +kernel
theorem dX7_fillLinesOf_35 : decode cX7_fillLinesOf 35 = .ok (.iload 5, 2) := by decide +kernel
theorem dX7_fillLinesOf_37 : decode cX7_fillLinesOf 37 = .ok (.aload_n 0, 1) := by decide +kernel
theorem dX7_fillLinesOf_38 : decode cX7_fillLinesOf 38 = .ok (.getfield 31, 3) := by decide +kernel
theorem dX7_fillLinesOf_41 : decode cX7_fillLinesOf 41 = .ok (.iload_n 1, 1) := by decide +kernel
theorem dX7_fillLinesOf_42 : decode cX7_fillLinesOf 42 = .ok (.aaload, 1) := by decide +kernel
theorem dX7_fillLinesOf_43 : decode cX7_fillLinesOf 43 = .ok (.iload 5, 2) := by decide +kernel
theorem dX7_fillLinesOf_45 : decode cX7_fillLinesOf 45 = .ok (.laload, 1) := by decide +kernel
theorem dX7_fillLinesOf_46 : decode cX7_fillLinesOf 46 = .ok (.lastore, 1) := by decide +kernel
theorem dX7_fillLinesOf_47 : decode cX7_fillLinesOf 47 = .ok (.lload_n 3, 1) := by decide +kernel
theorem dX7_fillLinesOf_48 : decode cX7_fillLinesOf 48 = .ok (.aload_n 2, 1) := by decide +kernel
theorem dX7_fillLinesOf_49 : decode cX7_fillLinesOf 49 = .ok (.iload 5, 2) := by decide +kernel
theorem dX7_fillLinesOf_51 : decode cX7_fillLinesOf 51 = .ok (.laload, 1) := by decide +kernel
theorem dX7_fillLinesOf_52 : decode cX7_fillLinesOf 52 = .ok (.ladd, 1) := by decide +kernel
theorem dX7_fillLinesOf_53 : decode cX7_fillLinesOf 53 = .ok (.lstore_n 3, 1) := by decide +kernel
theorem dX7_fillLinesOf_54 : decode cX7_fillLinesOf 54 = .ok (.iinc 5 1, 3) := by decide +kernel
theorem dX7_fillLinesOf_57 : decode cX7_fillLinesOf 57 = .ok (.goto (-29), 3) := by decide +kernel
theorem dX7_fillLinesOf_60 : decode cX7_fillLinesOf 60 = .ok (.aload_n 2, 1) := by decide +kernel
theorem dX7_fillLinesOf_61 : decode cX7_fillLinesOf 61 = .ok (.iconst 4, 1) := by decide +kernel
theorem dX7_fillLinesOf_62 : decode cX7_fillLinesOf 62 = .ok (.aload_n 0, 1) := by decide +kernel
theorem dX7_fillLinesOf_63 : decode cX7_fillLinesOf 63 = .ok (.getfield 25, 3) := by decide +kernel
theorem dX7_fillLinesOf_66 : decode cX7_fillLinesOf 66 = .ok (.iload_n 1, 1) := by decide +kernel
theorem dX7_fillLinesOf_67 : decode cX7_fillLinesOf 67 = .ok (.laload, 1) := by decide +kernel
theorem dX7_fillLinesOf_68 : decode cX7_fillLinesOf 68 = .ok (.aload_n 0, 1) := by decide +kernel
theorem dX7_fillLinesOf_69 : decode cX7_fillLinesOf 69 = .ok (.iload_n 1, 1) := by decide +kernel
theorem dX7_fillLinesOf_70 : decode cX7_fillLinesOf 70 = .ok (.iconst 3, 1) := by decide +kernel
theorem dX7_fillLinesOf_71 : decode cX7_fillLinesOf 71 = .ok (.invokevirtual 76, 3) := by decide +kernel
theorem dX7_fillLinesOf_74 : decode cX7_fillLinesOf 74 = .ok (.i2l, 1) := by decide +kernel
theorem dX7_fillLinesOf_75 : decode cX7_fillLinesOf 75 = .ok (.lmul, 1) := by decide +kernel
theorem dX7_fillLinesOf_76 : decode cX7_fillLinesOf 76 = .ok (.ldc2_w 215, 3) := by decide +kernel
theorem dX7_fillLinesOf_79 : decode cX7_fillLinesOf 79 = .ok (.invokestatic 217, 3) := by decide +kernel
theorem dX7_fillLinesOf_82 : decode cX7_fillLinesOf 82 = .ok (.lastore, 1) := by decide +kernel
theorem dX7_fillLinesOf_83 : decode cX7_fillLinesOf 83 = .ok (.aload_n 2, 1) := by decide +kernel
theorem dX7_fillLinesOf_84 : decode cX7_fillLinesOf 84 = .ok (.iconst 5, 1) := by decide +kernel
theorem dX7_fillLinesOf_85 : decode cX7_fillLinesOf 85 = .ok (.aload_n 0, 1) := by decide +kernel
theorem dX7_fillLinesOf_86 : decode cX7_fillLinesOf 86 = .ok (.getfield 46, 3) := by decide +kernel
theorem dX7_fillLinesOf_89 : decode cX7_fillLinesOf 89 = .ok (.getfield 86, 3) := by decide +kernel
theorem dX7_fillLinesOf_92 : decode cX7_fillLinesOf 92 = .ok (.aload_n 0, 1) := by decide +kernel
theorem dX7_fillLinesOf_93 : decode cX7_fillLinesOf 93 = .ok (.getfield 59, 3) := by decide +kernel
theorem dX7_fillLinesOf_96 : decode cX7_fillLinesOf 96 = .ok (.iload_n 1, 1) := by decide +kernel
theorem dX7_fillLinesOf_97 : decode cX7_fillLinesOf 97 = .ok (.invokevirtual 220, 3) := by decide +kernel
theorem dX7_fillLinesOf_100 : decode cX7_fillLinesOf 100 = .ok (.lastore, 1) := by decide +kernel
theorem dX7_fillLinesOf_101 : decode cX7_fillLinesOf 101 = .ok (.aload_n 2, 1) := by decide +kernel
theorem dX7_fillLinesOf_102 : decode cX7_fillLinesOf 102 = .ok (.bipush 6, 2) := by decide +kernel
theorem dX7_fillLinesOf_104 : decode cX7_fillLinesOf 104 = .ok (.aload_n 0, 1) := by decide +kernel
theorem dX7_fillLinesOf_105 : decode cX7_fillLinesOf 105 = .ok (.iload_n 1, 1) := by decide +kernel
theorem dX7_fillLinesOf_106 : decode cX7_fillLinesOf 106 = .ok (.invokevirtual 223, 3) := by decide +kernel
theorem dX7_fillLinesOf_109 : decode cX7_fillLinesOf 109 = .ok (.lneg, 1) := by decide +kernel
theorem dX7_fillLinesOf_110 : decode cX7_fillLinesOf 110 = .ok (.lastore, 1) := by decide +kernel
theorem dX7_fillLinesOf_111 : decode cX7_fillLinesOf 111 = .ok (.iconst 0, 1) := by decide +kernel
theorem dX7_fillLinesOf_112 : decode cX7_fillLinesOf 112 = .ok (.istore 5, 2) := by decide +kernel
theorem dX7_fillLinesOf_114 : decode cX7_fillLinesOf 114 = .ok (.iload 5, 2) := by decide +kernel
theorem dX7_fillLinesOf_116 : decode cX7_fillLinesOf 116 = .ok (.iconst 3, 1) := by decide +kernel
theorem dX7_fillLinesOf_117 : decode cX7_fillLinesOf 117 = .ok (.if_icmp .ge 29, 3) := by decide +kernel
theorem dX7_fillLinesOf_120 : decode cX7_fillLinesOf 120 = .ok (.iload_n 1, 1) := by decide +kernel
theorem dX7_fillLinesOf_121 : decode cX7_fillLinesOf 121 = .ok (.ifCond .le 25, 3) := by decide +kernel
theorem dX7_fillLinesOf_124 : decode cX7_fillLinesOf 124 = .ok (.aload_n 2, 1) := by decide +kernel
theorem dX7_fillLinesOf_125 : decode cX7_fillLinesOf 125 = .ok (.bipush 7, 2) := by decide +kernel
theorem dX7_fillLinesOf_127 : decode cX7_fillLinesOf 127 = .ok (.iload 5, 2) := by decide +kernel
theorem dX7_fillLinesOf_129 : decode cX7_fillLinesOf 129 = .ok (.iadd, 1) := by decide +kernel
theorem dX7_fillLinesOf_130 : decode cX7_fillLinesOf 130 = .ok (.aload_n 0, 1) := by decide +kernel
theorem dX7_fillLinesOf_131 : decode cX7_fillLinesOf 131 = .ok (.iload_n 1, 1) := by decide +kernel
theorem dX7_fillLinesOf_132 : decode cX7_fillLinesOf 132 = .ok (.iconst 1, 1) := by decide +kernel
theorem dX7_fillLinesOf_133 : decode cX7_fillLinesOf 133 = .ok (.isub, 1) := by decide +kernel
theorem dX7_fillLinesOf_134 : decode cX7_fillLinesOf 134 = .ok (.iload 5, 2) := by decide +kernel
theorem dX7_fillLinesOf_136 : decode cX7_fillLinesOf 136 = .ok (.invokevirtual 227, 3) := by decide +kernel
theorem dX7_fillLinesOf_139 : decode cX7_fillLinesOf 139 = .ok (.lastore, 1) := by decide +kernel
theorem dX7_fillLinesOf_140 : decode cX7_fillLinesOf 140 = .ok (.iinc 5 1, 3) := by decide +kernel
theorem dX7_fillLinesOf_143 : decode cX7_fillLinesOf 143 = .ok (.goto (-29), 3) := by decide +kernel
theorem dX7_fillLinesOf_146 : decode cX7_fillLinesOf 146 = .ok (.iconst 0, 1) := by decide +kernel
theorem dX7_fillLinesOf_147 : decode cX7_fillLinesOf 147 = .ok (.istore 5, 2) := by decide +kernel
theorem dX7_fillLinesOf_149 : decode cX7_fillLinesOf 149 = .ok (.iload 5, 2) := by decide +kernel
theorem dX7_fillLinesOf_151 : decode cX7_fillLinesOf 151 = .ok (.iconst 4, 1) := by decide +kernel
theorem dX7_fillLinesOf_152 : decode cX7_fillLinesOf 152 = .ok (.if_icmp .ge 29, 3) := by decide +kernel
theorem dX7_fillLinesOf_155 : decode cX7_fillLinesOf 155 = .ok (.iload_n 1, 1) := by decide +kernel
theorem dX7_fillLinesOf_156 : decode cX7_fillLinesOf 156 = .ok (.ifCond .le 25, 3) := by decide +kernel
theorem dX7_fillLinesOf_159 : decode cX7_fillLinesOf 159 = .ok (.aload_n 2, 1) := by decide +kernel
theorem dX7_fillLinesOf_160 : decode cX7_fillLinesOf 160 = .ok (.bipush 10, 2) := by decide +kernel
theorem dX7_fillLinesOf_162 : decode cX7_fillLinesOf 162 = .ok (.iload 5, 2) := by decide +kernel
theorem dX7_fillLinesOf_164 : decode cX7_fillLinesOf 164 = .ok (.iadd, 1) := by decide +kernel
theorem dX7_fillLinesOf_165 : decode cX7_fillLinesOf 165 = .ok (.aload_n 0, 1) := by decide +kernel
theorem dX7_fillLinesOf_166 : decode cX7_fillLinesOf 166 = .ok (.iload_n 1, 1) := by decide +kernel
theorem dX7_fillLinesOf_167 : decode cX7_fillLinesOf 167 = .ok (.iconst 1, 1) := by decide +kernel
theorem dX7_fillLinesOf_168 : decode cX7_fillLinesOf 168 = .ok (.isub, 1) := by decide +kernel
theorem dX7_fillLinesOf_169 : decode cX7_fillLinesOf 169 = .ok (.iload 5, 2) := by decide +kernel
theorem dX7_fillLinesOf_171 : decode cX7_fillLinesOf 171 = .ok (.invokevirtual 230, 3) := by decide +kernel
theorem dX7_fillLinesOf_174 : decode cX7_fillLinesOf 174 = .ok (.lastore, 1) := by decide +kernel
theorem dX7_fillLinesOf_175 : decode cX7_fillLinesOf 175 = .ok (.iinc 5 1, 3) := by decide +kernel
theorem dX7_fillLinesOf_178 : decode cX7_fillLinesOf 178 = .ok (.goto (-29), 3) := by decide +kernel
theorem dX7_fillLinesOf_181 : decode cX7_fillLinesOf 181 = .ok (.aload_n 0, 1) := by decide +kernel
theorem dX7_fillLinesOf_182 : decode cX7_fillLinesOf 182 = .ok (.getfield 46, 3) := by decide +kernel
theorem dX7_fillLinesOf_185 : decode cX7_fillLinesOf 185 = .ok (.getfield 233, 3) := by decide +kernel
theorem dX7_fillLinesOf_188 : decode cX7_fillLinesOf 188 = .ok (.aload_n 0, 1) := by decide +kernel
theorem dX7_fillLinesOf_189 : decode cX7_fillLinesOf 189 = .ok (.getfield 59, 3) := by decide +kernel
theorem dX7_fillLinesOf_192 : decode cX7_fillLinesOf 192 = .ok (.iconst 0, 1) := by decide +kernel
theorem dX7_fillLinesOf_193 : decode cX7_fillLinesOf 193 = .ok (.iload_n 1, 1) := by decide +kernel
theorem dX7_fillLinesOf_194 : decode cX7_fillLinesOf 194 = .ok (.aload_n 0, 1) := by decide +kernel
theorem dX7_fillLinesOf_195 : decode cX7_fillLinesOf 195 = .ok (.getfield 63, 3) := by decide +kernel
theorem dX7_fillLinesOf_198 : decode cX7_fillLinesOf 198 = .ok (.invokevirtual 236, 3) := by decide +kernel
theorem dX7_fillLinesOf_201 : decode cX7_fillLinesOf 201 = .ok (.lstore 5, 2) := by decide +kernel
theorem dX7_fillLinesOf_203 : decode cX7_fillLinesOf 203 = .ok (.lload 5, 2) := by decide +kernel
theorem dX7_fillLinesOf_205 : decode cX7_fillLinesOf 205 = .ok (.lload_n 3, 1) := by decide +kernel
theorem dX7_fillLinesOf_206 : decode cX7_fillLinesOf 206 = .ok (.aload_n 0, 1) := by decide +kernel
theorem dX7_fillLinesOf_207 : decode cX7_fillLinesOf 207 = .ok (.iload_n 1, 1) := by decide +kernel
theorem dX7_fillLinesOf_208 : decode cX7_fillLinesOf 208 = .ok (.bipush 8, 2) := by decide +kernel
theorem dX7_fillLinesOf_210 : decode cX7_fillLinesOf 210 = .ok (.invokevirtual 76, 3) := by decide +kernel
theorem dX7_fillLinesOf_213 : decode cX7_fillLinesOf 213 = .ok (.i2l, 1) := by decide +kernel
theorem dX7_fillLinesOf_214 : decode cX7_fillLinesOf 214 = .ok (.invokestatic 80, 3) := by decide +kernel
theorem dX7_fillLinesOf_217 : decode cX7_fillLinesOf 217 = .ok (.lcmp, 1) := by decide +kernel
theorem dX7_fillLinesOf_218 : decode cX7_fillLinesOf 218 = .ok (.ifCond .lt 7, 3) := by decide +kernel
theorem dX7_fillLinesOf_221 : decode cX7_fillLinesOf 221 = .ok (.iconst 1, 1) := by decide +kernel
theorem dX7_fillLinesOf_222 : decode cX7_fillLinesOf 222 = .ok (.goto 4, 3) := by decide +kernel
theorem dX7_fillLinesOf_225 : decode cX7_fillLinesOf 225 = .ok (.iconst 0, 1) := by decide +kernel
theorem dX7_fillLinesOf_226 : decode cX7_fillLinesOf 226 = .ok (.istore 7, 2) := by decide +kernel
theorem dX7_fillLinesOf_228 : decode cX7_fillLinesOf 228 = .ok (.aload_n 2, 1) := by decide +kernel
theorem dX7_fillLinesOf_229 : decode cX7_fillLinesOf 229 = .ok (.bipush 14, 2) := by decide +kernel
theorem dX7_fillLinesOf_231 : decode cX7_fillLinesOf 231 = .ok (.iload 7, 2) := by decide +kernel
theorem dX7_fillLinesOf_233 : decode cX7_fillLinesOf 233 = .ok (.ifCond .eq 8, 3) := by decide +kernel
theorem dX7_fillLinesOf_236 : decode cX7_fillLinesOf 236 = .ok (.lload 5, 2) := by decide +kernel
theorem dX7_fillLinesOf_238 : decode cX7_fillLinesOf 238 = .ok (.goto 4, 3) := by decide +kernel
theorem dX7_fillLinesOf_241 : decode cX7_fillLinesOf 241 = .ok (.lconst 0, 1) := by decide +kernel
theorem dX7_fillLinesOf_242 : decode cX7_fillLinesOf 242 = .ok (.lastore, 1) := by decide +kernel
theorem dX7_fillLinesOf_243 : decode cX7_fillLinesOf 243 = .ok (.return_, 1) := by decide +kernel
theorem dX7_takenBackIn_0 : decode cX7_takenBackIn 0 = .ok (.lconst 0, 1) := by decide +kernel
theorem dX7_takenBackIn_1 : decode cX7_takenBackIn 1 = .ok (.lstore_n 2, 1) := by decide +kernel
theorem dX7_takenBackIn_2 : decode cX7_takenBackIn 2 = .ok (.iconst 0, 1) := by decide +kernel
theorem dX7_takenBackIn_3 : decode cX7_takenBackIn 3 = .ok (.istore 4, 2) := by decide +kernel
theorem dX7_takenBackIn_5 : decode cX7_takenBackIn 5 = .ok (.iload 4, 2) := by decide +kernel
theorem dX7_takenBackIn_7 : decode cX7_takenBackIn 7 = .ok (.aload_n 0, 1) := by decide +kernel
theorem dX7_takenBackIn_8 : decode cX7_takenBackIn 8 = .ok (.getfield 46, 3) := by decide +kernel
theorem dX7_takenBackIn_11 : decode cX7_takenBackIn 11 = .ok (.getfield 86, 3) := by decide +kernel
theorem dX7_takenBackIn_14 : decode cX7_takenBackIn 14 = .ok (.getfield 240, 3) := by decide +kernel
theorem dX7_takenBackIn_17 : decode cX7_takenBackIn 17 = .ok (.if_icmp .ge 39, 3) := by decide +kernel
theorem dX7_takenBackIn_20 : decode cX7_takenBackIn 20 = .ok (.aload_n 0, 1) := by decide +kernel
theorem dX7_takenBackIn_21 : decode cX7_takenBackIn 21 = .ok (.getfield 46, 3) := by decide +kernel
theorem dX7_takenBackIn_24 : decode cX7_takenBackIn 24 = .ok (.getfield 86, 3) := by decide +kernel
theorem dX7_takenBackIn_27 : decode cX7_takenBackIn 27 = .ok (.iload 4, 2) := by decide +kernel
theorem dX7_takenBackIn_29 : decode cX7_takenBackIn 29 = .ok (.aload_n 0, 1) := by decide +kernel
theorem dX7_takenBackIn_30 : decode cX7_takenBackIn 30 = .ok (.getfield 59, 3) := by decide +kernel
theorem dX7_takenBackIn_33 : decode cX7_takenBackIn 33 = .ok (.iload_n 1, 1) := by decide +kernel
theorem dX7_takenBackIn_34 : decode cX7_takenBackIn 34 = .ok (.invokevirtual 243, 3) := by decide +kernel
theorem dX7_takenBackIn_37 : decode cX7_takenBackIn 37 = .ok (.ifCond .eq 13, 3) := by decide +kernel
theorem dX7_takenBackIn_40 : decode cX7_takenBackIn 40 = .ok (.lload_n 2, 1) := by decide +kernel
theorem dX7_takenBackIn_41 : decode cX7_takenBackIn 41 = .ok (.aload_n 0, 1) := by decide +kernel
theorem dX7_takenBackIn_42 : decode cX7_takenBackIn 42 = .ok (.iload 4, 2) := by decide +kernel
theorem dX7_takenBackIn_44 : decode cX7_takenBackIn 44 = .ok (.iload_n 1, 1) := by decide +kernel
theorem dX7_takenBackIn_45 : decode cX7_takenBackIn 45 = .ok (.invokevirtual 247, 3) := by decide +kernel
theorem dX7_takenBackIn_48 : decode cX7_takenBackIn 48 = .ok (.ladd, 1) := by decide +kernel
theorem dX7_takenBackIn_49 : decode cX7_takenBackIn 49 = .ok (.lstore_n 2, 1) := by decide +kernel
theorem dX7_takenBackIn_50 : decode cX7_takenBackIn 50 = .ok (.iinc 4 1, 3) := by decide +kernel
theorem dX7_takenBackIn_53 : decode cX7_takenBackIn 53 = .ok (.goto (-48), 3) := by decide +kernel
theorem dX7_takenBackIn_56 : decode cX7_takenBackIn 56 = .ok (.lload_n 2, 1) := by decide +kernel
theorem dX7_takenBackIn_57 : decode cX7_takenBackIn 57 = .ok (.lreturn, 1) := by decide +kernel
theorem dX7_takenBackOf_0 : decode cX7_takenBackOf 0 = .ok (.aload_n 0, 1) := by decide +kernel
theorem dX7_takenBackOf_1 : decode cX7_takenBackOf 1 = .ok (.getfield 46, 3) := by decide +kernel
theorem dX7_takenBackOf_4 : decode cX7_takenBackOf 4 = .ok (.getfield 86, 3) := by decide +kernel
theorem dX7_takenBackOf_7 : decode cX7_takenBackOf 7 = .ok (.iload_n 1, 1) := by decide +kernel
theorem dX7_takenBackOf_8 : decode cX7_takenBackOf 8 = .ok (.invokevirtual 250, 3) := by decide +kernel
theorem dX7_takenBackOf_11 : decode cX7_takenBackOf 11 = .ok (.i2l, 1) := by decide +kernel
theorem dX7_takenBackOf_12 : decode cX7_takenBackOf 12 = .ok (.lstore_n 3, 1) := by decide +kernel
theorem dX7_takenBackOf_13 : decode cX7_takenBackOf 13 = .ok (.lload_n 3, 1) := by decide +kernel
theorem dX7_takenBackOf_14 : decode cX7_takenBackOf 14 = .ok (.lstore 5, 2) := by decide +kernel
theorem dX7_takenBackOf_16 : decode cX7_takenBackOf 16 = .ok (.lconst 0, 1) := by decide +kernel
theorem dX7_takenBackOf_17 : decode cX7_takenBackOf 17 = .ok (.lstore 7, 2) := by decide +kernel
theorem dX7_takenBackOf_19 : decode cX7_takenBackOf 19 = .ok (.aload_n 0, 1) := by decide +kernel
theorem dX7_takenBackOf_20 : decode cX7_takenBackOf 20 = .ok (.getfield 46, 3) := by decide +kernel
theorem dX7_takenBackOf_23 : decode cX7_takenBackOf 23 = .ok (.getfield 86, 3) := by decide +kernel
theorem dX7_takenBackOf_26 : decode cX7_takenBackOf 26 = .ok (.iload_n 1, 1) := by decide +kernel
theorem dX7_takenBackOf_27 : decode cX7_takenBackOf 27 = .ok (.invokevirtual 253, 3) := by decide +kernel
theorem dX7_takenBackOf_30 : decode cX7_takenBackOf 30 = .ok (.iconst 1, 1) := by decide +kernel
theorem dX7_takenBackOf_31 : decode cX7_takenBackOf 31 = .ok (.iadd, 1) := by decide +kernel
theorem dX7_takenBackOf_32 : decode cX7_takenBackOf 32 = .ok (.istore 9, 2) := by decide +kernel
theorem dX7_takenBackOf_34 : decode cX7_takenBackOf 34 = .ok (.iload 9, 2) := by decide +kernel
theorem dX7_takenBackOf_36 : decode cX7_takenBackOf 36 = .ok (.iload_n 2, 1) := by decide +kernel
theorem dX7_takenBackOf_37 : decode cX7_takenBackOf 37 = .ok (.if_icmp .gt 36, 3) := by decide +kernel
theorem dX7_takenBackOf_40 : decode cX7_takenBackOf 40 = .ok (.lload 5, 2) := by decide +kernel
theorem dX7_takenBackOf_42 : decode cX7_takenBackOf 42 = .ok (.lload_n 3, 1) := by decide +kernel
theorem dX7_takenBackOf_43 : decode cX7_takenBackOf 43 = .ok (.aload_n 0, 1) := by decide +kernel
theorem dX7_takenBackOf_44 : decode cX7_takenBackOf 44 = .ok (.iload 9, 2) := by decide +kernel
theorem dX7_takenBackOf_46 : decode cX7_takenBackOf 46 = .ok (.bipush 6, 2) := by decide +kernel
theorem dX7_takenBackOf_48 : decode cX7_takenBackOf 48 = .ok (.invokevirtual 76, 3) := by decide +kernel
theorem dX7_takenBackOf_51 : decode cX7_takenBackOf 51 = .ok (.i2l, 1) := by decide +kernel
theorem dX7_takenBackOf_52 : decode cX7_takenBackOf 52 = .ok (.invokestatic 80, 3) := by decide +kernel
theorem dX7_takenBackOf_55 : decode cX7_takenBackOf 55 = .ok (.invokestatic 256, 3) := by decide +kernel
theorem dX7_takenBackOf_58 : decode cX7_takenBackOf 58 = .ok (.lstore 7, 2) := by decide +kernel
theorem dX7_takenBackOf_60 : decode cX7_takenBackOf 60 = .ok (.lload 5, 2) := by decide +kernel
theorem dX7_takenBackOf_62 : decode cX7_takenBackOf 62 = .ok (.lload 7, 2) := by decide +kernel
theorem dX7_takenBackOf_64 : decode cX7_takenBackOf 64 = .ok (.lsub, 1) := by decide +kernel
theorem dX7_takenBackOf_65 : decode cX7_takenBackOf 65 = .ok (.lstore 5, 2) := by decide +kernel
theorem dX7_takenBackOf_67 : decode cX7_takenBackOf 67 = .ok (.iinc 9 1, 3) := by decide +kernel
theorem dX7_takenBackOf_70 : decode cX7_takenBackOf 70 = .ok (.goto (-36), 3) := by decide +kernel
theorem dX7_takenBackOf_73 : decode cX7_takenBackOf 73 = .ok (.lload 7, 2) := by decide +kernel
theorem dX7_takenBackOf_75 : decode cX7_takenBackOf 75 = .ok (.lreturn, 1) := by decide +kernel
theorem dX7_earnedIn_0 : decode cX7_earnedIn 0 = .ok (.aload_n 0, 1) := by decide +kernel
theorem dX7_earnedIn_1 : decode cX7_earnedIn 1 = .ok (.iload_n 1, 1) := by decide +kernel
theorem dX7_earnedIn_2 : decode cX7_earnedIn 2 = .ok (.iconst 2, 1) := by decide +kernel
theorem dX7_earnedIn_3 : decode cX7_earnedIn 3 = .ok (.iload_n 2, 1) := by decide +kernel
theorem dX7_earnedIn_4 : decode cX7_earnedIn 4 = .ok (.invokevirtual 164, 3) := by decide +kernel
theorem dX7_earnedIn_7 : decode cX7_earnedIn 7 = .ok (.astore_n 3, 1) := by decide +kernel
theorem dX7_earnedIn_8 : decode cX7_earnedIn 8 = .ok (.aload_n 0, 1) := by decide +kernel
theorem dX7_earnedIn_9 : decode cX7_earnedIn 9 = .ok (.getfield 46, 3) := by decide +kernel
theorem dX7_earnedIn_12 : decode cX7_earnedIn 12 = .ok (.getfield 132, 3) := by decide +kernel
theorem dX7_earnedIn_15 : decode cX7_earnedIn 15 = .ok (.aload_n 0, 1) := by decide +kernel
theorem dX7_earnedIn_16 : decode cX7_earnedIn 16 = .ok (.getfield 59, 3) := by decide +kernel
theorem dX7_earnedIn_19 : decode cX7_earnedIn 19 = .ok (.iload_n 1, 1) := by decide +kernel
theorem dX7_earnedIn_20 : decode cX7_earnedIn 20 = .ok (.bipush 14, 2) := by decide +kernel
theorem dX7_earnedIn_22 : decode cX7_earnedIn 22 = .ok (.iload_n 2, 1) := by decide +kernel
theorem dX7_earnedIn_23 : decode cX7_earnedIn 23 = .ok (.iadd, 1) := by decide +kernel
theorem dX7_earnedIn_24 : decode cX7_earnedIn 24 = .ok (.aload_n 0, 1) := by decide +kernel
theorem dX7_earnedIn_25 : decode cX7_earnedIn 25 = .ok (.getfield 63, 3) := by decide +kernel
theorem dX7_earnedIn_28 : decode cX7_earnedIn 28 = .ok (.invokevirtual 178, 3) := by decide +kernel
theorem dX7_earnedIn_31 : decode cX7_earnedIn 31 = .ok (.istore 4, 2) := by decide +kernel
theorem dX7_earnedIn_33 : decode cX7_earnedIn 33 = .ok (.aload_n 3, 1) := by decide +kernel
theorem dX7_earnedIn_34 : decode cX7_earnedIn 34 = .ok (.ifnull 9, 3) := by decide +kernel
theorem dX7_earnedIn_37 : decode cX7_earnedIn 37 = .ok (.iload 4, 2) := by decide +kernel
theorem dX7_earnedIn_39 : decode cX7_earnedIn 39 = .ok (.iconst (-1), 1) := by decide +kernel
theorem dX7_earnedIn_40 : decode cX7_earnedIn 40 = .ok (.if_icmp .ne 7, 3) := by decide +kernel
theorem dX7_earnedIn_43 : decode cX7_earnedIn 43 = .ok (.lconst 0, 1) := by decide +kernel
theorem dX7_earnedIn_44 : decode cX7_earnedIn 44 = .ok (.goto 10, 3) := by decide +kernel
theorem dX7_earnedIn_47 : decode cX7_earnedIn 47 = .ok (.aload_n 3, 1) := by decide +kernel
theorem dX7_earnedIn_48 : decode cX7_earnedIn 48 = .ok (.iload 4, 2) := by decide +kernel
theorem dX7_earnedIn_50 : decode cX7_earnedIn 50 = .ok (.i2l, 1) := by decide +kernel
theorem dX7_earnedIn_51 : decode cX7_earnedIn 51 = .ok (.invokevirtual 259, 3) := by decide +kernel
theorem dX7_earnedIn_54 : decode cX7_earnedIn 54 = .ok (.lreturn, 1) := by decide +kernel
theorem dX7_sharedIn_0 : decode cX7_sharedIn 0 = .ok (.aload_n 0, 1) := by decide +kernel
theorem dX7_sharedIn_1 : decode cX7_sharedIn 1 = .ok (.getfield 46, 3) := by decide +kernel
theorem dX7_sharedIn_4 : decode cX7_sharedIn 4 = .ok (.getfield 132, 3) := by decide +kernel
theorem dX7_sharedIn_7 : decode cX7_sharedIn 7 = .ok (.aload_n 0, 1) := by decide +kernel
theorem dX7_sharedIn_8 : decode cX7_sharedIn 8 = .ok (.getfield 59, 3) := by decide +kernel
theorem dX7_sharedIn_11 : decode cX7_sharedIn 11 = .ok (.iload_n 1, 1) := by decide +kernel
theorem dX7_sharedIn_12 : decode cX7_sharedIn 12 = .ok (.iconst 3, 1) := by decide +kernel
theorem dX7_sharedIn_13 : decode cX7_sharedIn 13 = .ok (.iload_n 2, 1) := by decide +kernel
theorem dX7_sharedIn_14 : decode cX7_sharedIn 14 = .ok (.iadd, 1) := by decide +kernel
theorem dX7_sharedIn_15 : decode cX7_sharedIn 15 = .ok (.aload_n 0, 1) := by decide +kernel
theorem dX7_sharedIn_16 : decode cX7_sharedIn 16 = .ok (.getfield 63, 3) := by decide +kernel
theorem dX7_sharedIn_19 : decode cX7_sharedIn 19 = .ok (.invokevirtual 178, 3) := by decide +kernel
theorem dX7_sharedIn_22 : decode cX7_sharedIn 22 = .ok (.istore_n 3, 1) := by decide +kernel
theorem dX7_sharedIn_23 : decode cX7_sharedIn 23 = .ok (.iload_n 3, 1) := by decide +kernel
theorem dX7_sharedIn_24 : decode cX7_sharedIn 24 = .ok (.iconst (-1), 1) := by decide +kernel
theorem dX7_sharedIn_25 : decode cX7_sharedIn 25 = .ok (.if_icmp .eq 22, 3) := by decide +kernel
theorem dX7_sharedIn_28 : decode cX7_sharedIn 28 = .ok (.iload_n 1, 1) := by decide +kernel
theorem dX7_sharedIn_29 : decode cX7_sharedIn 29 = .ok (.ifCond .lt 18, 3) := by decide +kernel
theorem dX7_sharedIn_32 : decode cX7_sharedIn 32 = .ok (.iload_n 1, 1) := by decide +kernel
theorem dX7_sharedIn_33 : decode cX7_sharedIn 33 = .ok (.bipush 15, 2) := by decide +kernel
theorem dX7_sharedIn_35 : decode cX7_sharedIn 35 = .ok (.if_icmp .ge 12, 3) := by decide +kernel
theorem dX7_sharedIn_38 : decode cX7_sharedIn 38 = .ok (.iload_n 2, 1) := by decide +kernel
theorem dX7_sharedIn_39 : decode cX7_sharedIn 39 = .ok (.ifCond .lt 8, 3) := by decide +kernel
theorem dX7_sharedIn_42 : decode cX7_sharedIn 42 = .ok (.iload_n 2, 1) := by decide +kernel
theorem dX7_sharedIn_43 : decode cX7_sharedIn 43 = .ok (.iconst 4, 1) := by decide +kernel
theorem dX7_sharedIn_44 : decode cX7_sharedIn 44 = .ok (.if_icmp .lt 5, 3) := by decide +kernel
theorem dX7_sharedIn_47 : decode cX7_sharedIn 47 = .ok (.lconst 0, 1) := by decide +kernel
theorem dX7_sharedIn_48 : decode cX7_sharedIn 48 = .ok (.lreturn, 1) := by decide +kernel
theorem dX7_sharedIn_49 : decode cX7_sharedIn 49 = .ok (.iload_n 3, 1) := by decide +kernel
theorem dX7_sharedIn_50 : decode cX7_sharedIn 50 = .ok (.i2l, 1) := by decide +kernel
theorem dX7_sharedIn_51 : decode cX7_sharedIn 51 = .ok (.aload_n 0, 1) := by decide +kernel
theorem dX7_sharedIn_52 : decode cX7_sharedIn 52 = .ok (.getfield 31, 3) := by decide +kernel
theorem dX7_sharedIn_55 : decode cX7_sharedIn 55 = .ok (.iload_n 1, 1) := by decide +kernel
theorem dX7_sharedIn_56 : decode cX7_sharedIn 56 = .ok (.aaload, 1) := by decide +kernel
theorem dX7_sharedIn_57 : decode cX7_sharedIn 57 = .ok (.iload_n 2, 1) := by decide +kernel
theorem dX7_sharedIn_58 : decode cX7_sharedIn 58 = .ok (.laload, 1) := by decide +kernel
theorem dX7_sharedIn_59 : decode cX7_sharedIn 59 = .ok (.lsub, 1) := by decide +kernel
theorem dX7_sharedIn_60 : decode cX7_sharedIn 60 = .ok (.lstore 4, 2) := by decide +kernel
theorem dX7_sharedIn_62 : decode cX7_sharedIn 62 = .ok (.lload 4, 2) := by decide +kernel
theorem dX7_sharedIn_64 : decode cX7_sharedIn 64 = .ok (.aload_n 0, 1) := by decide +kernel
theorem dX7_sharedIn_65 : decode cX7_sharedIn 65 = .ok (.iload_n 1, 1) := by decide +kernel
theorem dX7_sharedIn_66 : decode cX7_sharedIn 66 = .ok (.iload_n 2, 1) := by decide +kernel
theorem dX7_sharedIn_67 : decode cX7_sharedIn 67 = .ok (.lload 4, 2) := by decide +kernel
theorem dX7_sharedIn_69 : decode cX7_sharedIn 69 = .ok (.invokevirtual 262, 3) := by decide +kernel
theorem dX7_sharedIn_72 : decode cX7_sharedIn 72 = .ok (.lsub, 1) := by decide +kernel
theorem dX7_sharedIn_73 : decode cX7_sharedIn 73 = .ok (.lreturn, 1) := by decide +kernel
theorem dX7_bornePart_0 : decode cX7_bornePart 0 = .ok (.aload_n 0, 1) := by decide +kernel
theorem dX7_bornePart_1 : decode cX7_bornePart 1 = .ok (.iload_n 1, 1) := by decide +kernel
theorem dX7_bornePart_2 : decode cX7_bornePart 2 = .ok (.iconst 1, 1) := by decide +kernel
theorem dX7_bornePart_3 : decode cX7_bornePart 3 = .ok (.iload_n 2, 1) := by decide +kernel
theorem dX7_bornePart_4 : decode cX7_bornePart 4 = .ok (.invokevirtual 164, 3) := by decide +kernel
theorem dX7_bornePart_7 : decode cX7_bornePart 7 = .ok (.astore 5, 2) := by decide +kernel
theorem dX7_bornePart_9 : decode cX7_bornePart 9 = .ok (.aload 5, 2) := by decide +kernel
theorem dX7_bornePart_11 : decode cX7_bornePart 11 = .ok (.ifnonnull 5, 3) := by decide +kernel
theorem dX7_bornePart_14 : decode cX7_bornePart 14 = .ok (.lconst 0, 1) := by decide +kernel
theorem dX7_bornePart_15 : decode cX7_bornePart 15 = .ok (.lreturn, 1) := by decide +kernel
theorem dX7_bornePart_16 : decode cX7_bornePart 16 = .ok (.lload_n 3, 1) := by decide +kernel
theorem dX7_bornePart_17 : decode cX7_bornePart 17 = .ok (.lload_n 3, 1) := by decide +kernel
theorem dX7_bornePart_18 : decode cX7_bornePart 18 = .ok (.lconst 0, 1) := by decide +kernel
theorem dX7_bornePart_19 : decode cX7_bornePart 19 = .ok (.lcmp, 1) := by decide +kernel
theorem dX7_bornePart_20 : decode cX7_bornePart 20 = .ok (.ifCond .le 12, 3) := by decide +kernel
theorem dX7_bornePart_23 : decode cX7_bornePart 23 = .ok (.aload 5, 2) := by decide +kernel
theorem dX7_bornePart_25 : decode cX7_bornePart 25 = .ok (.getfield 129, 3) := by decide +kernel
theorem dX7_bornePart_28 : decode cX7_bornePart 28 = .ok (.i2l, 1) := by decide +kernel
theorem dX7_bornePart_29 : decode cX7_bornePart 29 = .ok (.goto 9, 3) := by decide +kernel
theorem dX7_bornePart_32 : decode cX7_bornePart 32 = .ok (.aload 5, 2) := by decide +kernel
theorem dX7_bornePart_34 : decode cX7_bornePart 34 = .ok (.getfield 266, 3) := by decide +kernel
theorem dX7_bornePart_37 : decode cX7_bornePart 37 = .ok (.i2l, 1) := by decide +kernel
theorem dX7_bornePart_38 : decode cX7_bornePart 38 = .ok (.invokestatic 80, 3) := by decide +kernel
theorem dX7_bornePart_41 : decode cX7_bornePart 41 = .ok (.lreturn, 1) := by decide +kernel
theorem dX7_lineAt_0 : decode cX7_lineAt 0 = .ok (.iload_n 1, 1) := by decide +kernel
theorem dX7_lineAt_1 : decode cX7_lineAt 1 = .ok (.ifCond .lt 30, 3) := by decide +kernel
theorem dX7_lineAt_4 : decode cX7_lineAt 4 = .ok (.iload_n 1, 1) := by decide +kernel
theorem dX7_lineAt_5 : decode cX7_lineAt 5 = .ok (.bipush 15, 2) := by decide +kernel
theorem dX7_lineAt_7 : decode cX7_lineAt 7 = .ok (.if_icmp .ge 24, 3) := by decide +kernel
theorem dX7_lineAt_10 : decode cX7_lineAt 10 = .ok (.iload_n 2, 1) := by decide +kernel
theorem dX7_lineAt_11 : decode cX7_lineAt 11 = .ok (.ifCond .lt 20, 3) := by decide +kernel
theorem dX7_lineAt_14 : decode cX7_lineAt 14 = .ok (.iload_n 2, 1) := by decide +kernel
theorem dX7_lineAt_15 : decode cX7_lineAt 15 = .ok (.bipush 15, 2) := by decide +kernel
theorem dX7_lineAt_17 : decode cX7_lineAt 17 = .ok (.if_icmp .ge 14, 3) := by decide +kernel
theorem dX7_lineAt_20 : decode cX7_lineAt 20 = .ok (.aload_n 0, 1) := by decide +kernel
theorem dX7_lineAt_21 : decode cX7_lineAt 21 = .ok (.getfield 34, 3) := by decide +kernel
theorem dX7_lineAt_24 : decode cX7_lineAt 24 = .ok (.iload_n 1, 1) := by decide +kernel
theorem dX7_lineAt_25 : decode cX7_lineAt 25 = .ok (.aaload, 1) := by decide +kernel
theorem dX7_lineAt_26 : decode cX7_lineAt 26 = .ok (.iload_n 2, 1) := by decide +kernel
theorem dX7_lineAt_27 : decode cX7_lineAt 27 = .ok (.laload, 1) := by decide +kernel
theorem dX7_lineAt_28 : decode cX7_lineAt 28 = .ok (.goto 4, 3) := by decide +kernel
theorem dX7_lineAt_31 : decode cX7_lineAt 31 = .ok (.lconst 0, 1) := by decide +kernel
theorem dX7_lineAt_32 : decode cX7_lineAt 32 = .ok (.lreturn, 1) := by decide +kernel
theorem dX7_allLines_0 : decode cX7_allLines 0 = .ok (.lconst 0, 1) := by decide +kernel
theorem dX7_allLines_1 : decode cX7_allLines 1 = .ok (.lstore_n 2, 1) := by decide +kernel
theorem dX7_allLines_2 : decode cX7_allLines 2 = .ok (.iconst 0, 1) := by decide +kernel
theorem dX7_allLines_3 : decode cX7_allLines 3 = .ok (.istore 4, 2) := by decide +kernel
theorem dX7_allLines_5 : decode cX7_allLines 5 = .ok (.iload 4, 2) := by decide +kernel
theorem dX7_allLines_7 : decode cX7_allLines 7 = .ok (.bipush 15, 2) := by decide +kernel
theorem dX7_allLines_9 : decode cX7_allLines 9 = .ok (.if_icmp .ge 19, 3) := by decide +kernel
theorem dX7_allLines_12 : decode cX7_allLines 12 = .ok (.lload_n 2, 1) := by decide +kernel
theorem dX7_allLines_13 : decode cX7_allLines 13 = .ok (.aload_n 0, 1) := by decide +kernel
theorem dX7_allLines_14 : decode cX7_allLines 14 = .ok (.iload_n 1, 1) := by decide +kernel
theorem dX7_allLines_15 : decode cX7_allLines 15 = .ok (.iload 4, 2) := by decide +kernel
theorem dX7_allLines_17 : decode cX7_allLines 17 = .ok (.invokevirtual 269, 3) := by decide +kernel
theorem dX7_allLines_20 : decode cX7_allLines 20 = .ok (.ladd, 1) := by decide +kernel
theorem dX7_allLines_21 : decode cX7_allLines 21 = .ok (.lstore_n 2, 1) := by decide +kernel
theorem dX7_allLines_22 : decode cX7_allLines 22 = .ok (.iinc 4 1, 3) := by decide +kernel
theorem dX7_allLines_25 : decode cX7_allLines 25 = .ok (.goto (-20), 3) := by decide +kernel
theorem dX7_allLines_28 : decode cX7_allLines 28 = .ok (.lload_n 2, 1) := by decide +kernel
theorem dX7_allLines_29 : decode cX7_allLines 29 = .ok (.lreturn, 1) := by decide +kernel
theorem dX7_fillBills_0 : decode cX7_fillBills 0 = .ok (.iload_n 1, 1) := by decide +kernel
theorem dX7_fillBills_1 : decode cX7_fillBills 1 = .ok (.iload_n 1, 1) := by decide +kernel
theorem dX7_fillBills_2 : decode cX7_fillBills 2 = .ok (.iconst 5, 1) := by decide +kernel
theorem dX7_fillBills_3 : decode cX7_fillBills 3 = .ok (.irem, 1) := by decide +kernel
theorem dX7_fillBills_4 : decode cX7_fillBills 4 = .ok (.isub, 1) := by decide +kernel
theorem dX7_fillBills_5 : decode cX7_fillBills 5 = .ok (.istore_n 2, 1) := by decide +kernel
theorem dX7_fillBills_6 : decode cX7_fillBills 6 = .ok (.aload_n 0, 1) := by decide +kernel
theorem dX7_fillBills_7 : decode cX7_fillBills 7 = .ok (.iload_n 2, 1) := by decide +kernel
theorem dX7_fillBills_8 : decode cX7_fillBills 8 = .ok (.iload_n 1, 1) := by decide +kernel
theorem dX7_fillBills_9 : decode cX7_fillBills 9 = .ok (.invokevirtual 272, 3) := by decide +kernel
theorem dX7_fillBills_12 : decode cX7_fillBills 12 = .ok (.iconst 0, 1) := by decide +kernel
theorem dX7_fillBills_13 : decode cX7_fillBills 13 = .ok (.iload_n 2, 1) := by decide +kernel
theorem dX7_fillBills_14 : decode cX7_fillBills 14 = .ok (.invokestatic 201, 3) := by decide +kernel
theorem dX7_fillBills_17 : decode cX7_fillBills 17 = .ok (.istore_n 3, 1) := by decide +kernel
theorem dX7_fillBills_18 : decode cX7_fillBills 18 = .ok (.iload_n 3, 1) := by decide +kernel
theorem dX7_fillBills_19 : decode cX7_fillBills 19 = .ok (.iload_n 1, 1) := by decide +kernel
theorem dX7_fillBills_20 : decode cX7_fillBills 20 = .ok (.if_icmp .gt 98, 3) := by decide +kernel
theorem dX7_fillBills_23 : decode cX7_fillBills 23 = .ok (.iload_n 3, 1) := by decide +kernel
theorem dX7_fillBills_24 : decode cX7_fillBills 24 = .ok (.bipush 15, 2) := by decide +kernel
theorem dX7_fillBills_26 : decode cX7_fillBills 26 = .ok (.if_icmp .ge 92, 3) := by decide +kernel
theorem dX7_fillBills_29 : decode cX7_fillBills 29 = .ok (.aload_n 0, 1) := by decide +kernel
theorem dX7_fillBills_30 : decode cX7_fillBills 30 = .ok (.iload_n 3, 1) := by decide +kernel
theorem dX7_fillBills_31 : decode cX7_fillBills 31 = .ok (.invokevirtual 276, 3) := by decide +kernel
theorem dX7_fillBills_34 : decode cX7_fillBills 34 = .ok (.lstore 4, 2) := by decide +kernel
theorem dX7_fillBills_36 : decode cX7_fillBills 36 = .ok (.iload_n 3, 1) := by decide +kernel
theorem dX7_fillBills_37 : decode cX7_fillBills 37 = .ok (.iload_n 2, 1) := by decide +kernel
theorem dX7_fillBills_38 : decode cX7_fillBills 38 = .ok (.if_icmp .le 15, 3) := by decide +kernel
theorem dX7_fillBills_41 : decode cX7_fillBills 41 = .ok (.lload 4, 2) := by decide +kernel
theorem dX7_fillBills_43 : decode cX7_fillBills 43 = .ok (.aload_n 0, 1) := by decide +kernel
theorem dX7_fillBills_44 : decode cX7_fillBills 44 = .ok (.iload_n 3, 1) := by decide +kernel
theorem dX7_fillBills_45 : decode cX7_fillBills 45 = .ok (.iconst 1, 1) := by decide +kernel
theorem dX7_fillBills_46 : decode cX7_fillBills 46 = .ok (.isub, 1) := by decide +kernel
theorem dX7_fillBills_47 : decode cX7_fillBills 47 = .ok (.invokevirtual 279, 3) := by decide +kernel
theorem dX7_fillBills_50 : decode cX7_fillBills 50 = .ok (.ladd, 1) := by decide +kernel
theorem dX7_fillBills_51 : decode cX7_fillBills 51 = .ok (.lstore 4, 2) := by decide +kernel
theorem dX7_fillBills_53 : decode cX7_fillBills 53 = .ok (.iload_n 3, 1) := by decide +kernel
theorem dX7_fillBills_54 : decode cX7_fillBills 54 = .ok (.iload_n 2, 1) := by decide +kernel
theorem dX7_fillBills_55 : decode cX7_fillBills 55 = .ok (.if_icmp .le 16, 3) := by decide +kernel
theorem dX7_fillBills_58 : decode cX7_fillBills 58 = .ok (.iload_n 3, 1) := by decide +kernel
theorem dX7_fillBills_59 : decode cX7_fillBills 59 = .ok (.iload_n 2, 1) := by decide +kernel
theorem dX7_fillBills_60 : decode cX7_fillBills 60 = .ok (.iconst 5, 1) := by decide +kernel
theorem dX7_fillBills_61 : decode cX7_fillBills 61 = .ok (.iadd, 1) := by decide +kernel
theorem dX7_fillBills_62 : decode cX7_fillBills 62 = .ok (.iconst 1, 1) := by decide +kernel
theorem dX7_fillBills_63 : decode cX7_fillBills 63 = .ok (.isub, 1) := by decide +kernel
theorem dX7_fillBills_64 : decode cX7_fillBills 64 = .ok (.if_icmp .ge 7, 3) := by decide +kernel
theorem dX7_fillBills_67 : decode cX7_fillBills 67 = .ok (.iconst 1, 1) := by decide +kernel
theorem dX7_fillBills_68 : decode cX7_fillBills 68 = .ok (.goto 4, 3) := by decide +kernel
theorem dX7_fillBills_71 : decode cX7_fillBills 71 = .ok (.iconst 0, 1) := by decide +kernel
theorem dX7_fillBills_72 : decode cX7_fillBills 72 = .ok (.istore 6, 2) := by decide +kernel
theorem dX7_fillBills_74 : decode cX7_fillBills 74 = .ok (.aload_n 0, 1) := by decide +kernel
theorem dX7_fillBills_75 : decode cX7_fillBills 75 = .ok (.getfield 37, 3) := by decide +kernel
theorem dX7_fillBills_78 : decode cX7_fillBills 78 = .ok (.iload_n 3, 1) := by decide +kernel
theorem dX7_fillBills_79 : decode cX7_fillBills 79 = .ok (.iload 6, 2) := by decide +kernel
theorem dX7_fillBills_81 : decode cX7_fillBills 81 = .ok (.ifCond .eq 13, 3) := by decide +kernel
theorem dX7_fillBills_84 : decode cX7_fillBills 84 = .ok (.aload_n 0, 1) := by decide +kernel
theorem dX7_fillBills_85 : decode cX7_fillBills 85 = .ok (.iload_n 3, 1) := by decide +kernel
theorem dX7_fillBills_86 : decode cX7_fillBills 86 = .ok (.lload 4, 2) := by decide +kernel
theorem dX7_fillBills_88 : decode cX7_fillBills 88 = .ok (.invokevirtual 282, 3) := by decide +kernel
theorem dX7_fillBills_91 : decode cX7_fillBills 91 = .ok (.goto 5, 3) := by decide +kernel
theorem dX7_fillBills_94 : decode cX7_fillBills 94 = .ok (.lload 4, 2) := by decide +kernel
theorem dX7_fillBills_96 : decode cX7_fillBills 96 = .ok (.lastore, 1) := by decide +kernel
theorem dX7_fillBills_97 : decode cX7_fillBills 97 = .ok (.aload_n 0, 1) := by decide +kernel
theorem dX7_fillBills_98 : decode cX7_fillBills 98 = .ok (.getfield 40, 3) := by decide +kernel
theorem dX7_fillBills_101 : decode cX7_fillBills 101 = .ok (.iload_n 3, 1) := by decide +kernel
theorem dX7_fillBills_102 : decode cX7_fillBills 102 = .ok (.lload 4, 2) := by decide +kernel
theorem dX7_fillBills_104 : decode cX7_fillBills 104 = .ok (.aload_n 0, 1) := by decide +kernel
theorem dX7_fillBills_105 : decode cX7_fillBills 105 = .ok (.getfield 37, 3) := by decide +kernel
theorem dX7_fillBills_108 : decode cX7_fillBills 108 = .ok (.iload_n 3, 1) := by decide +kernel
theorem dX7_fillBills_109 : decode cX7_fillBills 109 = .ok (.laload, 1) := by decide +kernel
theorem dX7_fillBills_110 : decode cX7_fillBills 110 = .ok (.lsub, 1) := by decide +kernel
theorem dX7_fillBills_111 : decode cX7_fillBills 111 = .ok (.lastore, 1) := by decide +kernel
theorem dX7_fillBills_112 : decode cX7_fillBills 112 = .ok (.iinc 3 1, 3) := by decide +kernel
theorem dX7_fillBills_115 : decode cX7_fillBills 115 = .ok (.goto (-97), 3) := by decide +kernel
theorem dX7_fillBills_118 : decode cX7_fillBills 118 = .ok (.return_, 1) := by decide +kernel
theorem dX7_tilted_0 : decode cX7_tilted 0 = .ok (.aload_n 0, 1) := by decide +kernel
theorem dX7_tilted_1 : decode cX7_tilted 1 = .ok (.iload_n 1, 1) := by decide +kernel
theorem dX7_tilted_2 : decode cX7_tilted 2 = .ok (.bipush 7, 2) := by decide +kernel
theorem dX7_tilted_4 : decode cX7_tilted 4 = .ok (.invokevirtual 76, 3) := by decide +kernel
theorem dX7_tilted_7 : decode cX7_tilted 7 = .ok (.istore 4, 2) := by decide +kernel
theorem dX7_tilted_9 : decode cX7_tilted 9 = .ok (.iload 4, 2) := by decide +kernel
theorem dX7_tilted_11 : decode cX7_tilted 11 = .ok (.iconst (-1), 1) := by decide +kernel
theorem dX7_tilted_12 : decode cX7_tilted 12 = .ok (.if_icmp .ne 5, 3) := by decide +kernel
theorem dX7_tilted_15 : decode cX7_tilted 15 = .ok (.lload_n 2, 1) := by decide +kernel
theorem dX7_tilted_16 : decode cX7_tilted 16 = .ok (.lreturn, 1) := by decide +kernel
theorem dX7_tilted_17 : decode cX7_tilted 17 = .ok (.aload_n 0, 1) := by decide +kernel
theorem dX7_tilted_18 : decode cX7_tilted 18 = .ok (.iload_n 1, 1) := by decide +kernel
theorem dX7_tilted_19 : decode cX7_tilted 19 = .ok (.iconst 1, 1) := by decide +kernel
theorem dX7_tilted_20 : decode cX7_tilted 20 = .ok (.isub, 1) := by decide +kernel
theorem dX7_tilted_21 : decode cX7_tilted 21 = .ok (.invokevirtual 286, 3) := by decide +kernel
theorem dX7_tilted_24 : decode cX7_tilted 24 = .ok (.lstore 5, 2) := by decide +kernel
theorem dX7_tilted_26 : decode cX7_tilted 26 = .ok (.lload 5, 2) := by decide +kernel
theorem dX7_tilted_28 : decode cX7_tilted 28 = .ok (.bipush 100, 2) := by decide +kernel
theorem dX7_tilted_30 : decode cX7_tilted 30 = .ok (.iload 4, 2) := by decide +kernel
theorem dX7_tilted_32 : decode cX7_tilted 32 = .ok (.iadd, 1) := by decide +kernel
theorem dX7_tilted_33 : decode cX7_tilted 33 = .ok (.i2l, 1) := by decide +kernel
theorem dX7_tilted_34 : decode cX7_tilted 34 = .ok (.invokestatic 80, 3) := by decide +kernel
theorem dX7_tilted_37 : decode cX7_tilted 37 = .ok (.lstore 7, 2) := by decide +kernel
theorem dX7_tilted_39 : decode cX7_tilted 39 = .ok (.lload 5, 2) := by decide +kernel
theorem dX7_tilted_41 : decode cX7_tilted 41 = .ok (.bipush 100, 2) := by decide +kernel
theorem dX7_tilted_43 : decode cX7_tilted 43 = .ok (.iload 4, 2) := by decide +kernel
theorem dX7_tilted_45 : decode cX7_tilted 45 = .ok (.isub, 1) := by decide +kernel
theorem dX7_tilted_46 : decode cX7_tilted 46 = .ok (.i2l, 1) := by decide +kernel
theorem dX7_tilted_47 : decode cX7_tilted 47 = .ok (.invokestatic 80, 3) := by decide +kernel
theorem dX7_tilted_50 : decode cX7_tilted 50 = .ok (.lstore 9, 2) := by decide +kernel
theorem dX7_tilted_52 : decode cX7_tilted 52 = .ok (.lload 9, 2) := by decide +kernel
theorem dX7_tilted_54 : decode cX7_tilted 54 = .ok (.lload 7, 2) := by decide +kernel
theorem dX7_tilted_56 : decode cX7_tilted 56 = .ok (.lload_n 2, 1) := by decide +kernel
theorem dX7_tilted_57 : decode cX7_tilted 57 = .ok (.invokestatic 256, 3) := by decide +kernel
theorem dX7_tilted_60 : decode cX7_tilted 60 = .ok (.invokestatic 289, 3) := by decide +kernel
theorem dX7_tilted_63 : decode cX7_tilted 63 = .ok (.lreturn, 1) := by decide +kernel
theorem dX7_billsAt_0 : decode cX7_billsAt 0 = .ok (.iload_n 1, 1) := by decide +kernel
theorem dX7_billsAt_1 : decode cX7_billsAt 1 = .ok (.ifCond .lt 18, 3) := by decide +kernel
theorem dX7_billsAt_4 : decode cX7_billsAt 4 = .ok (.iload_n 1, 1) := by decide +kernel
theorem dX7_billsAt_5 : decode cX7_billsAt 5 = .ok (.bipush 15, 2) := by decide +kernel
theorem dX7_billsAt_7 : decode cX7_billsAt 7 = .ok (.if_icmp .ge 12, 3) := by decide +kernel
theorem dX7_billsAt_10 : decode cX7_billsAt 10 = .ok (.aload_n 0, 1) := by decide +kernel
theorem dX7_billsAt_11 : decode cX7_billsAt 11 = .ok (.getfield 37, 3) := by decide +kernel
theorem dX7_billsAt_14 : decode cX7_billsAt 14 = .ok (.iload_n 1, 1) := by decide +kernel
theorem dX7_billsAt_15 : decode cX7_billsAt 15 = .ok (.laload, 1) := by decide +kernel
theorem dX7_billsAt_16 : decode cX7_billsAt 16 = .ok (.goto 4, 3) := by decide +kernel
theorem dX7_billsAt_19 : decode cX7_billsAt 19 = .ok (.lconst 0, 1) := by decide +kernel
theorem dX7_billsAt_20 : decode cX7_billsAt 20 = .ok (.lreturn, 1) := by decide +kernel
theorem dX7_carriedAt_0 : decode cX7_carriedAt 0 = .ok (.iload_n 1, 1) := by decide +kernel
theorem dX7_carriedAt_1 : decode cX7_carriedAt 1 = .ok (.ifCond .lt 18, 3) := by decide +kernel
theorem dX7_carriedAt_4 : decode cX7_carriedAt 4 = .ok (.iload_n 1, 1) := by decide +kernel
theorem dX7_carriedAt_5 : decode cX7_carriedAt 5 = .ok (.bipush 15, 2) := by decide +kernel
theorem dX7_carriedAt_7 : decode cX7_carriedAt 7 = .ok (.if_icmp .ge 12, 3) := by decide +kernel
theorem dX7_carriedAt_10 : decode cX7_carriedAt 10 = .ok (.aload_n 0, 1) := by decide +kernel
theorem dX7_carriedAt_11 : decode cX7_carriedAt 11 = .ok (.getfield 40, 3) := by decide +kernel
theorem dX7_carriedAt_14 : decode cX7_carriedAt 14 = .ok (.iload_n 1, 1) := by decide +kernel
theorem dX7_carriedAt_15 : decode cX7_carriedAt 15 = .ok (.laload, 1) := by decide +kernel
theorem dX7_carriedAt_16 : decode cX7_carriedAt 16 = .ok (.goto 4, 3) := by decide +kernel
theorem dX7_carriedAt_19 : decode cX7_carriedAt 19 = .ok (.lconst 0, 1) := by decide +kernel
theorem dX7_carriedAt_20 : decode cX7_carriedAt 20 = .ok (.lreturn, 1) := by decide +kernel
theorem dX8_cut_0 : decode cX8_cut 0 = .ok (.lload_n 2, 1) := by decide +kernel
theorem dX8_cut_1 : decode cX8_cut 1 = .ok (.lconst 0, 1) := by decide +kernel
theorem dX8_cut_2 : decode cX8_cut 2 = .ok (.lcmp, 1) := by decide +kernel
theorem dX8_cut_3 : decode cX8_cut 3 = .ok (.ifCond .ne 7, 3) := by decide +kernel
theorem dX8_cut_6 : decode cX8_cut 6 = .ok (.lconst 0, 1) := by decide +kernel
theorem dX8_cut_7 : decode cX8_cut 7 = .ok (.goto 6, 3) := by decide +kernel
theorem dX8_cut_10 : decode cX8_cut 10 = .ok (.lload_n 0, 1) := by decide +kernel
theorem dX8_cut_11 : decode cX8_cut 11 = .ok (.lload_n 2, 1) := by decide +kernel
theorem dX8_cut_12 : decode cX8_cut 12 = .ok (.ldiv, 1) := by decide +kernel
theorem dX8_cut_13 : decode cX8_cut 13 = .ok (.lreturn, 1) := by decide +kernel
theorem dX8_hundredths_0 : decode cX8_hundredths 0 = .ok (.lload_n 0, 1) := by decide +kernel
theorem dX8_hundredths_1 : decode cX8_hundredths 1 = .ok (.lload_n 2, 1) := by decide +kernel
theorem dX8_hundredths_2 : decode cX8_hundredths 2 = .ok (.lmul, 1) := by decide +kernel
theorem dX8_hundredths_3 : decode cX8_hundredths 3 = .ok (.ldc2_w 9, 3) := by decide +kernel
theorem dX8_hundredths_6 : decode cX8_hundredths 6 = .ok (.ldiv, 1) := by decide +kernel
theorem dX8_hundredths_7 : decode cX8_hundredths 7 = .ok (.lreturn, 1) := by decide +kernel
theorem dX8_size_0 : decode cX8_size 0 = .ok (.lload_n 0, 1) := by decide +kernel
theorem dX8_size_1 : decode cX8_size 1 = .ok (.lconst 0, 1) := by decide +kernel
theorem dX8_size_2 : decode cX8_size 2 = .ok (.lcmp, 1) := by decide +kernel
theorem dX8_size_3 : decode cX8_size 3 = .ok (.ifCond .ge 8, 3) := by decide +kernel
theorem dX8_size_6 : decode cX8_size 6 = .ok (.lload_n 0, 1) := by decide +kernel
theorem dX8_size_7 : decode cX8_size 7 = .ok (.lneg, 1) := by decide +kernel
theorem dX8_size_8 : decode cX8_size 8 = .ok (.goto 4, 3) := by decide +kernel
theorem dX8_size_11 : decode cX8_size 11 = .ok (.lload_n 0, 1) := by decide +kernel
theorem dX8_size_12 : decode cX8_size 12 = .ok (.lreturn, 1) := by decide +kernel
theorem dX8_held_0 : decode cX8_held 0 = .ok (.lload_n 2, 1) := by decide +kernel
theorem dX8_held_1 : decode cX8_held 1 = .ok (.lconst 0, 1) := by decide +kernel
theorem dX8_held_2 : decode cX8_held 2 = .ok (.lcmp, 1) := by decide +kernel
theorem dX8_held_3 : decode cX8_held 3 = .ok (.ifCond .ne 7, 3) := by decide +kernel
theorem dX8_held_6 : decode cX8_held 6 = .ok (.lconst 0, 1) := by decide +kernel
theorem dX8_held_7 : decode cX8_held 7 = .ok (.goto 6, 3) := by decide +kernel
theorem dX8_held_10 : decode cX8_held 10 = .ok (.lload_n 0, 1) := by decide +kernel
theorem dX8_held_11 : decode cX8_held 11 = .ok (.lload_n 2, 1) := by decide +kernel
theorem dX8_held_12 : decode cX8_held 12 = .ok (.ldiv, 1) := by decide +kernel
theorem dX8_held_13 : decode cX8_held 13 = .ok (.lstore 4, 2) := by decide +kernel
theorem dX8_held_15 : decode cX8_held 15 = .ok (.lload 4, 2) := by decide +kernel
theorem dX8_held_17 : decode cX8_held 17 = .ok (.lconst 0, 1) := by decide +kernel
theorem dX8_held_18 : decode cX8_held 18 = .ok (.lcmp, 1) := by decide +kernel
theorem dX8_held_19 : decode cX8_held 19 = .ok (.ifCond .ge 7, 3) := by decide +kernel
theorem dX8_held_22 : decode cX8_held 22 = .ok (.lconst 0, 1) := by decide +kernel
theorem dX8_held_23 : decode cX8_held 23 = .ok (.goto 20, 3) := by decide +kernel
theorem dX8_held_26 : decode cX8_held 26 = .ok (.lload 4, 2) := by decide +kernel
theorem dX8_held_28 : decode cX8_held 28 = .ok (.ldc2_w 11, 3) := by decide +kernel
theorem dX8_held_31 : decode cX8_held 31 = .ok (.lcmp, 1) := by decide +kernel
theorem dX8_held_32 : decode cX8_held 32 = .ok (.ifCond .le 9, 3) := by decide +kernel
theorem dX8_held_35 : decode cX8_held 35 = .ok (.ldc2_w 11, 3) := by decide +kernel
theorem dX8_held_38 : decode cX8_held 38 = .ok (.goto 5, 3) := by decide +kernel
theorem dX8_held_41 : decode cX8_held 41 = .ok (.lload 4, 2) := by decide +kernel
theorem dX8_held_43 : decode cX8_held 43 = .ok (.lreturn, 1) := by decide +kernel
theorem dX9_init_0 : decode cX9_init 0 = .ok (.aload_n 0, 1) := by decide +kernel
theorem dX9_init_1 : decode cX9_init 1 = .ok (.invokespecial 3, 3) := by decide +kernel
theorem dX9_init_4 : decode cX9_init 4 = .ok (.aload_n 0, 1) := by decide +kernel
theorem dX9_init_5 : decode cX9_init 5 = .ok (.bipush 40, 2) := by decide +kernel
theorem dX9_init_7 : decode cX9_init 7 = .ok (.newarray .int, 2) := by decide +kernel
theorem dX9_init_9 : decode cX9_init 9 = .ok (.putfield 9, 3) := by decide +kernel
theorem dX9_init_12 : decode cX9_init 12 = .ok (.aload_n 0, 1) := by decide +kernel
theorem dX9_init_13 : decode cX9_init 13 = .ok (.bipush 40, 2) := by decide +kernel
theorem dX9_init_15 : decode cX9_init 15 = .ok (.newarray .int, 2) := by decide +kernel
theorem dX9_init_17 : decode cX9_init 17 = .ok (.putfield 15, 3) := by decide +kernel
theorem dX9_init_20 : decode cX9_init 20 = .ok (.aload_n 0, 1) := by decide +kernel
theorem dX9_init_21 : decode cX9_init 21 = .ok (.bipush 40, 2) := by decide +kernel
theorem dX9_init_23 : decode cX9_init 23 = .ok (.newarray .int, 2) := by decide +kernel
theorem dX9_init_25 : decode cX9_init 25 = .ok (.putfield 18, 3) := by decide +kernel
theorem dX9_init_28 : decode cX9_init 28 = .ok (.aload_n 0, 1) := by decide +kernel
theorem dX9_init_29 : decode cX9_init 29 = .ok (.bipush 40, 2) := by decide +kernel
theorem dX9_init_31 : decode cX9_init 31 = .ok (.newarray .int, 2) := by decide +kernel
theorem dX9_init_33 : decode cX9_init 33 = .ok (.putfield 21, 3) := by decide +kernel
theorem dX9_init_36 : decode cX9_init 36 = .ok (.return_, 1) := by decide +kernel
theorem dX9_take_0 : decode cX9_take 0 = .ok (.aload_n 0, 1) := by decide +kernel
theorem dX9_take_1 : decode cX9_take 1 = .ok (.getfield 24, 3) := by decide +kernel
theorem dX9_take_4 : decode cX9_take 4 = .ok (.bipush 40, 2) := by decide +kernel
theorem dX9_take_6 : decode cX9_take 6 = .ok (.if_icmp .lt 5, 3) := by decide +kernel
theorem dX9_take_9 : decode cX9_take 9 = .ok (.iconst (-1), 1) := by decide +kernel
theorem dX9_take_10 : decode cX9_take 10 = .ok (.ireturn, 1) := by decide +kernel
theorem dX9_take_11 : decode cX9_take 11 = .ok (.aload_n 0, 1) := by decide +kernel
theorem dX9_take_12 : decode cX9_take 12 = .ok (.getfield 9, 3) := by decide +kernel
theorem dX9_take_15 : decode cX9_take 15 = .ok (.aload_n 0, 1) := by decide +kernel
theorem dX9_take_16 : decode cX9_take 16 = .ok (.getfield 24, 3) := by decide +kernel
theorem dX9_take_19 : decode cX9_take 19 = .ok (.iload_n 1, 1) := by decide +kernel
theorem dX9_take_20 : decode cX9_take 20 = .ok (.iastore, 1) := by decide +kernel
theorem dX9_take_21 : decode cX9_take 21 = .ok (.aload_n 0, 1) := by decide +kernel
theorem dX9_take_22 : decode cX9_take 22 = .ok (.getfield 15, 3) := by decide +kernel
theorem dX9_take_25 : decode cX9_take 25 = .ok (.aload_n 0, 1) := by decide +kernel
theorem dX9_take_26 : decode cX9_take 26 = .ok (.getfield 24, 3) := by decide +kernel
theorem dX9_take_29 : decode cX9_take 29 = .ok (.iload_n 2, 1) := by decide +kernel
theorem dX9_take_30 : decode cX9_take 30 = .ok (.iastore, 1) := by decide +kernel
theorem dX9_take_31 : decode cX9_take 31 = .ok (.aload_n 0, 1) := by decide +kernel
theorem dX9_take_32 : decode cX9_take 32 = .ok (.getfield 18, 3) := by decide +kernel
theorem dX9_take_35 : decode cX9_take 35 = .ok (.aload_n 0, 1) := by decide +kernel
theorem dX9_take_36 : decode cX9_take 36 = .ok (.getfield 24, 3) := by decide +kernel
theorem dX9_take_39 : decode cX9_take 39 = .ok (.iload_n 3, 1) := by decide +kernel
theorem dX9_take_40 : decode cX9_take 40 = .ok (.iastore, 1) := by decide +kernel
theorem dX9_take_41 : decode cX9_take 41 = .ok (.aload_n 0, 1) := by decide +kernel
theorem dX9_take_42 : decode cX9_take 42 = .ok (.getfield 21, 3) := by decide +kernel
theorem dX9_take_45 : decode cX9_take 45 = .ok (.aload_n 0, 1) := by decide +kernel
theorem dX9_take_46 : decode cX9_take 46 = .ok (.getfield 24, 3) := by decide +kernel
theorem dX9_take_49 : decode cX9_take 49 = .ok (.iconst (-1), 1) := by decide +kernel
theorem dX9_take_50 : decode cX9_take 50 = .ok (.iastore, 1) := by decide +kernel
theorem dX9_take_51 : decode cX9_take 51 = .ok (.aload_n 0, 1) := by decide +kernel
theorem dX9_take_52 : decode cX9_take 52 = .ok (.dup, 1) := by decide +kernel
theorem dX9_take_53 : decode cX9_take 53 = .ok (.getfield 24, 3) := by decide +kernel
theorem dX9_take_56 : decode cX9_take 56 = .ok (.iconst 1, 1) := by decide +kernel
theorem dX9_take_57 : decode cX9_take 57 = .ok (.iadd, 1) := by decide +kernel
theorem dX9_take_58 : decode cX9_take 58 = .ok (.putfield 24, 3) := by decide +kernel
theorem dX9_take_61 : decode cX9_take 61 = .ok (.aload_n 0, 1) := by decide +kernel
theorem dX9_take_62 : decode cX9_take 62 = .ok (.getfield 24, 3) := by decide +kernel
theorem dX9_take_65 : decode cX9_take 65 = .ok (.iconst 1, 1) := by decide +kernel
theorem dX9_take_66 : decode cX9_take 66 = .ok (.isub, 1) := by decide +kernel
theorem dX9_take_67 : decode cX9_take 67 = .ok (.ireturn, 1) := by decide +kernel
theorem dX9_finish_0 : decode cX9_finish 0 = .ok (.aload_n 0, 1) := by decide +kernel
theorem dX9_finish_1 : decode cX9_finish 1 = .ok (.iload_n 1, 1) := by decide +kernel
theorem dX9_finish_2 : decode cX9_finish 2 = .ok (.invokevirtual 28, 3) := by decide +kernel
theorem dX9_finish_5 : decode cX9_finish 5 = .ok (.ifCond .eq 13, 3) := by decide +kernel
theorem dX9_finish_8 : decode cX9_finish 8 = .ok (.aload_n 0, 1) := by decide +kernel
theorem dX9_finish_9 : decode cX9_finish 9 = .ok (.getfield 21, 3) := by decide +kernel
theorem dX9_finish_12 : decode cX9_finish 12 = .ok (.iload_n 1, 1) := by decide +kernel
theorem dX9_finish_13 : decode cX9_finish 13 = .ok (.iaload, 1) := by decide +kernel
theorem dX9_finish_14 : decode cX9_finish 14 = .ok (.iconst (-1), 1) := by decide +kernel
theorem dX9_finish_15 : decode cX9_finish 15 = .ok (.if_icmp .eq 5, 3) := by decide +kernel
theorem dX9_finish_18 : decode cX9_finish 18 = .ok (.iconst 0, 1) := by decide +kernel
theorem dX9_finish_19 : decode cX9_finish 19 = .ok (.ireturn, 1) := by decide +kernel
theorem dX9_finish_20 : decode cX9_finish 20 = .ok (.aload_n 0, 1) := by decide +kernel
theorem dX9_finish_21 : decode cX9_finish 21 = .ok (.getfield 21, 3) := by decide +kernel
theorem dX9_finish_24 : decode cX9_finish 24 = .ok (.iload_n 1, 1) := by decide +kernel
theorem dX9_finish_25 : decode cX9_finish 25 = .ok (.iload_n 2, 1) := by decide +kernel
theorem dX9_finish_26 : decode cX9_finish 26 = .ok (.iastore, 1) := by decide +kernel
theorem dX9_finish_27 : decode cX9_finish 27 = .ok (.aload_n 0, 1) := by decide +kernel
theorem dX9_finish_28 : decode cX9_finish 28 = .ok (.dup, 1) := by decide +kernel
theorem dX9_finish_29 : decode cX9_finish 29 = .ok (.getfield 32, 3) := by decide +kernel
theorem dX9_finish_32 : decode cX9_finish 32 = .ok (.iconst 1, 1) := by decide +kernel
theorem dX9_finish_33 : decode cX9_finish 33 = .ok (.iadd, 1) := by decide +kernel
theorem dX9_finish_34 : decode cX9_finish 34 = .ok (.putfield 32, 3) := by decide +kernel
theorem dX9_finish_37 : decode cX9_finish 37 = .ok (.iconst 1, 1) := by decide +kernel
theorem dX9_finish_38 : decode cX9_finish 38 = .ok (.ireturn, 1) := by decide +kernel
theorem dX9_coinsOf_0 : decode cX9_coinsOf 0 = .ok (.aload_n 0, 1) := by decide +kernel
theorem dX9_coinsOf_1 : decode cX9_coinsOf 1 = .ok (.iload_n 1, 1) := by decide +kernel
theorem dX9_coinsOf_2 : decode cX9_coinsOf 2 = .ok (.invokevirtual 28, 3) := by decide +kernel
theorem dX9_coinsOf_5 : decode cX9_coinsOf 5 = .ok (.ifCond .eq 12, 3) := by decide +kernel
theorem dX9_coinsOf_8 : decode cX9_coinsOf 8 = .ok (.aload_n 0, 1) := by decide +kernel
theorem dX9_coinsOf_9 : decode cX9_coinsOf 9 = .ok (.getfield 15, 3) := by decide +kernel
theorem dX9_coinsOf_12 : decode cX9_coinsOf 12 = .ok (.iload_n 1, 1) := by decide +kernel
theorem dX9_coinsOf_13 : decode cX9_coinsOf 13 = .ok (.iaload, 1) := by decide +kernel
theorem dX9_coinsOf_14 : decode cX9_coinsOf 14 = .ok (.goto 4, 3) := by decide +kernel
theorem dX9_coinsOf_17 : decode cX9_coinsOf 17 = .ok (.iconst 0, 1) := by decide +kernel
theorem dX9_coinsOf_18 : decode cX9_coinsOf 18 = .ok (.ireturn, 1) := by decide +kernel
theorem dX9_dueOf_0 : decode cX9_dueOf 0 = .ok (.aload_n 0, 1) := by decide +kernel
theorem dX9_dueOf_1 : decode cX9_dueOf 1 = .ok (.iload_n 1, 1) := by decide +kernel
theorem dX9_dueOf_2 : decode cX9_dueOf 2 = .ok (.invokevirtual 28, 3) := by decide +kernel
theorem dX9_dueOf_5 : decode cX9_dueOf 5 = .ok (.ifCond .eq 12, 3) := by decide +kernel
theorem dX9_dueOf_8 : decode cX9_dueOf 8 = .ok (.aload_n 0, 1) := by decide +kernel
theorem dX9_dueOf_9 : decode cX9_dueOf 9 = .ok (.getfield 18, 3) := by decide +kernel
theorem dX9_dueOf_12 : decode cX9_dueOf 12 = .ok (.iload_n 1, 1) := by decide +kernel
theorem dX9_dueOf_13 : decode cX9_dueOf 13 = .ok (.iaload, 1) := by decide +kernel
theorem dX9_dueOf_14 : decode cX9_dueOf 14 = .ok (.goto 4, 3) := by decide +kernel
theorem dX9_dueOf_17 : decode cX9_dueOf 17 = .ok (.iconst (-1), 1) := by decide +kernel
theorem dX9_dueOf_18 : decode cX9_dueOf 18 = .ok (.ireturn, 1) := by decide +kernel
theorem dX9_isLate_0 : decode cX9_isLate 0 = .ok (.aload_n 0, 1) := by decide +kernel
theorem dX9_isLate_1 : decode cX9_isLate 1 = .ok (.iload_n 1, 1) := by decide +kernel
theorem dX9_isLate_2 : decode cX9_isLate 2 = .ok (.invokevirtual 28, 3) := by decide +kernel
theorem dX9_isLate_5 : decode cX9_isLate 5 = .ok (.ifCond .eq 23, 3) := by decide +kernel
theorem dX9_isLate_8 : decode cX9_isLate 8 = .ok (.aload_n 0, 1) := by decide +kernel
theorem dX9_isLate_9 : decode cX9_isLate 9 = .ok (.getfield 9, 3) := by decide +kernel
theorem dX9_isLate_12 : decode cX9_isLate 12 = .ok (.iload_n 1, 1) := by decide +kernel
theorem dX9_isLate_13 : decode cX9_isLate 13 = .ok (.iaload, 1) := by decide +kernel
theorem dX9_isLate_14 : decode cX9_isLate 14 = .ok (.iload_n 2, 1) := by decide +kernel
theorem dX9_isLate_15 : decode cX9_isLate 15 = .ok (.if_icmp .ne 13, 3) := by decide +kernel
theorem dX9_isLate_18 : decode cX9_isLate 18 = .ok (.aload_n 0, 1) := by decide +kernel
theorem dX9_isLate_19 : decode cX9_isLate 19 = .ok (.getfield 18, 3) := by decide +kernel
theorem dX9_isLate_22 : decode cX9_isLate 22 = .ok (.iload_n 1, 1) := by decide +kernel
theorem dX9_isLate_23 : decode cX9_isLate 23 = .ok (.iaload, 1) := by decide +kernel
theorem dX9_isLate_24 : decode cX9_isLate 24 = .ok (.iload_n 3, 1) := by decide +kernel
theorem dX9_isLate_25 : decode cX9_isLate 25 = .ok (.if_icmp .lt 5, 3) := by decide +kernel
theorem dX9_isLate_28 : decode cX9_isLate 28 = .ok (.iconst 0, 1) := by decide +kernel
theorem dX9_isLate_29 : decode cX9_isLate 29 = .ok (.ireturn, 1) := by decide +kernel
theorem dX9_isLate_30 : decode cX9_isLate 30 = .ok (.aload_n 0, 1) := by decide +kernel
theorem dX9_isLate_31 : decode cX9_isLate 31 = .ok (.getfield 21, 3) := by decide +kernel
theorem dX9_isLate_34 : decode cX9_isLate 34 = .ok (.iload_n 1, 1) := by decide +kernel
theorem dX9_isLate_35 : decode cX9_isLate 35 = .ok (.iaload, 1) := by decide +kernel
theorem dX9_isLate_36 : decode cX9_isLate 36 = .ok (.iconst (-1), 1) := by decide +kernel
theorem dX9_isLate_37 : decode cX9_isLate 37 = .ok (.if_icmp .eq 16, 3) := by decide +kernel
theorem dX9_isLate_40 : decode cX9_isLate 40 = .ok (.aload_n 0, 1) := by decide +kernel
theorem dX9_isLate_41 : decode cX9_isLate 41 = .ok (.getfield 21, 3) := by decide +kernel
theorem dX9_isLate_44 : decode cX9_isLate 44 = .ok (.iload_n 1, 1) := by decide +kernel
theorem dX9_isLate_45 : decode cX9_isLate 45 = .ok (.iaload, 1) := by decide +kernel
theorem dX9_isLate_46 : decode cX9_isLate 46 = .ok (.iload_n 3, 1) := by decide +kernel
theorem dX9_isLate_47 : decode cX9_isLate 47 = .ok (.bipush 100, 2) := by decide +kernel
theorem dX9_isLate_49 : decode cX9_isLate 49 = .ok (.imul, 1) := by decide +kernel
theorem dX9_isLate_50 : decode cX9_isLate 50 = .ok (.if_icmp .lt 7, 3) := by decide +kernel
theorem dX9_isLate_53 : decode cX9_isLate 53 = .ok (.iconst 1, 1) := by decide +kernel
theorem dX9_isLate_54 : decode cX9_isLate 54 = .ok (.goto 4, 3) := by decide +kernel
theorem dX9_isLate_57 : decode cX9_isLate 57 = .ok (.iconst 0, 1) := by decide +kernel
theorem dX9_isLate_58 : decode cX9_isLate 58 = .ok (.ireturn, 1) := by decide +kernel
theorem dX9_countLate_0 : decode cX9_countLate 0 = .ok (.iconst 0, 1) := by decide +kernel
theorem dX9_countLate_1 : decode cX9_countLate 1 = .ok (.istore_n 3, 1) := by decide +kernel
theorem dX9_countLate_2 : decode cX9_countLate 2 = .ok (.iconst 0, 1) := by decide +kernel
theorem dX9_countLate_3 : decode cX9_countLate 3 = .ok (.istore 4, 2) := by decide +kernel
theorem dX9_countLate_5 : decode cX9_countLate 5 = .ok (.iload 4, 2) := by decide +kernel
theorem dX9_countLate_7 : decode cX9_countLate 7 = .ok (.aload_n 0, 1) := by decide +kernel
theorem dX9_countLate_8 : decode cX9_countLate 8 = .ok (.getfield 24, 3) := by decide +kernel
theorem dX9_countLate_11 : decode cX9_countLate 11 = .ok (.if_icmp .ge 30, 3) := by decide +kernel
theorem dX9_countLate_14 : decode cX9_countLate 14 = .ok (.iload 4, 2) := by decide +kernel
theorem dX9_countLate_16 : decode cX9_countLate 16 = .ok (.bipush 40, 2) := by decide +kernel
theorem dX9_countLate_18 : decode cX9_countLate 18 = .ok (.if_icmp .ge 23, 3) := by decide +kernel
theorem dX9_countLate_21 : decode cX9_countLate 21 = .ok (.aload_n 0, 1) := by decide +kernel
theorem dX9_countLate_22 : decode cX9_countLate 22 = .ok (.iload 4, 2) := by decide +kernel
theorem dX9_countLate_24 : decode cX9_countLate 24 = .ok (.iload_n 1, 1) := by decide +kernel
theorem dX9_countLate_25 : decode cX9_countLate 25 = .ok (.iload_n 2, 1) := by decide +kernel
theorem dX9_countLate_26 : decode cX9_countLate 26 = .ok (.invokevirtual 35, 3) := by decide +kernel
theorem dX9_countLate_29 : decode cX9_countLate 29 = .ok (.ifCond .eq 6, 3) := by decide +kernel
theorem dX9_countLate_32 : decode cX9_countLate 32 = .ok (.iinc 3 1, 3) := by decide +kernel
theorem dX9_countLate_35 : decode cX9_countLate 35 = .ok (.iinc 4 1, 3) := by decide +kernel
theorem dX9_countLate_38 : decode cX9_countLate 38 = .ok (.goto (-33), 3) := by decide +kernel
theorem dX9_countLate_41 : decode cX9_countLate 41 = .ok (.iload_n 3, 1) := by decide +kernel
theorem dX9_countLate_42 : decode cX9_countLate 42 = .ok (.ireturn, 1) := by decide +kernel
theorem dX9_coinsDue_0 : decode cX9_coinsDue 0 = .ok (.lconst 0, 1) := by decide +kernel
theorem dX9_coinsDue_1 : decode cX9_coinsDue 1 = .ok (.lstore_n 3, 1) := by decide +kernel
theorem dX9_coinsDue_2 : decode cX9_coinsDue 2 = .ok (.iconst 0, 1) := by decide +kernel
theorem dX9_coinsDue_3 : decode cX9_coinsDue 3 = .ok (.istore 5, 2) := by decide +kernel
theorem dX9_coinsDue_5 : decode cX9_coinsDue 5 = .ok (.iload 5, 2) := by decide +kernel
theorem dX9_coinsDue_7 : decode cX9_coinsDue 7 = .ok (.aload_n 0, 1) := by decide +kernel
theorem dX9_coinsDue_8 : decode cX9_coinsDue 8 = .ok (.getfield 24, 3) := by decide +kernel
theorem dX9_coinsDue_11 : decode cX9_coinsDue 11 = .ok (.if_icmp .ge 49, 3) := by decide +kernel
theorem dX9_coinsDue_14 : decode cX9_coinsDue 14 = .ok (.iload 5, 2) := by decide +kernel
theorem dX9_coinsDue_16 : decode cX9_coinsDue 16 = .ok (.bipush 40, 2) := by decide +kernel
theorem dX9_coinsDue_18 : decode cX9_coinsDue 18 = .ok (.if_icmp .ge 42, 3) := by decide +kernel
theorem dX9_coinsDue_21 : decode cX9_coinsDue 21 = .ok (.aload_n 0, 1) := by decide +kernel
theorem dX9_coinsDue_22 : decode cX9_coinsDue 22 = .ok (.getfield 9, 3) := by decide +kernel
theorem dX9_coinsDue_25 : decode cX9_coinsDue 25 = .ok (.iload 5, 2) := by decide +kernel
theorem dX9_coinsDue_27 : decode cX9_coinsDue 27 = .ok (.iaload, 1) := by decide +kernel
theorem dX9_coinsDue_28 : decode cX9_coinsDue 28 = .ok (.iload_n 1, 1) := by decide +kernel
theorem dX9_coinsDue_29 : decode cX9_coinsDue 29 = .ok (.if_icmp .ne 25, 3) := by decide +kernel
theorem dX9_coinsDue_32 : decode cX9_coinsDue 32 = .ok (.aload_n 0, 1) := by decide +kernel
theorem dX9_coinsDue_33 : decode cX9_coinsDue 33 = .ok (.getfield 18, 3) := by decide +kernel
theorem dX9_coinsDue_36 : decode cX9_coinsDue 36 = .ok (.iload 5, 2) := by decide +kernel
theorem dX9_coinsDue_38 : decode cX9_coinsDue 38 = .ok (.iaload, 1) := by decide +kernel
theorem dX9_coinsDue_39 : decode cX9_coinsDue 39 = .ok (.iload_n 2, 1) := by decide +kernel
theorem dX9_coinsDue_40 : decode cX9_coinsDue 40 = .ok (.if_icmp .ne 14, 3) := by decide +kernel
theorem dX9_coinsDue_43 : decode cX9_coinsDue 43 = .ok (.lload_n 3, 1) := by decide +kernel
theorem dX9_coinsDue_44 : decode cX9_coinsDue 44 = .ok (.aload_n 0, 1) := by decide +kernel
theorem dX9_coinsDue_45 : decode cX9_coinsDue 45 = .ok (.getfield 15, 3) := by decide +kernel
theorem dX9_coinsDue_48 : decode cX9_coinsDue 48 = .ok (.iload 5, 2) := by decide +kernel
theorem dX9_coinsDue_50 : decode cX9_coinsDue 50 = .ok (.iaload, 1) := by decide +kernel
theorem dX9_coinsDue_51 : decode cX9_coinsDue 51 = .ok (.i2l, 1) := by decide +kernel
theorem dX9_coinsDue_52 : decode cX9_coinsDue 52 = .ok (.ladd, 1) := by decide +kernel
theorem dX9_coinsDue_53 : decode cX9_coinsDue 53 = .ok (.lstore_n 3, 1) := by decide +kernel
theorem dX9_coinsDue_54 : decode cX9_coinsDue 54 = .ok (.iinc 5 1, 3) := by decide +kernel
theorem dX9_coinsDue_57 : decode cX9_coinsDue 57 = .ok (.goto (-52), 3) := by decide +kernel
theorem dX9_coinsDue_60 : decode cX9_coinsDue 60 = .ok (.lload_n 3, 1) := by decide +kernel
theorem dX9_coinsDue_61 : decode cX9_coinsDue 61 = .ok (.lreturn, 1) := by decide +kernel
theorem dX9_coinsDone_0 : decode cX9_coinsDone 0 = .ok (.lconst 0, 1) := by decide +kernel
theorem dX9_coinsDone_1 : decode cX9_coinsDone 1 = .ok (.lstore_n 3, 1) := by decide +kernel
theorem dX9_coinsDone_2 : decode cX9_coinsDone 2 = .ok (.iconst 0, 1) := by decide +kernel
theorem dX9_coinsDone_3 : decode cX9_coinsDone 3 = .ok (.istore 5, 2) := by decide +kernel
theorem dX9_coinsDone_5 : decode cX9_coinsDone 5 = .ok (.iload 5, 2) := by decide +kernel
theorem dX9_coinsDone_7 : decode cX9_coinsDone 7 = .ok (.aload_n 0, 1) := by decide +kernel
theorem dX9_coinsDone_8 : decode cX9_coinsDone 8 = .ok (.getfield 24, 3) := by decide +kernel
theorem dX9_coinsDone_11 : decode cX9_coinsDone 11 = .ok (.if_icmp .ge 63, 3) := by decide +kernel
theorem dX9_coinsDone_14 : decode cX9_coinsDone 14 = .ok (.iload 5, 2) := by decide +kernel
theorem dX9_coinsDone_16 : decode cX9_coinsDone 16 = .ok (.bipush 40, 2) := by decide +kernel
theorem dX9_coinsDone_18 : decode cX9_coinsDone 18 = .ok (.if_icmp .ge 56, 3) := by decide +kernel
theorem dX9_coinsDone_21 : decode cX9_coinsDone 21 = .ok (.aload_n 0, 1) := by decide +kernel
theorem dX9_coinsDone_22 : decode cX9_coinsDone 22 = .ok (.getfield 9, 3) := by decide +kernel
theorem dX9_coinsDone_25 : decode cX9_coinsDone 25 = .ok (.iload 5, 2) := by decide +kernel
theorem dX9_coinsDone_27 : decode cX9_coinsDone 27 = .ok (.iaload, 1) := by decide +kernel
theorem dX9_coinsDone_28 : decode cX9_coinsDone 28 = .ok (.iload_n 1, 1) := by decide +kernel
theorem dX9_coinsDone_29 : decode cX9_coinsDone 29 = .ok (.if_icmp .ne 39, 3) := by decide +kernel
theorem dX9_coinsDone_32 : decode cX9_coinsDone 32 = .ok (.aload_n 0, 1) := by decide +kernel
theorem dX9_coinsDone_33 : decode cX9_coinsDone 33 = .ok (.getfield 21, 3) := by decide +kernel
theorem dX9_coinsDone_36 : decode cX9_coinsDone 36 = .ok (.iload 5, 2) := by decide +kernel
theorem dX9_coinsDone_38 : decode cX9_coinsDone 38 = .ok (.iaload, 1) := by decide +kernel
theorem dX9_coinsDone_39 : decode cX9_coinsDone 39 = .ok (.iconst (-1), 1) := by decide +kernel
theorem dX9_coinsDone_40 : decode cX9_coinsDone 40 = .ok (.if_icmp .eq 28, 3) := by decide +kernel
theorem dX9_coinsDone_43 : decode cX9_coinsDone 43 = .ok (.aload_n 0, 1) := by decide +kernel
theorem dX9_coinsDone_44 : decode cX9_coinsDone 44 = .ok (.getfield 21, 3) := by decide +kernel
theorem dX9_coinsDone_47 : decode cX9_coinsDone 47 = .ok (.iload 5, 2) := by decide +kernel
theorem dX9_coinsDone_49 : decode cX9_coinsDone 49 = .ok (.iaload, 1) := by decide +kernel
theorem dX9_coinsDone_50 : decode cX9_coinsDone 50 = .ok (.bipush 100, 2) := by decide +kernel
theorem dX9_coinsDone_52 : decode cX9_coinsDone 52 = .ok (.idiv, 1) := by decide +kernel
theorem dX9_coinsDone_53 : decode cX9_coinsDone 53 = .ok (.iload_n 2, 1) := by decide +kernel
theorem dX9_coinsDone_54 : decode cX9_coinsDone 54 = .ok (.if_icmp .ne 14, 3) := by decide +kernel
theorem dX9_coinsDone_57 : decode cX9_coinsDone 57 = .ok (.lload_n 3, 1) := by decide +kernel
theorem dX9_coinsDone_58 : decode cX9_coinsDone 58 = .ok (.aload_n 0, 1) := by decide +kernel
theorem dX9_coinsDone_59 : decode cX9_coinsDone 59 = .ok (.getfield 15, 3) := by decide +kernel
theorem dX9_coinsDone_62 : decode cX9_coinsDone 62 = .ok (.iload 5, 2) := by decide +kernel
theorem dX9_coinsDone_64 : decode cX9_coinsDone 64 = .ok (.iaload, 1) := by decide +kernel
theorem dX9_coinsDone_65 : decode cX9_coinsDone 65 = .ok (.i2l, 1) := by decide +kernel
theorem dX9_coinsDone_66 : decode cX9_coinsDone 66 = .ok (.ladd, 1) := by decide +kernel
theorem dX9_coinsDone_67 : decode cX9_coinsDone 67 = .ok (.lstore_n 3, 1) := by decide +kernel
theorem dX9_coinsDone_68 : decode cX9_coinsDone 68 = .ok (.iinc 5 1, 3) := by decide +kernel
theorem dX9_coinsDone_71 : decode cX9_coinsDone 71 = .ok (.goto (-66), 3) := by decide +kernel
theorem dX9_coinsDone_74 : decode cX9_coinsDone 74 = .ok (.lload_n 3, 1) := by decide +kernel
theorem dX9_coinsDone_75 : decode cX9_coinsDone 75 = .ok (.lreturn, 1) := by decide +kernel
theorem dX9_isThere_0 : decode cX9_isThere 0 = .ok (.iload_n 1, 1) := by decide +kernel
theorem dX9_isThere_1 : decode cX9_isThere 1 = .ok (.ifCond .lt 21, 3) := by decide +kernel
theorem dX9_isThere_4 : decode cX9_isThere 4 = .ok (.iload_n 1, 1) := by decide +kernel
theorem dX9_isThere_5 : decode cX9_isThere 5 = .ok (.aload_n 0, 1) := by decide +kernel
theorem dX9_isThere_6 : decode cX9_isThere 6 = .ok (.getfield 24, 3) := by decide +kernel
theorem dX9_isThere_9 : decode cX9_isThere 9 = .ok (.if_icmp .ge 13, 3) := by decide +kernel
theorem dX9_isThere_12 : decode cX9_isThere 12 = .ok (.iload_n 1, 1) := by decide +kernel
theorem dX9_isThere_13 : decode cX9_isThere 13 = .ok (.bipush 40, 2) := by decide +kernel
theorem dX9_isThere_15 : decode cX9_isThere 15 = .ok (.if_icmp .ge 7, 3) := by decide +kernel
theorem dX9_isThere_18 : decode cX9_isThere 18 = .ok (.iconst 1, 1) := by decide +kernel
theorem dX9_isThere_19 : decode cX9_isThere 19 = .ok (.goto 4, 3) := by decide +kernel
theorem dX9_isThere_22 : decode cX9_isThere 22 = .ok (.iconst 0, 1) := by decide +kernel
theorem dX9_isThere_23 : decode cX9_isThere 23 = .ok (.ireturn, 1) := by decide +kernel
theorem dX10_init_0 : decode cX10_init 0 = .ok (.aload_n 0, 1) := by decide +kernel
theorem dX10_init_1 : decode cX10_init 1 = .ok (.invokespecial 3, 3) := by decide +kernel
theorem dX10_init_4 : decode cX10_init 4 = .ok (.aload_n 0, 1) := by decide +kernel
theorem dX10_init_5 : decode cX10_init 5 = .ok (.new 9, 3) := by decide +kernel
theorem dX10_init_8 : decode cX10_init 8 = .ok (.dup, 1) := by decide +kernel
theorem dX10_init_9 : decode cX10_init 9 = .ok (.invokespecial 11, 3) := by decide +kernel
theorem dX10_init_12 : decode cX10_init 12 = .ok (.putfield 12, 3) := by decide +kernel
theorem dX10_init_15 : decode cX10_init 15 = .ok (.aload_n 0, 1) := by decide +kernel
theorem dX10_init_16 : decode cX10_init 16 = .ok (.new 16, 3) := by decide +kernel
theorem dX10_init_19 : decode cX10_init 19 = .ok (.dup, 1) := by decide +kernel
theorem dX10_init_20 : decode cX10_init 20 = .ok (.aload_n 0, 1) := by decide +kernel
theorem dX10_init_21 : decode cX10_init 21 = .ok (.getfield 12, 3) := by decide +kernel
theorem dX10_init_24 : decode cX10_init 24 = .ok (.invokespecial 18, 3) := by decide +kernel
theorem dX10_init_27 : decode cX10_init 27 = .ok (.putfield 21, 3) := by decide +kernel
theorem dX10_init_30 : decode cX10_init 30 = .ok (.aload_n 0, 1) := by decide +kernel
theorem dX10_init_31 : decode cX10_init 31 = .ok (.new 25, 3) := by decide +kernel
theorem dX10_init_34 : decode cX10_init 34 = .ok (.dup, 1) := by decide +kernel
theorem dX10_init_35 : decode cX10_init 35 = .ok (.aload_n 0, 1) := by decide +kernel
theorem dX10_init_36 : decode cX10_init 36 = .ok (.getfield 12, 3) := by decide +kernel
theorem dX10_init_39 : decode cX10_init 39 = .ok (.invokespecial 27, 3) := by decide +kernel
theorem dX10_init_42 : decode cX10_init 42 = .ok (.putfield 28, 3) := by decide +kernel
theorem dX10_init_45 : decode cX10_init 45 = .ok (.aload_n 0, 1) := by decide +kernel
theorem dX10_init_46 : decode cX10_init 46 = .ok (.new 32, 3) := by decide +kernel
theorem dX10_init_49 : decode cX10_init 49 = .ok (.dup, 1) := by decide +kernel
theorem dX10_init_50 : decode cX10_init 50 = .ok (.invokespecial 34, 3) := by decide +kernel
theorem dX10_init_53 : decode cX10_init 53 = .ok (.putfield 35, 3) := by decide +kernel
theorem dX10_init_56 : decode cX10_init 56 = .ok (.aload_n 0, 1) := by decide +kernel
theorem dX10_init_57 : decode cX10_init 57 = .ok (.sipush 900, 3) := by decide +kernel
theorem dX10_init_60 : decode cX10_init 60 = .ok (.newarray .int, 2) := by decide +kernel
theorem dX10_init_62 : decode cX10_init 62 = .ok (.putfield 39, 3) := by decide +kernel
theorem dX10_init_65 : decode cX10_init 65 = .ok (.aload_n 0, 1) := by decide +kernel
theorem dX10_init_66 : decode cX10_init 66 = .ok (.bipush 8, 2) := by decide +kernel
theorem dX10_init_68 : decode cX10_init 68 = .ok (.anewarray 43, 3) := by decide +kernel
theorem dX10_init_71 : decode cX10_init 71 = .ok (.putfield 45, 3) := by decide +kernel
theorem dX10_init_74 : decode cX10_init 74 = .ok (.aload_n 0, 1) := by decide +kernel
theorem dX10_init_75 : decode cX10_init 75 = .ok (.iconst 4, 1) := by decide +kernel
theorem dX10_init_76 : decode cX10_init 76 = .ok (.anewarray 43, 3) := by decide +kernel
theorem dX10_init_79 : decode cX10_init 79 = .ok (.putfield 49, 3) := by decide +kernel
theorem dX10_init_82 : decode cX10_init 82 = .ok (.aload_n 0, 1) := by decide +kernel
theorem dX10_init_83 : decode cX10_init 83 = .ok (.bipush 15, 2) := by decide +kernel
theorem dX10_init_85 : decode cX10_init 85 = .ok (.newarray .int, 2) := by decide +kernel
theorem dX10_init_87 : decode cX10_init 87 = .ok (.putfield 52, 3) := by decide +kernel
theorem dX10_init_90 : decode cX10_init 90 = .ok (.return_, 1) := by decide +kernel
theorem dX10_day_0 : decode cX10_day 0 = .ok (.iload_n 1, 1) := by decide +kernel
theorem dX10_day_1 : decode cX10_day 1 = .ok (.aload_n 0, 1) := by decide +kernel
theorem dX10_day_2 : decode cX10_day 2 = .ok (.getfield 12, 3) := by decide +kernel
theorem dX10_day_5 : decode cX10_day 5 = .ok (.getfield 55, 3) := by decide +kernel
theorem dX10_day_8 : decode cX10_day 8 = .ok (.if_icmp .le 10, 3) := by decide +kernel
theorem dX10_day_11 : decode cX10_day 11 = .ok (.iload_n 1, 1) := by decide +kernel
theorem dX10_day_12 : decode cX10_day 12 = .ok (.sipush 1500, 3) := by decide +kernel
theorem dX10_day_15 : decode cX10_day 15 = .ok (.if_icmp .lt 5, 3) := by decide +kernel
theorem dX10_day_18 : decode cX10_day 18 = .ok (.iconst 0, 1) := by decide +kernel
theorem dX10_day_19 : decode cX10_day 19 = .ok (.ireturn, 1) := by decide +kernel
theorem dX10_day_20 : decode cX10_day 20 = .ok (.aload_n 0, 1) := by decide +kernel
theorem dX10_day_21 : decode cX10_day 21 = .ok (.getfield 12, 3) := by decide +kernel
theorem dX10_day_24 : decode cX10_day 24 = .ok (.iload_n 1, 1) := by decide +kernel
theorem dX10_day_25 : decode cX10_day 25 = .ok (.putfield 55, 3) := by decide +kernel
theorem dX10_day_28 : decode cX10_day 28 = .ok (.iconst 1, 1) := by decide +kernel
theorem dX10_day_29 : decode cX10_day 29 = .ok (.ireturn, 1) := by decide +kernel
theorem dX10_firm_0 : decode cX10_firm 0 = .ok (.iload_n 1, 1) := by decide +kernel
theorem dX10_firm_1 : decode cX10_firm 1 = .ok (.iconst 0, 1) := by decide +kernel
theorem dX10_firm_2 : decode cX10_firm 2 = .ok (.ldc 59, 2) := by decide +kernel
theorem dX10_firm_4 : decode cX10_firm 4 = .ok (.invokestatic 60, 3) := by decide +kernel
theorem dX10_firm_7 : decode cX10_firm 7 = .ok (.ifCond .eq 14, 3) := by decide +kernel
theorem dX10_firm_10 : decode cX10_firm 10 = .ok (.aload_n 0, 1) := by decide +kernel
theorem dX10_firm_11 : decode cX10_firm 11 = .ok (.getfield 12, 3) := by decide +kernel
theorem dX10_firm_14 : decode cX10_firm 14 = .ok (.iload_n 1, 1) := by decide +kernel
theorem dX10_firm_15 : decode cX10_firm 15 = .ok (.invokevirtual 64, 3) := by decide +kernel
theorem dX10_firm_18 : decode cX10_firm 18 = .ok (.goto 4, 3) := by decide +kernel
theorem dX10_firm_21 : decode cX10_firm 21 = .ok (.iconst (-1), 1) := by decide +kernel
theorem dX10_firm_22 : decode cX10_firm 22 = .ok (.ireturn, 1) := by decide +kernel
theorem dX10_fact_0 : decode cX10_fact 0 = .ok (.aload_n 0, 1) := by decide +kernel
theorem dX10_fact_1 : decode cX10_fact 1 = .ok (.iload_n 1, 1) := by decide +kernel
theorem dX10_fact_2 : decode cX10_fact 2 = .ok (.iload_n 2, 1) := by decide +kernel
theorem dX10_fact_3 : decode cX10_fact 3 = .ok (.invokevirtual 68, 3) := by decide +kernel
theorem dX10_fact_6 : decode cX10_fact 6 = .ok (.ifCond .eq 26, 3) := by decide +kernel
theorem dX10_fact_9 : decode cX10_fact 9 = .ok (.iload_n 3, 1) := by decide +kernel
theorem dX10_fact_10 : decode cX10_fact 10 = .ok (.iconst 0, 1) := by decide +kernel
theorem dX10_fact_11 : decode cX10_fact 11 = .ok (.bipush 16, 2) := by decide +kernel
theorem dX10_fact_13 : decode cX10_fact 13 = .ok (.invokestatic 60, 3) := by decide +kernel
theorem dX10_fact_16 : decode cX10_fact 16 = .ok (.ifCond .eq 16, 3) := by decide +kernel
theorem dX10_fact_19 : decode cX10_fact 19 = .ok (.iload 4, 2) := by decide +kernel
theorem dX10_fact_21 : decode cX10_fact 21 = .ok (.iconst 0, 1) := by decide +kernel
theorem dX10_fact_22 : decode cX10_fact 22 = .ok (.iload_n 3, 1) := by decide +kernel
theorem dX10_fact_23 : decode cX10_fact 23 = .ok (.invokestatic 72, 3) := by decide +kernel
theorem dX10_fact_26 : decode cX10_fact 26 = .ok (.invokestatic 60, 3) := by decide +kernel
theorem dX10_fact_29 : decode cX10_fact 29 = .ok (.ifCond .ne 5, 3) := by decide +kernel
theorem dX10_fact_32 : decode cX10_fact 32 = .ok (.iconst (-1), 1) := by decide +kernel
theorem dX10_fact_33 : decode cX10_fact 33 = .ok (.ireturn, 1) := by decide +kernel
theorem dX10_fact_34 : decode cX10_fact 34 = .ok (.aload_n 0, 1) := by decide +kernel
theorem dX10_fact_35 : decode cX10_fact 35 = .ok (.getfield 12, 3) := by decide +kernel
theorem dX10_fact_38 : decode cX10_fact 38 = .ok (.getfield 75, 3) := by decide +kernel
theorem dX10_fact_41 : decode cX10_fact 41 = .ok (.iload_n 1, 1) := by decide +kernel
theorem dX10_fact_42 : decode cX10_fact 42 = .ok (.iload_n 2, 1) := by decide +kernel
theorem dX10_fact_43 : decode cX10_fact 43 = .ok (.iload_n 3, 1) := by decide +kernel
theorem dX10_fact_44 : decode cX10_fact 44 = .ok (.iload 4, 2) := by decide +kernel
theorem dX10_fact_46 : decode cX10_fact 46 = .ok (.aload_n 0, 1) := by decide +kernel
theorem dX10_fact_47 : decode cX10_fact 47 = .ok (.getfield 12, 3) := by decide +kernel
theorem dX10_fact_50 : decode cX10_fact 50 = .ok (.getfield 55, 3) := by decide +kernel
theorem dX10_fact_53 : decode cX10_fact 53 = .ok (.invokevirtual 79, 3) := by decide +kernel
theorem dX10_fact_56 : decode cX10_fact 56 = .ok (.ireturn, 1) := by decide +kernel
theorem dX10_work_0 : decode cX10_work 0 = .ok (.aload_n 0, 1) := by decide +kernel
theorem dX10_work_1 : decode cX10_work 1 = .ok (.iload_n 1, 1) := by decide +kernel
theorem dX10_work_2 : decode cX10_work 2 = .ok (.iload_n 3, 1) := by decide +kernel
theorem dX10_work_3 : decode cX10_work 3 = .ok (.invokevirtual 68, 3) := by decide +kernel
theorem dX10_work_6 : decode cX10_work 6 = .ok (.ifCond .eq 13, 3) := by decide +kernel
theorem dX10_work_9 : decode cX10_work 9 = .ok (.iload_n 2, 1) := by decide +kernel
theorem dX10_work_10 : decode cX10_work 10 = .ok (.iconst 1, 1) := by decide +kernel
theorem dX10_work_11 : decode cX10_work 11 = .ok (.ldc 93, 2) := by decide +kernel
theorem dX10_work_13 : decode cX10_work 13 = .ok (.invokestatic 60, 3) := by decide +kernel
theorem dX10_work_16 : decode cX10_work 16 = .ok (.ifCond .ne 5, 3) := by decide +kernel
theorem dX10_work_19 : decode cX10_work 19 = .ok (.iconst (-1), 1) := by decide +kernel
theorem dX10_work_20 : decode cX10_work 20 = .ok (.ireturn, 1) := by decide +kernel
theorem dX10_work_21 : decode cX10_work 21 = .ok (.aload_n 0, 1) := by decide +kernel
theorem dX10_work_22 : decode cX10_work 22 = .ok (.getfield 12, 3) := by decide +kernel
theorem dX10_work_25 : decode cX10_work 25 = .ok (.getfield 94, 3) := by decide +kernel
theorem dX10_work_28 : decode cX10_work 28 = .ok (.iload_n 1, 1) := by decide +kernel
theorem dX10_work_29 : decode cX10_work 29 = .ok (.iload_n 2, 1) := by decide +kernel
theorem dX10_work_30 : decode cX10_work 30 = .ok (.iload_n 3, 1) := by decide +kernel
theorem dX10_work_31 : decode cX10_work 31 = .ok (.invokevirtual 98, 3) := by decide +kernel
theorem dX10_work_34 : decode cX10_work 34 = .ok (.ireturn, 1) := by decide +kernel
theorem dX10_done_0 : decode cX10_done 0 = .ok (.aload_n 0, 1) := by decide +kernel
theorem dX10_done_1 : decode cX10_done 1 = .ok (.getfield 12, 3) := by decide +kernel
theorem dX10_done_4 : decode cX10_done 4 = .ok (.getfield 94, 3) := by decide +kernel
theorem dX10_done_7 : decode cX10_done 7 = .ok (.iload_n 1, 1) := by decide +kernel
theorem dX10_done_8 : decode cX10_done 8 = .ok (.aload_n 0, 1) := by decide +kernel
theorem dX10_done_9 : decode cX10_done 9 = .ok (.getfield 12, 3) := by decide +kernel
theorem dX10_done_12 : decode cX10_done 12 = .ok (.getfield 55, 3) := by decide +kernel
theorem dX10_done_15 : decode cX10_done 15 = .ok (.invokevirtual 103, 3) := by decide +kernel
theorem dX10_done_18 : decode cX10_done 18 = .ok (.ireturn, 1) := by decide +kernel
theorem dX10_log_0 : decode cX10_log 0 = .ok (.aload_n 0, 1) := by decide +kernel
theorem dX10_log_1 : decode cX10_log 1 = .ok (.iload_n 1, 1) := by decide +kernel
theorem dX10_log_2 : decode cX10_log 2 = .ok (.iload_n 2, 1) := by decide +kernel
theorem dX10_log_3 : decode cX10_log 3 = .ok (.invokevirtual 68, 3) := by decide +kernel
theorem dX10_log_6 : decode cX10_log 6 = .ok (.ifCond .eq 27, 3) := by decide +kernel
theorem dX10_log_9 : decode cX10_log 9 = .ok (.iload_n 2, 1) := by decide +kernel
theorem dX10_log_10 : decode cX10_log 10 = .ok (.aload_n 0, 1) := by decide +kernel
theorem dX10_log_11 : decode cX10_log 11 = .ok (.getfield 12, 3) := by decide +kernel
theorem dX10_log_14 : decode cX10_log 14 = .ok (.getfield 55, 3) := by decide +kernel
theorem dX10_log_17 : decode cX10_log 17 = .ok (.bipush 100, 2) := by decide +kernel
theorem dX10_log_19 : decode cX10_log 19 = .ok (.idiv, 1) := by decide +kernel
theorem dX10_log_20 : decode cX10_log 20 = .ok (.if_icmp .le 13, 3) := by decide +kernel
theorem dX10_log_23 : decode cX10_log 23 = .ok (.iload_n 3, 1) := by decide +kernel
theorem dX10_log_24 : decode cX10_log 24 = .ok (.iconst 1, 1) := by decide +kernel
theorem dX10_log_25 : decode cX10_log 25 = .ok (.ldc 93, 2) := by decide +kernel
theorem dX10_log_27 : decode cX10_log 27 = .ok (.invokestatic 60, 3) := by decide +kernel
theorem dX10_log_30 : decode cX10_log 30 = .ok (.ifCond .ne 5, 3) := by decide +kernel
theorem dX10_log_33 : decode cX10_log 33 = .ok (.iconst (-1), 1) := by decide +kernel
theorem dX10_log_34 : decode cX10_log 34 = .ok (.ireturn, 1) := by decide +kernel
theorem dX10_log_35 : decode cX10_log 35 = .ok (.aload_n 0, 1) := by decide +kernel
theorem dX10_log_36 : decode cX10_log 36 = .ok (.getfield 12, 3) := by decide +kernel
theorem dX10_log_39 : decode cX10_log 39 = .ok (.getfield 116, 3) := by decide +kernel
theorem dX10_log_42 : decode cX10_log 42 = .ok (.iload_n 1, 1) := by decide +kernel
theorem dX10_log_43 : decode cX10_log 43 = .ok (.iconst 0, 1) := by decide +kernel
theorem dX10_log_44 : decode cX10_log 44 = .ok (.iload_n 2, 1) := by decide +kernel
theorem dX10_log_45 : decode cX10_log 45 = .ok (.iload_n 3, 1) := by decide +kernel
theorem dX10_log_46 : decode cX10_log 46 = .ok (.aload_n 0, 1) := by decide +kernel
theorem dX10_log_47 : decode cX10_log 47 = .ok (.getfield 12, 3) := by decide +kernel
theorem dX10_log_50 : decode cX10_log 50 = .ok (.getfield 55, 3) := by decide +kernel
theorem dX10_log_53 : decode cX10_log 53 = .ok (.invokevirtual 113, 3) := by decide +kernel
theorem dX10_log_56 : decode cX10_log 56 = .ok (.ireturn, 1) := by decide +kernel
theorem dX10_feed_0 : decode cX10_feed 0 = .ok (.aload_n 0, 1) := by decide +kernel
theorem dX10_feed_1 : decode cX10_feed 1 = .ok (.getfield 119, 3) := by decide +kernel
theorem dX10_feed_4 : decode cX10_feed 4 = .ok (.bipush 20, 2) := by decide +kernel
theorem dX10_feed_6 : decode cX10_feed 6 = .ok (.iadd, 1) := by decide +kernel
theorem dX10_feed_7 : decode cX10_feed 7 = .ok (.sipush 900, 3) := by decide +kernel
theorem dX10_feed_10 : decode cX10_feed 10 = .ok (.if_icmp .le 5, 3) := by decide +kernel
theorem dX10_feed_13 : decode cX10_feed 13 = .ok (.iconst (-1), 1) := by decide +kernel
theorem dX10_feed_14 : decode cX10_feed 14 = .ok (.ireturn, 1) := by decide +kernel
theorem dX10_feed_15 : decode cX10_feed 15 = .ok (.aload_n 0, 1) := by decide +kernel
theorem dX10_feed_16 : decode cX10_feed 16 = .ok (.iload_n 1, 1) := by decide +kernel
theorem dX10_feed_17 : decode cX10_feed 17 = .ok (.invokevirtual 122, 3) := by decide +kernel
theorem dX10_feed_20 : decode cX10_feed 20 = .ok (.aload_n 0, 1) := by decide +kernel
theorem dX10_feed_21 : decode cX10_feed 21 = .ok (.iload_n 2, 1) := by decide +kernel
theorem dX10_feed_22 : decode cX10_feed 22 = .ok (.invokevirtual 122, 3) := by decide +kernel
theorem dX10_feed_25 : decode cX10_feed 25 = .ok (.aload_n 0, 1) := by decide +kernel
theorem dX10_feed_26 : decode cX10_feed 26 = .ok (.iload_n 3, 1) := by decide +kernel
theorem dX10_feed_27 : decode cX10_feed 27 = .ok (.invokevirtual 122, 3) := by decide +kernel
theorem dX10_feed_30 : decode cX10_feed 30 = .ok (.aload_n 0, 1) := by decide +kernel
theorem dX10_feed_31 : decode cX10_feed 31 = .ok (.iload 4, 2) := by decide +kernel
theorem dX10_feed_33 : decode cX10_feed 33 = .ok (.invokevirtual 122, 3) := by decide +kernel
theorem dX10_feed_36 : decode cX10_feed 36 = .ok (.aload_n 0, 1) := by decide +kernel
theorem dX10_feed_37 : decode cX10_feed 37 = .ok (.iload 5, 2) := by decide +kernel
theorem dX10_feed_39 : decode cX10_feed 39 = .ok (.invokevirtual 122, 3) := by decide +kernel
theorem dX10_feed_42 : decode cX10_feed 42 = .ok (.aload_n 0, 1) := by decide +kernel
theorem dX10_feed_43 : decode cX10_feed 43 = .ok (.getfield 119, 3) := by decide +kernel
theorem dX10_feed_46 : decode cX10_feed 46 = .ok (.ireturn, 1) := by decide +kernel
theorem dX10_rules_0 : decode cX10_rules 0 = .ok (.iload_n 1, 1) := by decide +kernel
theorem dX10_rules_1 : decode cX10_rules 1 = .ok (.ifCond .lt 18, 3) := by decide +kernel
theorem dX10_rules_4 : decode cX10_rules 4 = .ok (.iload_n 1, 1) := by decide +kernel
theorem dX10_rules_5 : decode cX10_rules 5 = .ok (.aload_n 0, 1) := by decide +kernel
theorem dX10_rules_6 : decode cX10_rules 6 = .ok (.getfield 119, 3) := by decide +kernel
theorem dX10_rules_9 : decode cX10_rules 9 = .ok (.if_icmp .gt 10, 3) := by decide +kernel
theorem dX10_rules_12 : decode cX10_rules 12 = .ok (.iload_n 2, 1) := by decide +kernel
theorem dX10_rules_13 : decode cX10_rules 13 = .ok (.invokestatic 126, 3) := by decide +kernel
theorem dX10_rules_16 : decode cX10_rules 16 = .ok (.ifCond .ne 6, 3) := by decide +kernel
theorem dX10_rules_19 : decode cX10_rules 19 = .ok (.bipush (-2), 2) := by decide +kernel
theorem dX10_rules_21 : decode cX10_rules 21 = .ok (.ireturn, 1) := by decide +kernel
theorem dX10_rules_22 : decode cX10_rules 22 = .ok (.aload_n 0, 1) := by decide +kernel
theorem dX10_rules_23 : decode cX10_rules 23 = .ok (.getfield 129, 3) := by decide +kernel
theorem dX10_rules_26 : decode cX10_rules 26 = .ok (.bipush 8, 2) := by decide +kernel
theorem dX10_rules_28 : decode cX10_rules 28 = .ok (.if_icmp .lt 6, 3) := by decide +kernel
theorem dX10_rules_31 : decode cX10_rules 31 = .ok (.bipush (-3), 2) := by decide +kernel
theorem dX10_rules_33 : decode cX10_rules 33 = .ok (.ireturn, 1) := by decide +kernel
theorem dX10_rules_34 : decode cX10_rules 34 = .ok (.aload_n 0, 1) := by decide +kernel
theorem dX10_rules_35 : decode cX10_rules 35 = .ok (.getfield 35, 3) := by decide +kernel
theorem dX10_rules_38 : decode cX10_rules 38 = .ok (.aload_n 0, 1) := by decide +kernel
theorem dX10_rules_39 : decode cX10_rules 39 = .ok (.getfield 39, 3) := by decide +kernel
theorem dX10_rules_42 : decode cX10_rules 42 = .ok (.iload_n 1, 1) := by decide +kernel
theorem dX10_rules_43 : decode cX10_rules 43 = .ok (.aload_n 0, 1) := by decide +kernel
theorem dX10_rules_44 : decode cX10_rules 44 = .ok (.aload_n 0, 1) := by decide +kernel
theorem dX10_rules_45 : decode cX10_rules 45 = .ok (.iload_n 2, 1) := by decide +kernel
theorem dX10_rules_46 : decode cX10_rules 46 = .ok (.aload_n 0, 1) := by decide +kernel
theorem dX10_rules_47 : decode cX10_rules 47 = .ok (.getfield 12, 3) := by decide +kernel
theorem dX10_rules_50 : decode cX10_rules 50 = .ok (.getfield 55, 3) := by decide +kernel
theorem dX10_rules_53 : decode cX10_rules 53 = .ok (.invokevirtual 132, 3) := by decide +kernel
theorem dX10_rules_56 : decode cX10_rules 56 = .ok (.invokevirtual 136, 3) := by decide +kernel
theorem dX10_rules_59 : decode cX10_rules 59 = .ok (.invokevirtual 140, 3) := by decide +kernel
theorem dX10_rules_62 : decode cX10_rules 62 = .ok (.astore_n 3, 1) := by decide +kernel
theorem dX10_rules_63 : decode cX10_rules 63 = .ok (.aload_n 0, 1) := by decide +kernel
theorem dX10_rules_64 : decode cX10_rules 64 = .ok (.iconst 0, 1) := by decide +kernel
theorem dX10_rules_65 : decode cX10_rules 65 = .ok (.putfield 119, 3) := by decide +kernel
theorem dX10_rules_68 : decode cX10_rules 68 = .ok (.aload_n 3, 1) := by decide +kernel
theorem dX10_rules_69 : decode cX10_rules 69 = .ok (.ifnonnull 5, 3) := by decide +kernel
theorem dX10_rules_72 : decode cX10_rules 72 = .ok (.iconst (-1), 1) := by decide +kernel
theorem dX10_rules_73 : decode cX10_rules 73 = .ok (.ireturn, 1) := by decide +kernel
theorem dX10_rules_74 : decode cX10_rules 74 = .ok (.aload_n 3, 1) := by decide +kernel
theorem dX10_rules_75 : decode cX10_rules 75 = .ok (.iload_n 2, 1) := by decide +kernel
theorem dX10_rules_76 : decode cX10_rules 76 = .ok (.putfield 144, 3) := by decide +kernel
theorem dX10_rules_79 : decode cX10_rules 79 = .ok (.aload_n 3, 1) := by decide +kernel
theorem dX10_rules_80 : decode cX10_rules 80 = .ok (.aload_n 0, 1) := by decide +kernel
theorem dX10_rules_81 : decode cX10_rules 81 = .ok (.getfield 12, 3) := by decide +kernel
theorem dX10_rules_84 : decode cX10_rules 84 = .ok (.getfield 55, 3) := by decide +kernel
theorem dX10_rules_87 : decode cX10_rules 87 = .ok (.putfield 147, 3) := by decide +kernel
theorem dX10_rules_90 : decode cX10_rules 90 = .ok (.aload_n 0, 1) := by decide +kernel
theorem dX10_rules_91 : decode cX10_rules 91 = .ok (.getfield 45, 3) := by decide +kernel
theorem dX10_rules_94 : decode cX10_rules 94 = .ok (.aload_n 0, 1) := by decide +kernel
theorem dX10_rules_95 : decode cX10_rules 95 = .ok (.getfield 129, 3) := by decide +kernel
theorem dX10_rules_98 : decode cX10_rules 98 = .ok (.aload_n 3, 1) := by decide +kernel
theorem dX10_rules_99 : decode cX10_rules 99 = .ok (.aastore, 1) := by decide +kernel
theorem dX10_rules_100 : decode cX10_rules 100 = .ok (.aload_n 0, 1) := by decide +kernel
theorem dX10_rules_101 : decode cX10_rules 101 = .ok (.dup, 1) := by decide +kernel
theorem dX10_rules_102 : decode cX10_rules 102 = .ok (.getfield 129, 3) := by decide +kernel
theorem dX10_rules_105 : decode cX10_rules 105 = .ok (.iconst 1, 1) := by decide +kernel
theorem dX10_rules_106 : decode cX10_rules 106 = .ok (.iadd, 1) := by decide +kernel
theorem dX10_rules_107 : decode cX10_rules 107 = .ok (.putfield 129, 3) := by decide +kernel
theorem dX10_rules_110 : decode cX10_rules 110 = .ok (.aload_n 0, 1) := by decide +kernel
theorem dX10_rules_111 : decode cX10_rules 111 = .ok (.getfield 129, 3) := by decide +kernel
theorem dX10_rules_114 : decode cX10_rules 114 = .ok (.iconst 1, 1) := by decide +kernel
theorem dX10_rules_115 : decode cX10_rules 115 = .ok (.isub, 1) := by decide +kernel
theorem dX10_rules_116 : decode cX10_rules 116 = .ok (.ireturn, 1) := by decide +kernel
theorem dX10_worth_0 : decode cX10_worth 0 = .ok (.aload_n 0, 1) := by decide +kernel
theorem dX10_worth_1 : decode cX10_worth 1 = .ok (.iload_n 1, 1) := by decide +kernel
theorem dX10_worth_2 : decode cX10_worth 2 = .ok (.iload_n 2, 1) := by decide +kernel
theorem dX10_worth_3 : decode cX10_worth 3 = .ok (.invokevirtual 68, 3) := by decide +kernel
theorem dX10_worth_6 : decode cX10_worth 6 = .ok (.ifCond .ne 7, 3) := by decide +kernel
theorem dX10_worth_9 : decode cX10_worth 9 = .ok (.ldc2_w 205, 3) := by decide +kernel
theorem dX10_worth_12 : decode cX10_worth 12 = .ok (.lreturn, 1) := by decide +kernel
theorem dX10_worth_13 : decode cX10_worth 13 = .ok (.aload_n 0, 1) := by decide +kernel
theorem dX10_worth_14 : decode cX10_worth 14 = .ok (.iload_n 1, 1) := by decide +kernel
theorem dX10_worth_15 : decode cX10_worth 15 = .ok (.iload_n 2, 1) := by decide +kernel
theorem dX10_worth_16 : decode cX10_worth 16 = .ok (.aload_n 0, 1) := by decide +kernel
theorem dX10_worth_17 : decode cX10_worth 17 = .ok (.getfield 12, 3) := by decide +kernel
theorem dX10_worth_20 : decode cX10_worth 20 = .ok (.getfield 55, 3) := by decide +kernel
theorem dX10_worth_23 : decode cX10_worth 23 = .ok (.invokevirtual 170, 3) := by decide +kernel
theorem dX10_worth_26 : decode cX10_worth 26 = .ok (.aload_n 0, 1) := by decide +kernel
theorem dX10_worth_27 : decode cX10_worth 27 = .ok (.getfield 21, 3) := by decide +kernel
theorem dX10_worth_30 : decode cX10_worth 30 = .ok (.iload_n 2, 1) := by decide +kernel
theorem dX10_worth_31 : decode cX10_worth 31 = .ok (.invokevirtual 207, 3) := by decide +kernel
theorem dX10_worth_34 : decode cX10_worth 34 = .ok (.lreturn, 1) := by decide +kernel
theorem dX10_line_0 : decode cX10_line 0 = .ok (.aload_n 0, 1) := by decide +kernel
theorem dX10_line_1 : decode cX10_line 1 = .ok (.iload_n 1, 1) := by decide +kernel
theorem dX10_line_2 : decode cX10_line 2 = .ok (.iload_n 2, 1) := by decide +kernel
theorem dX10_line_3 : decode cX10_line 3 = .ok (.invokevirtual 68, 3) := by decide +kernel
theorem dX10_line_6 : decode cX10_line 6 = .ok (.ifCond .eq 21, 3) := by decide +kernel
theorem dX10_line_9 : decode cX10_line 9 = .ok (.iload_n 3, 1) := by decide +kernel
theorem dX10_line_10 : decode cX10_line 10 = .ok (.invokestatic 85, 3) := by decide +kernel
theorem dX10_line_13 : decode cX10_line 13 = .ok (.ifCond .eq 14, 3) := by decide +kernel
theorem dX10_line_16 : decode cX10_line 16 = .ok (.iload 4, 2) := by decide +kernel
theorem dX10_line_18 : decode cX10_line 18 = .ok (.iconst 0, 1) := by decide +kernel
theorem dX10_line_19 : decode cX10_line 19 = .ok (.bipush 14, 2) := by decide +kernel
theorem dX10_line_21 : decode cX10_line 21 = .ok (.invokestatic 60, 3) := by decide +kernel
theorem dX10_line_24 : decode cX10_line 24 = .ok (.ifCond .ne 7, 3) := by decide +kernel
theorem dX10_line_27 : decode cX10_line 27 = .ok (.ldc2_w 205, 3) := by decide +kernel
theorem dX10_line_30 : decode cX10_line 30 = .ok (.lreturn, 1) := by decide +kernel
theorem dX10_line_31 : decode cX10_line 31 = .ok (.aload_n 0, 1) := by decide +kernel
theorem dX10_line_32 : decode cX10_line 32 = .ok (.iload_n 1, 1) := by decide +kernel
theorem dX10_line_33 : decode cX10_line 33 = .ok (.iload_n 2, 1) := by decide +kernel
theorem dX10_line_34 : decode cX10_line 34 = .ok (.iload_n 3, 1) := by decide +kernel
theorem dX10_line_35 : decode cX10_line 35 = .ok (.invokevirtual 170, 3) := by decide +kernel
theorem dX10_line_38 : decode cX10_line 38 = .ok (.aload_n 0, 1) := by decide +kernel
theorem dX10_line_39 : decode cX10_line 39 = .ok (.getfield 21, 3) := by decide +kernel
theorem dX10_line_42 : decode cX10_line 42 = .ok (.iload_n 2, 1) := by decide +kernel
theorem dX10_line_43 : decode cX10_line 43 = .ok (.iload_n 2, 1) := by decide +kernel
theorem dX10_line_44 : decode cX10_line 44 = .ok (.invokevirtual 211, 3) := by decide +kernel
theorem dX10_line_47 : decode cX10_line 47 = .ok (.aload_n 0, 1) := by decide +kernel
theorem dX10_line_48 : decode cX10_line 48 = .ok (.getfield 21, 3) := by decide +kernel
theorem dX10_line_51 : decode cX10_line 51 = .ok (.iload_n 2, 1) := by decide +kernel
theorem dX10_line_52 : decode cX10_line 52 = .ok (.iload 4, 2) := by decide +kernel
theorem dX10_line_54 : decode cX10_line 54 = .ok (.invokevirtual 215, 3) := by decide +kernel
theorem dX10_line_57 : decode cX10_line 57 = .ok (.lreturn, 1) := by decide +kernel
theorem dX10_revenue_0 : decode cX10_revenue 0 = .ok (.aload_n 0, 1) := by decide +kernel
theorem dX10_revenue_1 : decode cX10_revenue 1 = .ok (.iload_n 1, 1) := by decide +kernel
theorem dX10_revenue_2 : decode cX10_revenue 2 = .ok (.iload_n 2, 1) := by decide +kernel
theorem dX10_revenue_3 : decode cX10_revenue 3 = .ok (.invokevirtual 68, 3) := by decide +kernel
theorem dX10_revenue_6 : decode cX10_revenue 6 = .ok (.ifCond .eq 10, 3) := by decide +kernel
theorem dX10_revenue_9 : decode cX10_revenue 9 = .ok (.iload_n 3, 1) := by decide +kernel
theorem dX10_revenue_10 : decode cX10_revenue 10 = .ok (.invokestatic 85, 3) := by decide +kernel
theorem dX10_revenue_13 : decode cX10_revenue 13 = .ok (.ifCond .ne 7, 3) := by decide +kernel
theorem dX10_revenue_16 : decode cX10_revenue 16 = .ok (.ldc2_w 205, 3) := by decide +kernel
theorem dX10_revenue_19 : decode cX10_revenue 19 = .ok (.lreturn, 1) := by decide +kernel
theorem dX10_revenue_20 : decode cX10_revenue 20 = .ok (.aload_n 0, 1) := by decide +kernel
theorem dX10_revenue_21 : decode cX10_revenue 21 = .ok (.iload_n 1, 1) := by decide +kernel
theorem dX10_revenue_22 : decode cX10_revenue 22 = .ok (.iload_n 2, 1) := by decide +kernel
theorem dX10_revenue_23 : decode cX10_revenue 23 = .ok (.iload_n 3, 1) := by decide +kernel
theorem dX10_revenue_24 : decode cX10_revenue 24 = .ok (.invokevirtual 170, 3) := by decide +kernel
theorem dX10_revenue_27 : decode cX10_revenue 27 = .ok (.aload_n 0, 1) := by decide +kernel
theorem dX10_revenue_28 : decode cX10_revenue 28 = .ok (.getfield 21, 3) := by decide +kernel
theorem dX10_revenue_31 : decode cX10_revenue 31 = .ok (.iload_n 2, 1) := by decide +kernel
theorem dX10_revenue_32 : decode cX10_revenue 32 = .ok (.iload_n 2, 1) := by decide +kernel
theorem dX10_revenue_33 : decode cX10_revenue 33 = .ok (.invokevirtual 211, 3) := by decide +kernel
theorem dX10_revenue_36 : decode cX10_revenue 36 = .ok (.aload_n 0, 1) := by decide +kernel
theorem dX10_revenue_37 : decode cX10_revenue 37 = .ok (.getfield 21, 3) := by decide +kernel
theorem dX10_revenue_40 : decode cX10_revenue 40 = .ok (.iload_n 2, 1) := by decide +kernel
theorem dX10_revenue_41 : decode cX10_revenue 41 = .ok (.invokevirtual 218, 3) := by decide +kernel
theorem dX10_revenue_44 : decode cX10_revenue 44 = .ok (.lreturn, 1) := by decide +kernel
theorem dX10_bills_0 : decode cX10_bills 0 = .ok (.aload_n 0, 1) := by decide +kernel
theorem dX10_bills_1 : decode cX10_bills 1 = .ok (.iload_n 1, 1) := by decide +kernel
theorem dX10_bills_2 : decode cX10_bills 2 = .ok (.iload_n 2, 1) := by decide +kernel
theorem dX10_bills_3 : decode cX10_bills 3 = .ok (.invokevirtual 68, 3) := by decide +kernel
theorem dX10_bills_6 : decode cX10_bills 6 = .ok (.ifCond .eq 20, 3) := by decide +kernel
theorem dX10_bills_9 : decode cX10_bills 9 = .ok (.iload_n 3, 1) := by decide +kernel
theorem dX10_bills_10 : decode cX10_bills 10 = .ok (.invokestatic 85, 3) := by decide +kernel
theorem dX10_bills_13 : decode cX10_bills 13 = .ok (.ifCond .eq 13, 3) := by decide +kernel
theorem dX10_bills_16 : decode cX10_bills 16 = .ok (.iload 4, 2) := by decide +kernel
theorem dX10_bills_18 : decode cX10_bills 18 = .ok (.iconst 0, 1) := by decide +kernel
theorem dX10_bills_19 : decode cX10_bills 19 = .ok (.iconst 1, 1) := by decide +kernel
theorem dX10_bills_20 : decode cX10_bills 20 = .ok (.invokestatic 60, 3) := by decide +kernel
theorem dX10_bills_23 : decode cX10_bills 23 = .ok (.ifCond .ne 7, 3) := by decide +kernel
theorem dX10_bills_26 : decode cX10_bills 26 = .ok (.ldc2_w 205, 3) := by decide +kernel
theorem dX10_bills_29 : decode cX10_bills 29 = .ok (.lreturn, 1) := by decide +kernel
theorem dX10_bills_30 : decode cX10_bills 30 = .ok (.aload_n 0, 1) := by decide +kernel
theorem dX10_bills_31 : decode cX10_bills 31 = .ok (.iload_n 1, 1) := by decide +kernel
theorem dX10_bills_32 : decode cX10_bills 32 = .ok (.iload_n 2, 1) := by decide +kernel
theorem dX10_bills_33 : decode cX10_bills 33 = .ok (.iload_n 3, 1) := by decide +kernel
theorem dX10_bills_34 : decode cX10_bills 34 = .ok (.invokevirtual 170, 3) := by decide +kernel
theorem dX10_bills_37 : decode cX10_bills 37 = .ok (.aload_n 0, 1) := by decide +kernel
theorem dX10_bills_38 : decode cX10_bills 38 = .ok (.getfield 21, 3) := by decide +kernel
theorem dX10_bills_41 : decode cX10_bills 41 = .ok (.iload_n 2, 1) := by decide +kernel
theorem dX10_bills_42 : decode cX10_bills 42 = .ok (.invokevirtual 221, 3) := by decide +kernel
theorem dX10_bills_45 : decode cX10_bills 45 = .ok (.iload 4, 2) := by decide +kernel
theorem dX10_bills_47 : decode cX10_bills 47 = .ok (.ifCond .ne 14, 3) := by decide +kernel
theorem dX10_bills_50 : decode cX10_bills 50 = .ok (.aload_n 0, 1) := by decide +kernel
theorem dX10_bills_51 : decode cX10_bills 51 = .ok (.getfield 21, 3) := by decide +kernel
theorem dX10_bills_54 : decode cX10_bills 54 = .ok (.iload_n 2, 1) := by decide +kernel
theorem dX10_bills_55 : decode cX10_bills 55 = .ok (.invokevirtual 224, 3) := by decide +kernel
theorem dX10_bills_58 : decode cX10_bills 58 = .ok (.goto 11, 3) := by decide +kernel
theorem dX10_bills_61 : decode cX10_bills 61 = .ok (.aload_n 0, 1) := by decide +kernel
theorem dX10_bills_62 : decode cX10_bills 62 = .ok (.getfield 21, 3) := by decide +kernel
theorem dX10_bills_65 : decode cX10_bills 65 = .ok (.iload_n 2, 1) := by decide +kernel
theorem dX10_bills_66 : decode cX10_bills 66 = .ok (.invokevirtual 227, 3) := by decide +kernel
theorem dX10_bills_69 : decode cX10_bills 69 = .ok (.lreturn, 1) := by decide +kernel
theorem dX10_home_0 : decode cX10_home 0 = .ok (.aload_n 0, 1) := by decide +kernel
theorem dX10_home_1 : decode cX10_home 1 = .ok (.iload_n 1, 1) := by decide +kernel
theorem dX10_home_2 : decode cX10_home 2 = .ok (.iload_n 2, 1) := by decide +kernel
theorem dX10_home_3 : decode cX10_home 3 = .ok (.invokevirtual 68, 3) := by decide +kernel
theorem dX10_home_6 : decode cX10_home 6 = .ok (.ifCond .eq 20, 3) := by decide +kernel
theorem dX10_home_9 : decode cX10_home 9 = .ok (.iload_n 3, 1) := by decide +kernel
theorem dX10_home_10 : decode cX10_home 10 = .ok (.invokestatic 85, 3) := by decide +kernel
theorem dX10_home_13 : decode cX10_home 13 = .ok (.ifCond .eq 13, 3) := by decide +kernel
theorem dX10_home_16 : decode cX10_home 16 = .ok (.iload 4, 2) := by decide +kernel
theorem dX10_home_18 : decode cX10_home 18 = .ok (.iconst 0, 1) := by decide +kernel
theorem dX10_home_19 : decode cX10_home 19 = .ok (.iconst 3, 1) := by decide +kernel
theorem dX10_home_20 : decode cX10_home 20 = .ok (.invokestatic 60, 3) := by decide +kernel
theorem dX10_home_23 : decode cX10_home 23 = .ok (.ifCond .ne 7, 3) := by decide +kernel
theorem dX10_home_26 : decode cX10_home 26 = .ok (.ldc2_w 205, 3) := by decide +kernel
theorem dX10_home_29 : decode cX10_home 29 = .ok (.lreturn, 1) := by decide +kernel
theorem dX10_home_30 : decode cX10_home 30 = .ok (.aload_n 0, 1) := by decide +kernel
theorem dX10_home_31 : decode cX10_home 31 = .ok (.iload_n 1, 1) := by decide +kernel
theorem dX10_home_32 : decode cX10_home 32 = .ok (.iload_n 2, 1) := by decide +kernel
theorem dX10_home_33 : decode cX10_home 33 = .ok (.iload_n 3, 1) := by decide +kernel
theorem dX10_home_34 : decode cX10_home 34 = .ok (.invokevirtual 170, 3) := by decide +kernel
theorem dX10_home_37 : decode cX10_home 37 = .ok (.aload_n 0, 1) := by decide +kernel
theorem dX10_home_38 : decode cX10_home 38 = .ok (.getfield 21, 3) := by decide +kernel
theorem dX10_home_41 : decode cX10_home 41 = .ok (.iload_n 2, 1) := by decide +kernel
theorem dX10_home_42 : decode cX10_home 42 = .ok (.invokevirtual 221, 3) := by decide +kernel
theorem dX10_home_45 : decode cX10_home 45 = .ok (.aload_n 0, 1) := by decide +kernel
theorem dX10_home_46 : decode cX10_home 46 = .ok (.getfield 21, 3) := by decide +kernel
theorem dX10_home_49 : decode cX10_home 49 = .ok (.iload_n 2, 1) := by decide +kernel
theorem dX10_home_50 : decode cX10_home 50 = .ok (.invokevirtual 224, 3) := by decide +kernel
theorem dX10_home_53 : decode cX10_home 53 = .ok (.lstore 5, 2) := by decide +kernel
theorem dX10_home_55 : decode cX10_home 55 = .ok (.iload 4, 2) := by decide +kernel
theorem dX10_home_57 : decode cX10_home 57 = .ok (.iconst 3, 1) := by decide +kernel
theorem dX10_home_58 : decode cX10_home 58 = .ok (.if_icmp .ge 18, 3) := by decide +kernel
theorem dX10_home_61 : decode cX10_home 61 = .ok (.aload_n 0, 1) := by decide +kernel
theorem dX10_home_62 : decode cX10_home 62 = .ok (.getfield 12, 3) := by decide +kernel
theorem dX10_home_65 : decode cX10_home 65 = .ok (.lload 5, 2) := by decide +kernel
theorem dX10_home_67 : decode cX10_home 67 = .ok (.iload 4, 2) := by decide +kernel
theorem dX10_home_69 : decode cX10_home 69 = .ok (.iload_n 1, 1) := by decide +kernel
theorem dX10_home_70 : decode cX10_home 70 = .ok (.iload_n 2, 1) := by decide +kernel
theorem dX10_home_71 : decode cX10_home 71 = .ok (.iload_n 3, 1) := by decide +kernel
theorem dX10_home_72 : decode cX10_home 72 = .ok (.invokevirtual 230, 3) := by decide +kernel
theorem dX10_home_75 : decode cX10_home 75 = .ok (.lreturn, 1) := by decide +kernel
theorem dX10_home_76 : decode cX10_home 76 = .ok (.lload 5, 2) := by decide +kernel
theorem dX10_home_78 : decode cX10_home 78 = .ok (.lstore 7, 2) := by decide +kernel
theorem dX10_home_80 : decode cX10_home 80 = .ok (.iconst 0, 1) := by decide +kernel
theorem dX10_home_81 : decode cX10_home 81 = .ok (.istore 9, 2) := by decide +kernel
theorem dX10_home_83 : decode cX10_home 83 = .ok (.iload 9, 2) := by decide +kernel
theorem dX10_home_85 : decode cX10_home 85 = .ok (.iconst 3, 1) := by decide +kernel
theorem dX10_home_86 : decode cX10_home 86 = .ok (.if_icmp .ge 46, 3) := by decide +kernel
theorem dX10_home_89 : decode cX10_home 89 = .ok (.aload_n 0, 1) := by decide +kernel
theorem dX10_home_90 : decode cX10_home 90 = .ok (.getfield 12, 3) := by decide +kernel
theorem dX10_home_93 : decode cX10_home 93 = .ok (.lload 5, 2) := by decide +kernel
theorem dX10_home_95 : decode cX10_home 95 = .ok (.iload 9, 2) := by decide +kernel
theorem dX10_home_97 : decode cX10_home 97 = .ok (.iload_n 1, 1) := by decide +kernel
theorem dX10_home_98 : decode cX10_home 98 = .ok (.iload_n 2, 1) := by decide +kernel
theorem dX10_home_99 : decode cX10_home 99 = .ok (.iload_n 3, 1) := by decide +kernel
theorem dX10_home_100 : decode cX10_home 100 = .ok (.invokevirtual 230, 3) := by decide +kernel
theorem dX10_home_103 : decode cX10_home 103 = .ok (.lstore 10, 2) := by decide +kernel
theorem dX10_home_105 : decode cX10_home 105 = .ok (.lload 7, 2) := by decide +kernel
theorem dX10_home_107 : decode cX10_home 107 = .ok (.lload 10, 2) := by decide +kernel
theorem dX10_home_109 : decode cX10_home 109 = .ok (.aload_n 0, 1) := by decide +kernel
theorem dX10_home_110 : decode cX10_home 110 = .ok (.getfield 12, 3) := by decide +kernel
theorem dX10_home_113 : decode cX10_home 113 = .ok (.iload 9, 2) := by decide +kernel
theorem dX10_home_115 : decode cX10_home 115 = .ok (.iload_n 1, 1) := by decide +kernel
theorem dX10_home_116 : decode cX10_home 116 = .ok (.iload_n 2, 1) := by decide +kernel
theorem dX10_home_117 : decode cX10_home 117 = .ok (.iload_n 3, 1) := by decide +kernel
theorem dX10_home_118 : decode cX10_home 118 = .ok (.invokevirtual 234, 3) := by decide +kernel
theorem dX10_home_121 : decode cX10_home 121 = .ok (.i2l, 1) := by decide +kernel
theorem dX10_home_122 : decode cX10_home 122 = .ok (.lmul, 1) := by decide +kernel
theorem dX10_home_123 : decode cX10_home 123 = .ok (.lsub, 1) := by decide +kernel
theorem dX10_home_124 : decode cX10_home 124 = .ok (.lstore 7, 2) := by decide +kernel
theorem dX10_home_126 : decode cX10_home 126 = .ok (.iinc 9 1, 3) := by decide +kernel
theorem dX10_home_129 : decode cX10_home 129 = .ok (.goto (-46), 3) := by decide +kernel
theorem dX10_home_132 : decode cX10_home 132 = .ok (.lload 7, 2) := by decide +kernel
theorem dX10_home_134 : decode cX10_home 134 = .ok (.lreturn, 1) := by decide +kernel
theorem dX10_who_0 : decode cX10_who 0 = .ok (.aload_n 0, 1) := by decide +kernel
theorem dX10_who_1 : decode cX10_who 1 = .ok (.iload_n 1, 1) := by decide +kernel
theorem dX10_who_2 : decode cX10_who 2 = .ok (.iload_n 2, 1) := by decide +kernel
theorem dX10_who_3 : decode cX10_who 3 = .ok (.invokevirtual 68, 3) := by decide +kernel
theorem dX10_who_6 : decode cX10_who 6 = .ok (.ifCond .eq 31, 3) := by decide +kernel
theorem dX10_who_9 : decode cX10_who 9 = .ok (.iload_n 3, 1) := by decide +kernel
theorem dX10_who_10 : decode cX10_who 10 = .ok (.invokestatic 85, 3) := by decide +kernel
theorem dX10_who_13 : decode cX10_who 13 = .ok (.ifCond .eq 24, 3) := by decide +kernel
theorem dX10_who_16 : decode cX10_who 16 = .ok (.iload 4, 2) := by decide +kernel
theorem dX10_who_18 : decode cX10_who 18 = .ok (.iconst 0, 1) := by decide +kernel
theorem dX10_who_19 : decode cX10_who 19 = .ok (.iconst 2, 1) := by decide +kernel
theorem dX10_who_20 : decode cX10_who 20 = .ok (.invokestatic 60, 3) := by decide +kernel
theorem dX10_who_23 : decode cX10_who 23 = .ok (.ifCond .eq 14, 3) := by decide +kernel
theorem dX10_who_26 : decode cX10_who 26 = .ok (.iload 5, 2) := by decide +kernel
theorem dX10_who_28 : decode cX10_who 28 = .ok (.iconst 0, 1) := by decide +kernel
theorem dX10_who_29 : decode cX10_who 29 = .ok (.bipush 14, 2) := by decide +kernel
theorem dX10_who_31 : decode cX10_who 31 = .ok (.invokestatic 60, 3) := by decide +kernel
theorem dX10_who_34 : decode cX10_who 34 = .ok (.ifCond .ne 7, 3) := by decide +kernel
theorem dX10_who_37 : decode cX10_who 37 = .ok (.ldc2_w 205, 3) := by decide +kernel
theorem dX10_who_40 : decode cX10_who 40 = .ok (.lreturn, 1) := by decide +kernel
theorem dX10_who_41 : decode cX10_who 41 = .ok (.aload_n 0, 1) := by decide +kernel
theorem dX10_who_42 : decode cX10_who 42 = .ok (.iload_n 1, 1) := by decide +kernel
theorem dX10_who_43 : decode cX10_who 43 = .ok (.iload_n 2, 1) := by decide +kernel
theorem dX10_who_44 : decode cX10_who 44 = .ok (.iload_n 3, 1) := by decide +kernel
theorem dX10_who_45 : decode cX10_who 45 = .ok (.invokevirtual 170, 3) := by decide +kernel
theorem dX10_who_48 : decode cX10_who 48 = .ok (.aload_n 0, 1) := by decide +kernel
theorem dX10_who_49 : decode cX10_who 49 = .ok (.getfield 21, 3) := by decide +kernel
theorem dX10_who_52 : decode cX10_who 52 = .ok (.iload_n 2, 1) := by decide +kernel
theorem dX10_who_53 : decode cX10_who 53 = .ok (.iload_n 2, 1) := by decide +kernel
theorem dX10_who_54 : decode cX10_who 54 = .ok (.invokevirtual 211, 3) := by decide +kernel
theorem dX10_who_57 : decode cX10_who 57 = .ok (.aload_n 0, 1) := by decide +kernel
theorem dX10_who_58 : decode cX10_who 58 = .ok (.getfield 12, 3) := by decide +kernel
theorem dX10_who_61 : decode cX10_who 61 = .ok (.aload_n 0, 1) := by decide +kernel
theorem dX10_who_62 : decode cX10_who 62 = .ok (.getfield 21, 3) := by decide +kernel
theorem dX10_who_65 : decode cX10_who 65 = .ok (.iload_n 2, 1) := by decide +kernel
theorem dX10_who_66 : decode cX10_who 66 = .ok (.iload 5, 2) := by decide +kernel
theorem dX10_who_68 : decode cX10_who 68 = .ok (.invokevirtual 215, 3) := by decide +kernel
theorem dX10_who_71 : decode cX10_who 71 = .ok (.iload 4, 2) := by decide +kernel
theorem dX10_who_73 : decode cX10_who 73 = .ok (.iload_n 1, 1) := by decide +kernel
theorem dX10_who_74 : decode cX10_who 74 = .ok (.iload_n 2, 1) := by decide +kernel
theorem dX10_who_75 : decode cX10_who 75 = .ok (.iload_n 3, 1) := by decide +kernel
theorem dX10_who_76 : decode cX10_who 76 = .ok (.invokevirtual 230, 3) := by decide +kernel
theorem dX10_who_79 : decode cX10_who 79 = .ok (.lreturn, 1) := by decide +kernel
theorem dX10_count_0 : decode cX10_count 0 = .ok (.iload_n 1, 1) := by decide +kernel
theorem dX10_count_1 : decode cX10_count 1 = .ok (.tableswitch 158 0 10 #[59, 67, 75, 86, 97, 108, 119, 130, 135, 148, 153], 59) := by decide +kernel
theorem dX10_count_60 : decode cX10_count 60 = .ok (.aload_n 0, 1) := by decide +kernel
theorem dX10_count_61 : decode cX10_count 61 = .ok (.getfield 12, 3) := by decide +kernel
theorem dX10_count_64 : decode cX10_count 64 = .ok (.getfield 55, 3) := by decide +kernel
theorem dX10_count_67 : decode cX10_count 67 = .ok (.ireturn, 1) := by decide +kernel
theorem dX10_count_68 : decode cX10_count 68 = .ok (.aload_n 0, 1) := by decide +kernel
theorem dX10_count_69 : decode cX10_count 69 = .ok (.getfield 12, 3) := by decide +kernel
theorem dX10_count_72 : decode cX10_count 72 = .ok (.getfield 292, 3) := by decide +kernel
theorem dX10_count_75 : decode cX10_count 75 = .ok (.ireturn, 1) := by decide +kernel
theorem dX10_count_76 : decode cX10_count 76 = .ok (.aload_n 0, 1) := by decide +kernel
theorem dX10_count_77 : decode cX10_count 77 = .ok (.getfield 12, 3) := by decide +kernel
theorem dX10_count_80 : decode cX10_count 80 = .ok (.getfield 75, 3) := by decide +kernel
theorem dX10_count_83 : decode cX10_count 83 = .ok (.getfield 295, 3) := by decide +kernel
theorem dX10_count_86 : decode cX10_count 86 = .ok (.ireturn, 1) := by decide +kernel
theorem dX10_count_87 : decode cX10_count 87 = .ok (.aload_n 0, 1) := by decide +kernel
theorem dX10_count_88 : decode cX10_count 88 = .ok (.getfield 12, 3) := by decide +kernel
theorem dX10_count_91 : decode cX10_count 91 = .ok (.getfield 94, 3) := by decide +kernel
theorem dX10_count_94 : decode cX10_count 94 = .ok (.getfield 298, 3) := by decide +kernel
theorem dX10_count_97 : decode cX10_count 97 = .ok (.ireturn, 1) := by decide +kernel
theorem dX10_count_98 : decode cX10_count 98 = .ok (.aload_n 0, 1) := by decide +kernel
theorem dX10_count_99 : decode cX10_count 99 = .ok (.getfield 12, 3) := by decide +kernel
theorem dX10_count_102 : decode cX10_count 102 = .ok (.getfield 94, 3) := by decide +kernel
theorem dX10_count_105 : decode cX10_count 105 = .ok (.getfield 299, 3) := by decide +kernel
theorem dX10_count_108 : decode cX10_count 108 = .ok (.ireturn, 1) := by decide +kernel
theorem dX10_count_109 : decode cX10_count 109 = .ok (.aload_n 0, 1) := by decide +kernel
theorem dX10_count_110 : decode cX10_count 110 = .ok (.getfield 12, 3) := by decide +kernel
theorem dX10_count_113 : decode cX10_count 113 = .ok (.getfield 109, 3) := by decide +kernel
theorem dX10_count_116 : decode cX10_count 116 = .ok (.getfield 302, 3) := by decide +kernel
theorem dX10_count_119 : decode cX10_count 119 = .ok (.ireturn, 1) := by decide +kernel
theorem dX10_count_120 : decode cX10_count 120 = .ok (.aload_n 0, 1) := by decide +kernel
theorem dX10_count_121 : decode cX10_count 121 = .ok (.getfield 12, 3) := by decide +kernel
theorem dX10_count_124 : decode cX10_count 124 = .ok (.getfield 116, 3) := by decide +kernel
theorem dX10_count_127 : decode cX10_count 127 = .ok (.getfield 302, 3) := by decide +kernel
theorem dX10_count_130 : decode cX10_count 130 = .ok (.ireturn, 1) := by decide +kernel
theorem dX10_count_131 : decode cX10_count 131 = .ok (.aload_n 0, 1) := by decide +kernel
theorem dX10_count_132 : decode cX10_count 132 = .ok (.getfield 129, 3) := by decide +kernel
theorem dX10_count_135 : decode cX10_count 135 = .ok (.ireturn, 1) := by decide +kernel
theorem dX10_count_136 : decode cX10_count 136 = .ok (.aload_n 0, 1) := by decide +kernel
theorem dX10_count_137 : decode cX10_count 137 = .ok (.getfield 150, 3) := by decide +kernel
theorem dX10_count_140 : decode cX10_count 140 = .ok (.ifnonnull 7, 3) := by decide +kernel
theorem dX10_count_143 : decode cX10_count 143 = .ok (.iconst 0, 1) := by decide +kernel
theorem dX10_count_144 : decode cX10_count 144 = .ok (.goto 4, 3) := by decide +kernel
theorem dX10_count_147 : decode cX10_count 147 = .ok (.iconst 1, 1) := by decide +kernel
theorem dX10_count_148 : decode cX10_count 148 = .ok (.ireturn, 1) := by decide +kernel
theorem dX10_count_149 : decode cX10_count 149 = .ok (.aload_n 0, 1) := by decide +kernel
theorem dX10_count_150 : decode cX10_count 150 = .ok (.getfield 119, 3) := by decide +kernel
theorem dX10_count_153 : decode cX10_count 153 = .ok (.ireturn, 1) := by decide +kernel
theorem dX10_count_154 : decode cX10_count 154 = .ok (.aload_n 0, 1) := by decide +kernel
theorem dX10_count_155 : decode cX10_count 155 = .ok (.getfield 274, 3) := by decide +kernel
theorem dX10_count_158 : decode cX10_count 158 = .ok (.ireturn, 1) := by decide +kernel
theorem dX10_count_159 : decode cX10_count 159 = .ok (.iconst (-1), 1) := by decide +kernel
theorem dX10_count_160 : decode cX10_count 160 = .ok (.ireturn, 1) := by decide +kernel
theorem dX10_isFirm_0 : decode cX10_isFirm 0 = .ok (.iload_n 1, 1) := by decide +kernel
theorem dX10_isFirm_1 : decode cX10_isFirm 1 = .ok (.ifCond .lt 18, 3) := by decide +kernel
theorem dX10_isFirm_4 : decode cX10_isFirm 4 = .ok (.iload_n 1, 1) := by decide +kernel
theorem dX10_isFirm_5 : decode cX10_isFirm 5 = .ok (.aload_n 0, 1) := by decide +kernel
theorem dX10_isFirm_6 : decode cX10_isFirm 6 = .ok (.getfield 12, 3) := by decide +kernel
theorem dX10_isFirm_9 : decode cX10_isFirm 9 = .ok (.getfield 292, 3) := by decide +kernel
theorem dX10_isFirm_12 : decode cX10_isFirm 12 = .ok (.if_icmp .ge 7, 3) := by decide +kernel
theorem dX10_isFirm_15 : decode cX10_isFirm 15 = .ok (.iconst 1, 1) := by decide +kernel
theorem dX10_isFirm_16 : decode cX10_isFirm 16 = .ok (.goto 4, 3) := by decide +kernel
theorem dX10_isFirm_19 : decode cX10_isFirm 19 = .ok (.iconst 0, 1) := by decide +kernel
theorem dX10_isFirm_20 : decode cX10_isFirm 20 = .ok (.ireturn, 1) := by decide +kernel
theorem dX10_isFirmsYear_0 : decode cX10_isFirmsYear 0 = .ok (.aload_n 0, 1) := by decide +kernel
theorem dX10_isFirmsYear_1 : decode cX10_isFirmsYear 1 = .ok (.iload_n 1, 1) := by decide +kernel
theorem dX10_isFirmsYear_2 : decode cX10_isFirmsYear 2 = .ok (.invokevirtual 187, 3) := by decide +kernel
theorem dX10_isFirmsYear_5 : decode cX10_isFirmsYear 5 = .ok (.ifCond .eq 17, 3) := by decide +kernel

/-! the instructions, decoded -/
theorem dX6_doesFit_104 : decode cX6_doesFit 104 = .ok (.iconst 0, 1) := by decide +kernel
theorem dX6_doesFit_105 : decode cX6_doesFit 105 = .ok (.istore 5, 2) := by decide +kernel
theorem dX6_doesFit_107 : decode cX6_doesFit 107 = .ok (.iinc 6 1, 3) := by decide +kernel
theorem dX6_doesFit_110 : decode cX6_doesFit 110 = .ok (.goto (-79), 3) := by decide +kernel
theorem dX6_doesFit_113 : decode cX6_doesFit 113 = .ok (.iload 5, 2) := by decide +kernel
theorem dX6_doesFit_115 : decode cX6_doesFit 115 = .ok (.ireturn, 1) := by decide +kernel
theorem dX6_nearest_0 : decode cX6_nearest 0 = .ok (.iconst (-1), 1) := by decide +kernel
theorem dX6_nearest_1 : decode cX6_nearest 1 = .ok (.istore 4, 2) := by decide +kernel
theorem dX6_nearest_3 : decode cX6_nearest 3 = .ok (.iconst 5, 1) := by decide +kernel
theorem dX6_nearest_4 : decode cX6_nearest 4 = .ok (.istore 5, 2) := by decide +kernel
theorem dX6_nearest_6 : decode cX6_nearest 6 = .ok (.iconst 0, 1) := by decide +kernel
theorem dX6_nearest_7 : decode cX6_nearest 7 = .ok (.istore 6, 2) := by decide +kernel
theorem dX6_nearest_9 : decode cX6_nearest 9 = .ok (.iload 6, 2) := by decide +kernel
theorem dX6_nearest_11 : decode cX6_nearest 11 = .ok (.iconst 5, 1) := by decide +kernel
theorem dX6_nearest_12 : decode cX6_nearest 12 = .ok (.if_icmp .ge 54, 3) := by decide +kernel
theorem dX6_nearest_15 : decode cX6_nearest 15 = .ok (.iload 6, 2) := by decide +kernel
theorem dX6_nearest_17 : decode cX6_nearest 17 = .ok (.iload_n 3, 1) := by decide +kernel
theorem dX6_nearest_18 : decode cX6_nearest 18 = .ok (.if_icmp .ge 10, 3) := by decide +kernel
theorem dX6_nearest_21 : decode cX6_nearest 21 = .ok (.iload_n 3, 1) := by decide +kernel
theorem dX6_nearest_22 : decode cX6_nearest 22 = .ok (.iload 6, 2) := by decide +kernel
theorem dX6_nearest_24 : decode cX6_nearest 24 = .ok (.isub, 1) := by decide +kernel
theorem dX6_nearest_25 : decode cX6_nearest 25 = .ok (.goto 7, 3) := by decide +kernel
theorem dX6_nearest_28 : decode cX6_nearest 28 = .ok (.iload 6, 2) := by decide +kernel
theorem dX6_nearest_30 : decode cX6_nearest 30 = .ok (.iload_n 3, 1) := by decide +kernel
theorem dX6_nearest_31 : decode cX6_nearest 31 = .ok (.isub, 1) := by decide +kernel
theorem dX6_nearest_32 : decode cX6_nearest 32 = .ok (.istore 7, 2) := by decide +kernel
theorem dX6_nearest_34 : decode cX6_nearest 34 = .ok (.iload 7, 2) := by decide +kernel
theorem dX6_nearest_36 : decode cX6_nearest 36 = .ok (.iload 5, 2) := by decide +kernel
theorem dX6_nearest_38 : decode cX6_nearest 38 = .ok (.if_icmp .gt 22, 3) := by decide +kernel
theorem dX6_nearest_41 : decode cX6_nearest 41 = .ok (.aload_n 0, 1) := by decide +kernel
theorem dX6_nearest_42 : decode cX6_nearest 42 = .ok (.iload_n 1, 1) := by decide +kernel
theorem dX6_nearest_43 : decode cX6_nearest 43 = .ok (.iload_n 2, 1) := by decide +kernel
theorem dX6_nearest_44 : decode cX6_nearest 44 = .ok (.iload 6, 2) := by decide +kernel
theorem dX6_nearest_46 : decode cX6_nearest 46 = .ok (.invokevirtual 59, 3) := by decide +kernel
theorem dX6_nearest_49 : decode cX6_nearest 49 = .ok (.ifCond .eq 11, 3) := by decide +kernel
theorem dX6_nearest_52 : decode cX6_nearest 52 = .ok (.iload 6, 2) := by decide +kernel
theorem dX6_nearest_54 : decode cX6_nearest 54 = .ok (.istore 4, 2) := by decide +kernel
theorem dX6_nearest_56 : decode cX6_nearest 56 = .ok (.iload 7, 2) := by decide +kernel
theorem dX6_nearest_58 : decode cX6_nearest 58 = .ok (.istore 5, 2) := by decide +kernel
theorem dX6_nearest_60 : decode cX6_nearest 60 = .ok (.iinc 6 1, 3) := by decide +kernel
theorem dX6_nearest_63 : decode cX6_nearest 63 = .ok (.goto (-54), 3) := by decide +kernel
theorem dX6_nearest_66 : decode cX6_nearest 66 = .ok (.iload 4, 2) := by decide +kernel
theorem dX6_nearest_68 : decode cX6_nearest 68 = .ok (.ireturn, 1) := by decide +kernel
theorem dX6_looks_0 : decode cX6_looks 0 = .ok (.iconst 0, 1) := by decide +kernel
theorem dX6_looks_1 : decode cX6_looks 1 = .ok (.istore_n 2, 1) := by decide +kernel
theorem dX6_looks_2 : decode cX6_looks 2 = .ok (.iconst 0, 1) := by decide +kernel
theorem dX6_looks_3 : decode cX6_looks 3 = .ok (.istore_n 3, 1) := by decide +kernel
theorem dX6_looks_4 : decode cX6_looks 4 = .ok (.iload_n 3, 1) := by decide +kernel
theorem dX6_looks_5 : decode cX6_looks 5 = .ok (.bipush 32, 2) := by decide +kernel
theorem dX6_looks_7 : decode cX6_looks 7 = .ok (.if_icmp .ge 66, 3) := by decide +kernel
theorem dX6_looks_10 : decode cX6_looks 10 = .ok (.aload_n 0, 1) := by decide +kernel
theorem dX6_looks_11 : decode cX6_looks 11 = .ok (.iload_n 1, 1) := by decide +kernel
theorem dX6_looks_12 : decode cX6_looks 12 = .ok (.iload_n 3, 1) := by decide +kernel
theorem dX6_looks_13 : decode cX6_looks 13 = .ok (.iload_n 2, 1) := by decide +kernel
theorem dX6_looks_14 : decode cX6_looks 14 = .ok (.invokevirtual 62, 3) := by decide +kernel
theorem dX6_looks_17 : decode cX6_looks 17 = .ok (.istore 4, 2) := by decide +kernel
theorem dX6_looks_19 : decode cX6_looks 19 = .ok (.iload 4, 2) := by decide +kernel
theorem dX6_looks_21 : decode cX6_looks 21 = .ok (.iconst (-1), 1) := by decide +kernel
theorem dX6_looks_22 : decode cX6_looks 22 = .ok (.if_icmp .ne 7, 3) := by decide +kernel
theorem dX6_looks_25 : decode cX6_looks 25 = .ok (.iload_n 2, 1) := by decide +kernel
theorem dX6_looks_26 : decode cX6_looks 26 = .ok (.goto 5, 3) := by decide +kernel
theorem dX6_looks_29 : decode cX6_looks 29 = .ok (.iload 4, 2) := by decide +kernel
theorem dX6_looks_31 : decode cX6_looks 31 = .ok (.istore_n 2, 1) := by decide +kernel
theorem dX6_looks_32 : decode cX6_looks 32 = .ok (.aload_n 0, 1) := by decide +kernel
theorem dX6_looks_33 : decode cX6_looks 33 = .ok (.getfield 25, 3) := by decide +kernel
theorem dX6_looks_36 : decode cX6_looks 36 = .ok (.iload_n 3, 1) := by decide +kernel
theorem dX6_looks_37 : decode cX6_looks 37 = .ok (.iload 4, 2) := by decide +kernel
theorem dX6_looks_39 : decode cX6_looks 39 = .ok (.iconst (-1), 1) := by decide +kernel
theorem dX6_looks_40 : decode cX6_looks 40 = .ok (.if_icmp .ne 7, 3) := by decide +kernel
theorem dX6_looks_43 : decode cX6_looks 43 = .ok (.iconst (-1), 1) := by decide +kernel
theorem dX6_looks_44 : decode cX6_looks 44 = .ok (.goto 22, 3) := by decide +kernel
theorem dX6_looks_47 : decode cX6_looks 47 = .ok (.aload_n 0, 1) := by decide +kernel
theorem dX6_looks_48 : decode cX6_looks 48 = .ok (.getfield 7, 3) := by decide +kernel
theorem dX6_looks_51 : decode cX6_looks 51 = .ok (.iconst 3, 1) := by decide +kernel
theorem dX6_looks_52 : decode cX6_looks 52 = .ok (.iaload, 1) := by decide +kernel
theorem dX6_looks_53 : decode cX6_looks 53 = .ok (.iconst 1, 1) := by decide +kernel
theorem dX6_looks_54 : decode cX6_looks 54 = .ok (.if_icmp .ne 10, 3) := by decide +kernel
theorem dX6_looks_57 : decode cX6_looks 57 = .ok (.iconst 4, 1) := by decide +kernel
theorem dX6_looks_58 : decode cX6_looks 58 = .ok (.iload 4, 2) := by decide +kernel
theorem dX6_looks_60 : decode cX6_looks 60 = .ok (.isub, 1) := by decide +kernel
theorem dX6_looks_61 : decode cX6_looks 61 = .ok (.goto 5, 3) := by decide +kernel
theorem dX6_looks_64 : decode cX6_looks 64 = .ok (.iload 4, 2) := by decide +kernel
theorem dX6_looks_66 : decode cX6_looks 66 = .ok (.iastore, 1) := by decide +kernel
theorem dX6_looks_67 : decode cX6_looks 67 = .ok (.iinc 3 1, 3) := by decide +kernel
theorem dX6_looks_70 : decode cX6_looks 70 = .ok (.goto (-66), 3) := by decide +kernel
theorem dX6_looks_73 : decode cX6_looks 73 = .ok (.return_, 1) := by decide +kernel
theorem dX6_looksBeside_0 : decode cX6_looksBeside 0 = .ok (.aload_n 0, 1) := by decide +kernel
theorem dX6_looksBeside_1 : decode cX6_looksBeside 1 = .ok (.iload_n 1, 1) := by decide +kernel
theorem dX6_looksBeside_2 : decode cX6_looksBeside 2 = .ok (.invokevirtual 66, 3) := by decide +kernel
theorem dX6_looksBeside_5 : decode cX6_looksBeside 5 = .ok (.iconst 0, 1) := by decide +kernel
theorem dX6_looksBeside_6 : decode cX6_looksBeside 6 = .ok (.istore_n 2, 1) := by decide +kernel
theorem dX6_looksBeside_7 : decode cX6_looksBeside 7 = .ok (.iload_n 2, 1) := by decide +kernel
theorem dX6_looksBeside_8 : decode cX6_looksBeside 8 = .ok (.bipush 32, 2) := by decide +kernel
theorem dX6_looksBeside_10 : decode cX6_looksBeside 10 = .ok (.if_icmp .ge 21, 3) := by decide +kernel
theorem dX6_looksBeside_13 : decode cX6_looksBeside 13 = .ok (.aload_n 0, 1) := by decide +kernel
theorem dX6_looksBeside_14 : decode cX6_looksBeside 14 = .ok (.getfield 28, 3) := by decide +kernel
theorem dX6_looksBeside_17 : decode cX6_looksBeside 17 = .ok (.iload_n 2, 1) := by decide +kernel
theorem dX6_looksBeside_18 : decode cX6_looksBeside 18 = .ok (.aload_n 0, 1) := by decide +kernel
theorem dX6_looksBeside_19 : decode cX6_looksBeside 19 = .ok (.getfield 25, 3) := by decide +kernel
theorem dX6_looksBeside_22 : decode cX6_looksBeside 22 = .ok (.iload_n 2, 1) := by decide +kernel
theorem dX6_looksBeside_23 : decode cX6_looksBeside 23 = .ok (.iaload, 1) := by decide +kernel
theorem dX6_looksBeside_24 : decode cX6_looksBeside 24 = .ok (.iastore, 1) := by decide +kernel
theorem dX6_looksBeside_25 : decode cX6_looksBeside 25 = .ok (.iinc 2 1, 3) := by decide +kernel
theorem dX6_looksBeside_28 : decode cX6_looksBeside 28 = .ok (.goto (-21), 3) := by decide +kernel
theorem dX6_looksBeside_31 : decode cX6_looksBeside 31 = .ok (.return_, 1) := by decide +kernel
theorem dX6_isRight_0 : decode cX6_isRight 0 = .ok (.aload_n 0, 1) := by decide +kernel
theorem dX6_isRight_1 : decode cX6_isRight 1 = .ok (.getfield 25, 3) := by decide +kernel
theorem dX6_isRight_4 : decode cX6_isRight 4 = .ok (.iload_n 2, 1) := by decide +kernel
theorem dX6_isRight_5 : decode cX6_isRight 5 = .ok (.iaload, 1) := by decide +kernel
theorem dX6_isRight_6 : decode cX6_isRight 6 = .ok (.aload_n 0, 1) := by decide +kernel
theorem dX6_isRight_7 : decode cX6_isRight 7 = .ok (.iload_n 1, 1) := by decide +kernel
theorem dX6_isRight_8 : decode cX6_isRight 8 = .ok (.iload_n 2, 1) := by decide +kernel
theorem dX6_isRight_9 : decode cX6_isRight 9 = .ok (.invokevirtual 43, 3) := by decide +kernel
theorem dX6_isRight_12 : decode cX6_isRight 12 = .ok (.if_icmp .ne 7, 3) := by decide +kernel
theorem dX6_isRight_15 : decode cX6_isRight 15 = .ok (.iconst 1, 1) := by decide +kernel
theorem dX6_isRight_16 : decode cX6_isRight 16 = .ok (.goto 4, 3) := by decide +kernel
theorem dX6_isRight_19 : decode cX6_isRight 19 = .ok (.iconst 0, 1) := by decide +kernel
theorem dX6_isRight_20 : decode cX6_isRight 20 = .ok (.ireturn, 1) := by decide +kernel
theorem dX6_rightOnes_0 : decode cX6_rightOnes 0 = .ok (.aload_n 0, 1) := by decide +kernel
theorem dX6_rightOnes_1 : decode cX6_rightOnes 1 = .ok (.iload_n 1, 1) := by decide +kernel
theorem dX6_rightOnes_2 : decode cX6_rightOnes 2 = .ok (.invokevirtual 66, 3) := by decide +kernel
theorem dX6_rightOnes_5 : decode cX6_rightOnes 5 = .ok (.iconst 0, 1) := by decide +kernel
theorem dX6_rightOnes_6 : decode cX6_rightOnes 6 = .ok (.istore_n 2, 1) := by decide +kernel
theorem dX6_rightOnes_7 : decode cX6_rightOnes 7 = .ok (.iconst 0, 1) := by decide +kernel
theorem dX6_rightOnes_8 : decode cX6_rightOnes 8 = .ok (.istore_n 3, 1) := by decide +kernel
theorem dX6_rightOnes_9 : decode cX6_rightOnes 9 = .ok (.iload_n 3, 1) := by decide +kernel
theorem dX6_rightOnes_10 : decode cX6_rightOnes 10 = .ok (.bipush 32, 2) := by decide +kernel
theorem dX6_rightOnes_12 : decode cX6_rightOnes 12 = .ok (.if_icmp .ge 26, 3) := by decide +kernel
theorem dX6_rightOnes_15 : decode cX6_rightOnes 15 = .ok (.iload_n 2, 1) := by decide +kernel
theorem dX6_rightOnes_16 : decode cX6_rightOnes 16 = .ok (.aload_n 0, 1) := by decide +kernel
theorem dX6_rightOnes_17 : decode cX6_rightOnes 17 = .ok (.iload_n 1, 1) := by decide +kernel
theorem dX6_rightOnes_18 : decode cX6_rightOnes 18 = .ok (.iload_n 3, 1) := by decide +kernel
theorem dX6_rightOnes_19 : decode cX6_rightOnes 19 = .ok (.invokevirtual 70, 3) := by decide +kernel
theorem dX6_rightOnes_22 : decode cX6_rightOnes 22 = .ok (.ifCond .eq 7, 3) := by decide +kernel
theorem dX6_rightOnes_25 : decode cX6_rightOnes 25 = .ok (.iconst 1, 1) := by decide +kernel
theorem dX6_rightOnes_26 : decode cX6_rightOnes 26 = .ok (.goto 4, 3) := by decide +kernel
theorem dX6_rightOnes_29 : decode cX6_rightOnes 29 = .ok (.iconst 0, 1) := by decide +kernel
theorem dX6_rightOnes_30 : decode cX6_rightOnes 30 = .ok (.iadd, 1) := by decide +kernel
theorem dX6_rightOnes_31 : decode cX6_rightOnes 31 = .ok (.istore_n 2, 1) := by decide +kernel
theorem dX6_rightOnes_32 : decode cX6_rightOnes 32 = .ok (.iinc 3 1, 3) := by decide +kernel
theorem dX6_rightOnes_35 : decode cX6_rightOnes 35 = .ok (.goto (-26), 3) := by decide +kernel
theorem dX6_rightOnes_38 : decode cX6_rightOnes 38 = .ok (.iload_n 2, 1) := by decide +kernel
theorem dX6_rightOnes_39 : decode cX6_rightOnes 39 = .ok (.ireturn, 1) := by decide +kernel
theorem dX6_allRight_0 : decode cX6_allRight 0 = .ok (.iconst 0, 1) := by decide +kernel
theorem dX6_allRight_1 : decode cX6_allRight 1 = .ok (.istore_n 1, 1) := by decide +kernel
theorem dX6_allRight_2 : decode cX6_allRight 2 = .ok (.iconst 0, 1) := by decide +kernel
theorem dX6_allRight_3 : decode cX6_allRight 3 = .ok (.istore_n 2, 1) := by decide +kernel
theorem dX6_allRight_4 : decode cX6_allRight 4 = .ok (.iload_n 2, 1) := by decide +kernel
theorem dX6_allRight_5 : decode cX6_allRight 5 = .ok (.bipush 8, 2) := by decide +kernel
theorem dX6_allRight_7 : decode cX6_allRight 7 = .ok (.if_icmp .ge 17, 3) := by decide +kernel
theorem dX6_allRight_10 : decode cX6_allRight 10 = .ok (.iload_n 1, 1) := by decide +kernel
theorem dX6_allRight_11 : decode cX6_allRight 11 = .ok (.aload_n 0, 1) := by decide +kernel
theorem dX6_allRight_12 : decode cX6_allRight 12 = .ok (.iload_n 2, 1) := by decide +kernel
theorem dX6_allRight_13 : decode cX6_allRight 13 = .ok (.invokevirtual 74, 3) := by decide +kernel
theorem dX6_allRight_16 : decode cX6_allRight 16 = .ok (.iadd, 1) := by decide +kernel
theorem dX6_allRight_17 : decode cX6_allRight 17 = .ok (.istore_n 1, 1) := by decide +kernel
theorem dX6_allRight_18 : decode cX6_allRight 18 = .ok (.iinc 2 1, 3) := by decide +kernel
theorem dX6_allRight_21 : decode cX6_allRight 21 = .ok (.goto (-17), 3) := by decide +kernel
theorem dX6_allRight_24 : decode cX6_allRight 24 = .ok (.iload_n 1, 1) := by decide +kernel
theorem dX6_allRight_25 : decode cX6_allRight 25 = .ok (.ireturn, 1) := by decide +kernel
theorem dX6_changed_0 : decode cX6_changed 0 = .ok (.iconst 0, 1) := by decide +kernel
theorem dX6_changed_1 : decode cX6_changed 1 = .ok (.istore_n 2, 1) := by decide +kernel
theorem dX6_changed_2 : decode cX6_changed 2 = .ok (.iload_n 1, 1) := by decide +kernel
theorem dX6_changed_3 : decode cX6_changed 3 = .ok (.istore_n 3, 1) := by decide +kernel
theorem dX6_changed_4 : decode cX6_changed 4 = .ok (.iload_n 3, 1) := by decide +kernel
theorem dX6_changed_5 : decode cX6_changed 5 = .ok (.iload_n 1, 1) := by decide +kernel
theorem dX6_changed_6 : decode cX6_changed 6 = .ok (.sipush 256, 3) := by decide +kernel
theorem dX6_changed_9 : decode cX6_changed 9 = .ok (.iadd, 1) := by decide +kernel
theorem dX6_changed_10 : decode cX6_changed 10 = .ok (.if_icmp .ge 32, 3) := by decide +kernel
theorem dX6_changed_13 : decode cX6_changed 13 = .ok (.iload_n 2, 1) := by decide +kernel
theorem dX6_changed_14 : decode cX6_changed 14 = .ok (.aload_n 0, 1) := by decide +kernel
theorem dX6_changed_15 : decode cX6_changed 15 = .ok (.getfield 7, 3) := by decide +kernel
theorem dX6_changed_18 : decode cX6_changed 18 = .ok (.iload_n 3, 1) := by decide +kernel
theorem dX6_changed_19 : decode cX6_changed 19 = .ok (.iaload, 1) := by decide +kernel
theorem dX6_changed_20 : decode cX6_changed 20 = .ok (.aload_n 0, 1) := by decide +kernel
theorem dX6_changed_21 : decode cX6_changed 21 = .ok (.getfield 13, 3) := by decide +kernel
theorem dX6_changed_24 : decode cX6_changed 24 = .ok (.iload_n 3, 1) := by decide +kernel
theorem dX6_changed_25 : decode cX6_changed 25 = .ok (.iaload, 1) := by decide +kernel
theorem dX6_changed_26 : decode cX6_changed 26 = .ok (.if_icmp .eq 7, 3) := by decide +kernel
theorem dX6_changed_29 : decode cX6_changed 29 = .ok (.iconst 1, 1) := by decide +kernel
theorem dX6_changed_30 : decode cX6_changed 30 = .ok (.goto 4, 3) := by decide +kernel
theorem dX6_changed_33 : decode cX6_changed 33 = .ok (.iconst 0, 1) := by decide +kernel
theorem dX6_changed_34 : decode cX6_changed 34 = .ok (.iadd, 1) := by decide +kernel
theorem dX6_changed_35 : decode cX6_changed 35 = .ok (.istore_n 2, 1) := by decide +kernel
theorem dX6_changed_36 : decode cX6_changed 36 = .ok (.iinc 3 1, 3) := by decide +kernel
theorem dX6_changed_39 : decode cX6_changed 39 = .ok (.goto (-35), 3) := by decide +kernel
theorem dX6_changed_42 : decode cX6_changed 42 = .ok (.iload_n 2, 1) := by decide +kernel
theorem dX6_changed_43 : decode cX6_changed 43 = .ok (.ireturn, 1) := by decide +kernel
theorem dX6_lays_0 : decode cX6_lays 0 = .ok (.iload_n 1, 1) := by decide +kernel
theorem dX6_lays_1 : decode cX6_lays 1 = .ok (.istore 6, 2) := by decide +kernel
theorem dX6_lays_3 : decode cX6_lays 3 = .ok (.iload 6, 2) := by decide +kernel
theorem dX6_lays_5 : decode cX6_lays 5 = .ok (.iload_n 3, 1) := by decide +kernel
theorem dX6_lays_6 : decode cX6_lays 6 = .ok (.if_icmp .gt 42, 3) := by decide +kernel
theorem dX6_lays_9 : decode cX6_lays 9 = .ok (.iload_n 2, 1) := by decide +kernel
theorem dX6_lays_10 : decode cX6_lays 10 = .ok (.istore 7, 2) := by decide +kernel
theorem dX6_lays_12 : decode cX6_lays 12 = .ok (.iload 7, 2) := by decide +kernel
theorem dX6_lays_14 : decode cX6_lays 14 = .ok (.iload 4, 2) := by decide +kernel
theorem dX6_lays_16 : decode cX6_lays 16 = .ok (.if_icmp .gt 26, 3) := by decide +kernel
theorem dX6_lays_19 : decode cX6_lays 19 = .ok (.aload_n 0, 1) := by decide +kernel
theorem dX6_lays_20 : decode cX6_lays 20 = .ok (.getfield 7, 3) := by decide +kernel
theorem dX6_lays_23 : decode cX6_lays 23 = .ok (.bipush 32, 2) := by decide +kernel
theorem dX6_lays_25 : decode cX6_lays 25 = .ok (.iload 6, 2) := by decide +kernel
theorem dX6_lays_27 : decode cX6_lays 27 = .ok (.iload 7, 2) := by decide +kernel
theorem dX6_lays_29 : decode cX6_lays 29 = .ok (.invokestatic 35, 3) := by decide +kernel
theorem dX6_lays_32 : decode cX6_lays 32 = .ok (.iadd, 1) := by decide +kernel
theorem dX6_lays_33 : decode cX6_lays 33 = .ok (.iload 5, 2) := by decide +kernel
theorem dX6_lays_35 : decode cX6_lays 35 = .ok (.iastore, 1) := by decide +kernel
theorem dX6_lays_36 : decode cX6_lays 36 = .ok (.iinc 7 1, 3) := by decide +kernel
theorem dX6_lays_39 : decode cX6_lays 39 = .ok (.goto (-27), 3) := by decide +kernel
theorem dX6_lays_42 : decode cX6_lays 42 = .ok (.iinc 6 1, 3) := by decide +kernel
theorem dX6_lays_45 : decode cX6_lays 45 = .ok (.goto (-42), 3) := by decide +kernel
theorem dX6_lays_48 : decode cX6_lays 48 = .ok (.return_, 1) := by decide +kernel
theorem dX6_lay_0 : decode cX6_lay 0 = .ok (.iload_n 1, 1) := by decide +kernel
theorem dX6_lay_1 : decode cX6_lay 1 = .ok (.invokestatic 78, 3) := by decide +kernel
theorem dX6_lay_4 : decode cX6_lay 4 = .ok (.ifCond .eq 41, 3) := by decide +kernel
theorem dX6_lay_7 : decode cX6_lay 7 = .ok (.iload_n 2, 1) := by decide +kernel
theorem dX6_lay_8 : decode cX6_lay 8 = .ok (.invokestatic 52, 3) := by decide +kernel
theorem dX6_lay_11 : decode cX6_lay 11 = .ok (.ifCond .eq 34, 3) := by decide +kernel
theorem dX6_lay_14 : decode cX6_lay 14 = .ok (.iload_n 3, 1) := by decide +kernel
theorem dX6_lay_15 : decode cX6_lay 15 = .ok (.iload_n 1, 1) := by decide +kernel
theorem dX6_lay_16 : decode cX6_lay 16 = .ok (.bipush 7, 2) := by decide +kernel
theorem dX6_lay_18 : decode cX6_lay 18 = .ok (.invokestatic 31, 3) := by decide +kernel
theorem dX6_lay_21 : decode cX6_lay 21 = .ok (.ifCond .eq 24, 3) := by decide +kernel
theorem dX6_lay_24 : decode cX6_lay 24 = .ok (.iload 4, 2) := by decide +kernel
theorem dX6_lay_26 : decode cX6_lay 26 = .ok (.iload_n 2, 1) := by decide +kernel
theorem dX6_lay_27 : decode cX6_lay 27 = .ok (.bipush 31, 2) := by decide +kernel
theorem dX6_lay_29 : decode cX6_lay 29 = .ok (.invokestatic 31, 3) := by decide +kernel
theorem dX6_lay_32 : decode cX6_lay 32 = .ok (.ifCond .eq 13, 3) := by decide +kernel
theorem dX6_lay_35 : decode cX6_lay 35 = .ok (.iload 5, 2) := by decide +kernel
theorem dX6_lay_37 : decode cX6_lay 37 = .ok (.iconst 0, 1) := by decide +kernel
theorem dX6_lay_38 : decode cX6_lay 38 = .ok (.iconst 4, 1) := by decide +kernel
theorem dX6_lay_39 : decode cX6_lay 39 = .ok (.invokestatic 31, 3) := by decide +kernel
theorem dX6_lay_42 : decode cX6_lay 42 = .ok (.ifCond .ne 5, 3) := by decide +kernel
theorem dX6_lay_45 : decode cX6_lay 45 = .ok (.iconst (-1), 1) := by decide +kernel
theorem dX6_lay_46 : decode cX6_lay 46 = .ok (.ireturn, 1) := by decide +kernel
theorem dX6_lay_47 : decode cX6_lay 47 = .ok (.aload_n 0, 1) := by decide +kernel
theorem dX6_lay_48 : decode cX6_lay 48 = .ok (.invokevirtual 81, 3) := by decide +kernel
theorem dX6_lay_51 : decode cX6_lay 51 = .ok (.aload_n 0, 1) := by decide +kernel
theorem dX6_lay_52 : decode cX6_lay 52 = .ok (.invokevirtual 84, 3) := by decide +kernel
theorem dX6_lay_55 : decode cX6_lay 55 = .ok (.aload_n 0, 1) := by decide +kernel
theorem dX6_lay_56 : decode cX6_lay 56 = .ok (.iload_n 1, 1) := by decide +kernel
theorem dX6_lay_57 : decode cX6_lay 57 = .ok (.iload_n 2, 1) := by decide +kernel
theorem dX6_lay_58 : decode cX6_lay 58 = .ok (.iload_n 3, 1) := by decide +kernel
theorem dX6_lay_59 : decode cX6_lay 59 = .ok (.iload 4, 2) := by decide +kernel
theorem dX6_lay_61 : decode cX6_lay 61 = .ok (.iload 5, 2) := by decide +kernel
theorem dX6_lay_63 : decode cX6_lay 63 = .ok (.invokevirtual 87, 3) := by decide +kernel
theorem dX6_lay_66 : decode cX6_lay 66 = .ok (.aload_n 0, 1) := by decide +kernel
theorem dX6_lay_67 : decode cX6_lay 67 = .ok (.bipush 32, 2) := by decide +kernel
theorem dX6_lay_69 : decode cX6_lay 69 = .ok (.invokevirtual 91, 3) := by decide +kernel
theorem dX6_lay_72 : decode cX6_lay 72 = .ok (.ireturn, 1) := by decide +kernel
theorem dX6_shift_0 : decode cX6_shift 0 = .ok (.iload_n 1, 1) := by decide +kernel
theorem dX6_shift_1 : decode cX6_shift 1 = .ok (.invokestatic 78, 3) := by decide +kernel
theorem dX6_shift_4 : decode cX6_shift 4 = .ok (.ifCond .eq 14, 3) := by decide +kernel
theorem dX6_shift_7 : decode cX6_shift 7 = .ok (.iload_n 2, 1) := by decide +kernel
theorem dX6_shift_8 : decode cX6_shift 8 = .ok (.bipush (-31), 2) := by decide +kernel
theorem dX6_shift_10 : decode cX6_shift 10 = .ok (.bipush 31, 2) := by decide +kernel
theorem dX6_shift_12 : decode cX6_shift 12 = .ok (.invokestatic 31, 3) := by decide +kernel
theorem dX6_shift_15 : decode cX6_shift 15 = .ok (.ifCond .ne 5, 3) := by decide +kernel
theorem dX6_shift_18 : decode cX6_shift 18 = .ok (.iconst (-1), 1) := by decide +kernel
theorem dX6_shift_19 : decode cX6_shift 19 = .ok (.ireturn, 1) := by decide +kernel
theorem dX6_shift_20 : decode cX6_shift 20 = .ok (.aload_n 0, 1) := by decide +kernel
theorem dX6_shift_21 : decode cX6_shift 21 = .ok (.invokevirtual 81, 3) := by decide +kernel
theorem dX6_shift_24 : decode cX6_shift 24 = .ok (.aload_n 0, 1) := by decide +kernel
theorem dX6_shift_25 : decode cX6_shift 25 = .ok (.invokevirtual 84, 3) := by decide +kernel
theorem dX6_shift_28 : decode cX6_shift 28 = .ok (.iconst 0, 1) := by decide +kernel
theorem dX6_shift_29 : decode cX6_shift 29 = .ok (.istore_n 3, 1) := by decide +kernel
theorem dX6_shift_30 : decode cX6_shift 30 = .ok (.iconst 0, 1) := by decide +kernel
theorem dX6_shift_31 : decode cX6_shift 31 = .ok (.istore 4, 2) := by decide +kernel
theorem dX6_shift_33 : decode cX6_shift 33 = .ok (.iload 4, 2) := by decide +kernel
theorem dX6_shift_35 : decode cX6_shift 35 = .ok (.bipush 32, 2) := by decide +kernel
theorem dX6_shift_37 : decode cX6_shift 37 = .ok (.if_icmp .ge 70, 3) := by decide +kernel
theorem dX6_shift_40 : decode cX6_shift 40 = .ok (.iload 4, 2) := by decide +kernel
theorem dX6_shift_42 : decode cX6_shift 42 = .ok (.iload_n 2, 1) := by decide +kernel
theorem dX6_shift_43 : decode cX6_shift 43 = .ok (.isub, 1) := by decide +kernel
theorem dX6_shift_44 : decode cX6_shift 44 = .ok (.invokestatic 52, 3) := by decide +kernel
theorem dX6_shift_47 : decode cX6_shift 47 = .ok (.ifCond .eq 22, 3) := by decide +kernel
theorem dX6_shift_50 : decode cX6_shift 50 = .ok (.aload_n 0, 1) := by decide +kernel
theorem dX6_shift_51 : decode cX6_shift 51 = .ok (.getfield 13, 3) := by decide +kernel
theorem dX6_shift_54 : decode cX6_shift 54 = .ok (.bipush 32, 2) := by decide +kernel
theorem dX6_shift_56 : decode cX6_shift 56 = .ok (.iload_n 1, 1) := by decide +kernel
theorem dX6_shift_57 : decode cX6_shift 57 = .ok (.iload 4, 2) := by decide +kernel
theorem dX6_shift_59 : decode cX6_shift 59 = .ok (.iload_n 2, 1) := by decide +kernel
theorem dX6_shift_60 : decode cX6_shift 60 = .ok (.isub, 1) := by decide +kernel
theorem dX6_shift_61 : decode cX6_shift 61 = .ok (.invokestatic 35, 3) := by decide +kernel
theorem dX6_shift_64 : decode cX6_shift 64 = .ok (.iadd, 1) := by decide +kernel
theorem dX6_shift_65 : decode cX6_shift 65 = .ok (.iaload, 1) := by decide +kernel
theorem dX6_shift_66 : decode cX6_shift 66 = .ok (.goto 4, 3) := by decide +kernel
theorem dX6_shift_69 : decode cX6_shift 69 = .ok (.iconst 0, 1) := by decide +kernel
theorem dX6_shift_70 : decode cX6_shift 70 = .ok (.istore 5, 2) := by decide +kernel
theorem dX6_shift_72 : decode cX6_shift 72 = .ok (.aload_n 0, 1) := by decide +kernel
theorem dX6_shift_73 : decode cX6_shift 73 = .ok (.getfield 7, 3) := by decide +kernel
theorem dX6_shift_76 : decode cX6_shift 76 = .ok (.bipush 32, 2) := by decide +kernel
theorem dX6_shift_78 : decode cX6_shift 78 = .ok (.iload_n 1, 1) := by decide +kernel
theorem dX6_shift_79 : decode cX6_shift 79 = .ok (.iload 4, 2) := by decide +kernel
theorem dX6_shift_81 : decode cX6_shift 81 = .ok (.invokestatic 35, 3) := by decide +kernel
theorem dX6_shift_84 : decode cX6_shift 84 = .ok (.iadd, 1) := by decide +kernel
theorem dX6_shift_85 : decode cX6_shift 85 = .ok (.iload 5, 2) := by decide +kernel
theorem dX6_shift_87 : decode cX6_shift 87 = .ok (.iastore, 1) := by decide +kernel
theorem dX6_shift_88 : decode cX6_shift 88 = .ok (.iload_n 3, 1) := by decide +kernel
theorem dX6_shift_89 : decode cX6_shift 89 = .ok (.iload 5, 2) := by decide +kernel
theorem dX6_shift_91 : decode cX6_shift 91 = .ok (.ifCond .le 7, 3) := by decide +kernel
theorem dX6_shift_94 : decode cX6_shift 94 = .ok (.iconst 1, 1) := by decide +kernel
theorem dX6_shift_95 : decode cX6_shift 95 = .ok (.goto 4, 3) := by decide +kernel
theorem dX6_shift_98 : decode cX6_shift 98 = .ok (.iconst 0, 1) := by decide +kernel
theorem dX6_shift_99 : decode cX6_shift 99 = .ok (.iadd, 1) := by decide +kernel
theorem dX6_shift_100 : decode cX6_shift 100 = .ok (.istore_n 3, 1) := by decide +kernel
theorem dX6_shift_101 : decode cX6_shift 101 = .ok (.iinc 4 1, 3) := by decide +kernel
theorem dX6_shift_104 : decode cX6_shift 104 = .ok (.goto (-71), 3) := by decide +kernel
theorem dX6_shift_107 : decode cX6_shift 107 = .ok (.iload_n 3, 1) := by decide +kernel
theorem dX6_shift_108 : decode cX6_shift 108 = .ok (.ireturn, 1) := by decide +kernel
theorem dX6_swap_0 : decode cX6_swap 0 = .ok (.iload_n 1, 1) := by decide +kernel
theorem dX6_swap_1 : decode cX6_swap 1 = .ok (.invokestatic 78, 3) := by decide +kernel
theorem dX6_swap_4 : decode cX6_swap 4 = .ok (.ifCond .eq 15, 3) := by decide +kernel
theorem dX6_swap_7 : decode cX6_swap 7 = .ok (.iload_n 2, 1) := by decide +kernel
theorem dX6_swap_8 : decode cX6_swap 8 = .ok (.invokestatic 78, 3) := by decide +kernel
theorem dX6_swap_11 : decode cX6_swap 11 = .ok (.ifCond .eq 8, 3) := by decide +kernel
theorem dX6_swap_14 : decode cX6_swap 14 = .ok (.iload_n 1, 1) := by decide +kernel
theorem dX6_swap_15 : decode cX6_swap 15 = .ok (.iload_n 2, 1) := by decide +kernel
theorem dX6_swap_16 : decode cX6_swap 16 = .ok (.if_icmp .ne 5, 3) := by decide +kernel
theorem dX6_swap_19 : decode cX6_swap 19 = .ok (.iconst (-1), 1) := by decide +kernel
theorem dX6_swap_20 : decode cX6_swap 20 = .ok (.ireturn, 1) := by decide +kernel
theorem dX6_swap_21 : decode cX6_swap 21 = .ok (.aload_n 0, 1) := by decide +kernel
theorem dX6_swap_22 : decode cX6_swap 22 = .ok (.invokevirtual 81, 3) := by decide +kernel
theorem dX6_swap_25 : decode cX6_swap 25 = .ok (.aload_n 0, 1) := by decide +kernel
theorem dX6_swap_26 : decode cX6_swap 26 = .ok (.invokevirtual 84, 3) := by decide +kernel
theorem dX6_swap_29 : decode cX6_swap 29 = .ok (.iconst 0, 1) := by decide +kernel
theorem dX6_swap_30 : decode cX6_swap 30 = .ok (.istore_n 3, 1) := by decide +kernel
theorem dX6_swap_31 : decode cX6_swap 31 = .ok (.iconst 0, 1) := by decide +kernel
theorem dX6_swap_32 : decode cX6_swap 32 = .ok (.istore 4, 2) := by decide +kernel
theorem dX6_swap_34 : decode cX6_swap 34 = .ok (.iload 4, 2) := by decide +kernel
theorem dX6_swap_36 : decode cX6_swap 36 = .ok (.bipush 32, 2) := by decide +kernel
theorem dX6_swap_38 : decode cX6_swap 38 = .ok (.if_icmp .ge 34, 3) := by decide +kernel
theorem dX6_swap_41 : decode cX6_swap 41 = .ok (.iload_n 3, 1) := by decide +kernel
theorem dX6_swap_42 : decode cX6_swap 42 = .ok (.aload_n 0, 1) := by decide +kernel
theorem dX6_swap_43 : decode cX6_swap 43 = .ok (.iload_n 1, 1) := by decide +kernel
theorem dX6_swap_44 : decode cX6_swap 44 = .ok (.iload 4, 2) := by decide +kernel
theorem dX6_swap_46 : decode cX6_swap 46 = .ok (.invokevirtual 43, 3) := by decide +kernel
theorem dX6_swap_49 : decode cX6_swap 49 = .ok (.aload_n 0, 1) := by decide +kernel
theorem dX6_swap_50 : decode cX6_swap 50 = .ok (.iload_n 2, 1) := by decide +kernel
theorem dX6_swap_51 : decode cX6_swap 51 = .ok (.iload 4, 2) := by decide +kernel
theorem dX6_swap_53 : decode cX6_swap 53 = .ok (.invokevirtual 43, 3) := by decide +kernel
theorem dX6_swap_56 : decode cX6_swap 56 = .ok (.if_icmp .eq 7, 3) := by decide +kernel
theorem dX6_swap_59 : decode cX6_swap 59 = .ok (.iconst 1, 1) := by decide +kernel
theorem dX6_swap_60 : decode cX6_swap 60 = .ok (.goto 4, 3) := by decide +kernel
theorem dX6_swap_63 : decode cX6_swap 63 = .ok (.iconst 0, 1) := by decide +kernel
theorem dX6_swap_64 : decode cX6_swap 64 = .ok (.iadd, 1) := by decide +kernel
theorem dX6_swap_65 : decode cX6_swap 65 = .ok (.istore_n 3, 1) := by decide +kernel
theorem dX6_swap_66 : decode cX6_swap 66 = .ok (.iinc 4 1, 3) := by decide +kernel
theorem dX6_swap_69 : decode cX6_swap 69 = .ok (.goto (-35), 3) := by decide +kernel
theorem dX6_swap_72 : decode cX6_swap 72 = .ok (.bipush 32, 2) := by decide +kernel
theorem dX6_swap_74 : decode cX6_swap 74 = .ok (.istore 4, 2) := by decide +kernel
theorem dX6_swap_76 : decode cX6_swap 76 = .ok (.iload 4, 2) := by decide +kernel
theorem dX6_swap_78 : decode cX6_swap 78 = .ok (.sipush 800, 3) := by decide +kernel
theorem dX6_swap_81 : decode cX6_swap 81 = .ok (.if_icmp .ge 84, 3) := by decide +kernel
theorem dX6_swap_84 : decode cX6_swap 84 = .ok (.iconst 0, 1) := by decide +kernel
theorem dX6_swap_85 : decode cX6_swap 85 = .ok (.istore 5, 2) := by decide +kernel
theorem dX6_swap_87 : decode cX6_swap 87 = .ok (.iload 5, 2) := by decide +kernel
theorem dX6_swap_89 : decode cX6_swap 89 = .ok (.bipush 32, 2) := by decide +kernel
theorem dX6_swap_91 : decode cX6_swap 91 = .ok (.if_icmp .ge 65, 3) := by decide +kernel
theorem dX6_swap_94 : decode cX6_swap 94 = .ok (.aload_n 0, 1) := by decide +kernel
theorem dX6_swap_95 : decode cX6_swap 95 = .ok (.getfield 7, 3) := by decide +kernel
theorem dX6_swap_98 : decode cX6_swap 98 = .ok (.iload 4, 2) := by decide +kernel
theorem dX6_swap_100 : decode cX6_swap 100 = .ok (.iload_n 1, 1) := by decide +kernel
theorem dX6_swap_101 : decode cX6_swap 101 = .ok (.iload 5, 2) := by decide +kernel
theorem dX6_swap_103 : decode cX6_swap 103 = .ok (.invokestatic 35, 3) := by decide +kernel
theorem dX6_swap_106 : decode cX6_swap 106 = .ok (.iadd, 1) := by decide +kernel
theorem dX6_swap_107 : decode cX6_swap 107 = .ok (.aload_n 0, 1) := by decide +kernel
theorem dX6_swap_108 : decode cX6_swap 108 = .ok (.getfield 13, 3) := by decide +kernel
theorem dX6_swap_111 : decode cX6_swap 111 = .ok (.iload 4, 2) := by decide +kernel
theorem dX6_swap_113 : decode cX6_swap 113 = .ok (.iload_n 2, 1) := by decide +kernel
theorem dX6_swap_114 : decode cX6_swap 114 = .ok (.iload 5, 2) := by decide +kernel
theorem dX6_swap_116 : decode cX6_swap 116 = .ok (.invokestatic 35, 3) := by decide +kernel
theorem dX6_swap_119 : decode cX6_swap 119 = .ok (.iadd, 1) := by decide +kernel
theorem dX6_swap_120 : decode cX6_swap 120 = .ok (.iaload, 1) := by decide +kernel
theorem dX6_swap_121 : decode cX6_swap 121 = .ok (.iastore, 1) := by decide +kernel
theorem dX6_swap_122 : decode cX6_swap 122 = .ok (.aload_n 0, 1) := by decide +kernel
theorem dX6_swap_123 : decode cX6_swap 123 = .ok (.getfield 7, 3) := by decide +kernel
theorem dX6_swap_126 : decode cX6_swap 126 = .ok (.iload 4, 2) := by decide +kernel
theorem dX6_swap_128 : decode cX6_swap 128 = .ok (.iload_n 2, 1) := by decide +kernel
theorem dX6_swap_129 : decode cX6_swap 129 = .ok (.iload 5, 2) := by decide +kernel
theorem dX6_swap_131 : decode cX6_swap 131 = .ok (.invokestatic 35, 3) := by decide +kernel
theorem dX6_swap_134 : decode cX6_swap 134 = .ok (.iadd, 1) := by decide +kernel
theorem dX6_swap_135 : decode cX6_swap 135 = .ok (.aload_n 0, 1) := by decide +kernel
theorem dX6_swap_136 : decode cX6_swap 136 = .ok (.getfield 13, 3) := by decide +kernel
theorem dX6_swap_139 : decode cX6_swap 139 = .ok (.iload 4, 2) := by decide +kernel
theorem dX6_swap_141 : decode cX6_swap 141 = .ok (.iload_n 1, 1) := by decide +kernel
theorem dX6_swap_142 : decode cX6_swap 142 = .ok (.iload 5, 2) := by decide +kernel
theorem dX6_swap_144 : decode cX6_swap 144 = .ok (.invokestatic 35, 3) := by decide +kernel
theorem dX6_swap_147 : decode cX6_swap 147 = .ok (.iadd, 1) := by decide +kernel
theorem dX6_swap_148 : decode cX6_swap 148 = .ok (.iaload, 1) := by decide +kernel
theorem dX6_swap_149 : decode cX6_swap 149 = .ok (.iastore, 1) := by decide +kernel
theorem dX6_swap_150 : decode cX6_swap 150 = .ok (.iinc 5 1, 3) := by decide +kernel
theorem dX6_swap_153 : decode cX6_swap 153 = .ok (.goto (-66), 3) := by decide +kernel
theorem dX6_swap_156 : decode cX6_swap 156 = .ok (.iinc 4 256, 6) := by decide +kernel
theorem dX6_swap_162 : decode cX6_swap 162 = .ok (.goto (-86), 3) := by decide +kernel
theorem dX6_swap_165 : decode cX6_swap 165 = .ok (.iload_n 3, 1) := by decide +kernel
theorem dX6_swap_166 : decode cX6_swap 166 = .ok (.ireturn, 1) := by decide +kernel
theorem dX6_turn_0 : decode cX6_turn 0 = .ok (.iload_n 1, 1) := by decide +kernel
theorem dX6_turn_1 : decode cX6_turn 1 = .ok (.invokestatic 78, 3) := by decide +kernel
theorem dX6_turn_4 : decode cX6_turn 4 = .ok (.ifCond .ne 5, 3) := by decide +kernel
theorem dX6_turn_7 : decode cX6_turn 7 = .ok (.iconst (-1), 1) := by decide +kernel
theorem dX6_turn_8 : decode cX6_turn 8 = .ok (.ireturn, 1) := by decide +kernel
theorem dX6_turn_9 : decode cX6_turn 9 = .ok (.aload_n 0, 1) := by decide +kernel
theorem dX6_turn_10 : decode cX6_turn 10 = .ok (.invokevirtual 81, 3) := by decide +kernel
theorem dX6_turn_13 : decode cX6_turn 13 = .ok (.aload_n 0, 1) := by decide +kernel
theorem dX6_turn_14 : decode cX6_turn 14 = .ok (.invokevirtual 84, 3) := by decide +kernel
theorem dX6_turn_17 : decode cX6_turn 17 = .ok (.bipush 32, 2) := by decide +kernel
theorem dX6_turn_19 : decode cX6_turn 19 = .ok (.istore_n 2, 1) := by decide +kernel
theorem dX6_turn_20 : decode cX6_turn 20 = .ok (.iload_n 2, 1) := by decide +kernel
theorem dX6_turn_21 : decode cX6_turn 21 = .ok (.sipush 800, 3) := by decide +kernel
theorem dX6_turn_24 : decode cX6_turn 24 = .ok (.if_icmp .ge 53, 3) := by decide +kernel
theorem dX6_turn_27 : decode cX6_turn 27 = .ok (.iconst 0, 1) := by decide +kernel
theorem dX6_turn_28 : decode cX6_turn 28 = .ok (.istore_n 3, 1) := by decide +kernel
theorem dX6_turn_29 : decode cX6_turn 29 = .ok (.iload_n 3, 1) := by decide +kernel
theorem dX6_turn_30 : decode cX6_turn 30 = .ok (.bipush 32, 2) := by decide +kernel
theorem dX6_turn_32 : decode cX6_turn 32 = .ok (.if_icmp .ge 36, 3) := by decide +kernel
theorem dX6_turn_35 : decode cX6_turn 35 = .ok (.aload_n 0, 1) := by decide +kernel
theorem dX6_turn_36 : decode cX6_turn 36 = .ok (.getfield 7, 3) := by decide +kernel
theorem dX6_turn_39 : decode cX6_turn 39 = .ok (.iload_n 2, 1) := by decide +kernel
theorem dX6_turn_40 : decode cX6_turn 40 = .ok (.iload_n 1, 1) := by decide +kernel
theorem dX6_turn_41 : decode cX6_turn 41 = .ok (.iload_n 3, 1) := by decide +kernel
theorem dX6_turn_42 : decode cX6_turn 42 = .ok (.invokestatic 35, 3) := by decide +kernel
theorem dX6_turn_45 : decode cX6_turn 45 = .ok (.iadd, 1) := by decide +kernel
theorem dX6_turn_46 : decode cX6_turn 46 = .ok (.aload_n 0, 1) := by decide +kernel
theorem dX6_turn_47 : decode cX6_turn 47 = .ok (.getfield 13, 3) := by decide +kernel
theorem dX6_turn_50 : decode cX6_turn 50 = .ok (.iload_n 2, 1) := by decide +kernel
theorem dX6_turn_51 : decode cX6_turn 51 = .ok (.iload_n 1, 1) := by decide +kernel
theorem dX6_turn_52 : decode cX6_turn 52 = .ok (.bipush 31, 2) := by decide +kernel
theorem dX6_turn_54 : decode cX6_turn 54 = .ok (.iload_n 3, 1) := by decide +kernel
theorem dX6_turn_55 : decode cX6_turn 55 = .ok (.isub, 1) := by decide +kernel
theorem dX6_turn_56 : decode cX6_turn 56 = .ok (.invokestatic 35, 3) := by decide +kernel
theorem dX6_turn_59 : decode cX6_turn 59 = .ok (.iadd, 1) := by decide +kernel
theorem dX6_turn_60 : decode cX6_turn 60 = .ok (.iaload, 1) := by decide +kernel
theorem dX6_turn_61 : decode cX6_turn 61 = .ok (.iastore, 1) := by decide +kernel
theorem dX6_turn_62 : decode cX6_turn 62 = .ok (.iinc 3 1, 3) := by decide +kernel
theorem dX6_turn_65 : decode cX6_turn 65 = .ok (.goto (-36), 3) := by decide +kernel
theorem dX6_turn_68 : decode cX6_turn 68 = .ok (.iinc 2 256, 6) := by decide +kernel
theorem dX6_turn_74 : decode cX6_turn 74 = .ok (.goto (-54), 3) := by decide +kernel
theorem dX6_turn_77 : decode cX6_turn 77 = .ok (.aload_n 0, 1) := by decide +kernel
theorem dX6_turn_78 : decode cX6_turn 78 = .ok (.iload_n 1, 1) := by decide +kernel
theorem dX6_turn_79 : decode cX6_turn 79 = .ok (.invokevirtual 74, 3) := by decide +kernel
theorem dX6_turn_82 : decode cX6_turn 82 = .ok (.ireturn, 1) := by decide +kernel
theorem dX6_prints_0 : decode cX6_prints 0 = .ok (.iconst 0, 1) := by decide +kernel
theorem dX6_prints_1 : decode cX6_prints 1 = .ok (.istore_n 2, 1) := by decide +kernel
theorem dX6_prints_2 : decode cX6_prints 2 = .ok (.iconst 0, 1) := by decide +kernel
theorem dX6_prints_3 : decode cX6_prints 3 = .ok (.istore_n 3, 1) := by decide +kernel
theorem dX6_prints_4 : decode cX6_prints 4 = .ok (.iload_n 3, 1) := by decide +kernel
theorem dX6_prints_5 : decode cX6_prints 5 = .ok (.bipush 32, 2) := by decide +kernel
theorem dX6_prints_7 : decode cX6_prints 7 = .ok (.if_icmp .ge 143, 3) := by decide +kernel
theorem dX6_prints_10 : decode cX6_prints 10 = .ok (.aload_n 0, 1) := by decide +kernel
theorem dX6_prints_11 : decode cX6_prints 11 = .ok (.iload_n 1, 1) := by decide +kernel
theorem dX6_prints_12 : decode cX6_prints 12 = .ok (.iload_n 3, 1) := by decide +kernel
theorem dX6_prints_13 : decode cX6_prints 13 = .ok (.invokevirtual 46, 3) := by decide +kernel
theorem dX6_prints_16 : decode cX6_prints 16 = .ok (.istore 4, 2) := by decide +kernel
theorem dX6_prints_18 : decode cX6_prints 18 = .ok (.iload 4, 2) := by decide +kernel
theorem dX6_prints_20 : decode cX6_prints 20 = .ok (.iconst (-1), 1) := by decide +kernel
theorem dX6_prints_21 : decode cX6_prints 21 = .ok (.if_icmp .eq 15, 3) := by decide +kernel
theorem dX6_prints_24 : decode cX6_prints 24 = .ok (.aload_n 0, 1) := by decide +kernel
theorem dX6_prints_25 : decode cX6_prints 25 = .ok (.iload_n 1, 1) := by decide +kernel
theorem dX6_prints_26 : decode cX6_prints 26 = .ok (.iload 4, 2) := by decide +kernel
theorem dX6_prints_28 : decode cX6_prints 28 = .ok (.invokevirtual 56, 3) := by decide +kernel
theorem dX6_prints_31 : decode cX6_prints 31 = .ok (.istore 5, 2) := by decide +kernel
theorem dX6_prints_33 : decode cX6_prints 33 = .ok (.goto 80, 3) := by decide +kernel
theorem dX6_prints_36 : decode cX6_prints 36 = .ok (.aload_n 0, 1) := by decide +kernel
theorem dX6_prints_37 : decode cX6_prints 37 = .ok (.getfield 7, 3) := by decide +kernel
theorem dX6_prints_40 : decode cX6_prints 40 = .ok (.bipush 7, 2) := by decide +kernel
theorem dX6_prints_42 : decode cX6_prints 42 = .ok (.iaload, 1) := by decide +kernel
theorem dX6_prints_43 : decode cX6_prints 43 = .ok (.ifCond .le 28, 3) := by decide +kernel
theorem dX6_prints_46 : decode cX6_prints 46 = .ok (.aload_n 0, 1) := by decide +kernel
theorem dX6_prints_47 : decode cX6_prints 47 = .ok (.getfield 7, 3) := by decide +kernel
theorem dX6_prints_50 : decode cX6_prints 50 = .ok (.bipush 8, 2) := by decide +kernel
theorem dX6_prints_52 : decode cX6_prints 52 = .ok (.iload_n 2, 1) := by decide +kernel
theorem dX6_prints_53 : decode cX6_prints 53 = .ok (.aload_n 0, 1) := by decide +kernel
theorem dX6_prints_54 : decode cX6_prints 54 = .ok (.getfield 7, 3) := by decide +kernel
theorem dX6_prints_57 : decode cX6_prints 57 = .ok (.bipush 7, 2) := by decide +kernel
theorem dX6_prints_59 : decode cX6_prints 59 = .ok (.iaload, 1) := by decide +kernel
theorem dX6_prints_60 : decode cX6_prints 60 = .ok (.irem, 1) := by decide +kernel
theorem dX6_prints_61 : decode cX6_prints 61 = .ok (.iadd, 1) := by decide +kernel
theorem dX6_prints_62 : decode cX6_prints 62 = .ok (.iaload, 1) := by decide +kernel
theorem dX6_prints_63 : decode cX6_prints 63 = .ok (.istore 5, 2) := by decide +kernel
theorem dX6_prints_65 : decode cX6_prints 65 = .ok (.iinc 2 1, 3) := by decide +kernel
theorem dX6_prints_68 : decode cX6_prints 68 = .ok (.goto 45, 3) := by decide +kernel
theorem dX6_prints_71 : decode cX6_prints 71 = .ok (.aload_n 0, 1) := by decide +kernel
theorem dX6_prints_72 : decode cX6_prints 72 = .ok (.getfield 7, 3) := by decide +kernel
theorem dX6_prints_75 : decode cX6_prints 75 = .ok (.bipush 6, 2) := by decide +kernel
theorem dX6_prints_77 : decode cX6_prints 77 = .ok (.sipush 421, 3) := by decide +kernel
theorem dX6_prints_80 : decode cX6_prints 80 = .ok (.aload_n 0, 1) := by decide +kernel
theorem dX6_prints_81 : decode cX6_prints 81 = .ok (.getfield 7, 3) := by decide +kernel
theorem dX6_prints_84 : decode cX6_prints 84 = .ok (.bipush 6, 2) := by decide +kernel
theorem dX6_prints_86 : decode cX6_prints 86 = .ok (.iaload, 1) := by decide +kernel
theorem dX6_prints_87 : decode cX6_prints 87 = .ok (.imul, 1) := by decide +kernel
theorem dX6_prints_88 : decode cX6_prints 88 = .ok (.sipush 1663, 3) := by decide +kernel
theorem dX6_prints_91 : decode cX6_prints 91 = .ok (.iadd, 1) := by decide +kernel
theorem dX6_prints_92 : decode cX6_prints 92 = .ok (.sipush 10000, 3) := by decide +kernel
theorem dX6_prints_95 : decode cX6_prints 95 = .ok (.irem, 1) := by decide +kernel
theorem dX6_prints_96 : decode cX6_prints 96 = .ok (.iastore, 1) := by decide +kernel
theorem dX6_prints_97 : decode cX6_prints 97 = .ok (.aload_n 0, 1) := by decide +kernel
theorem dX6_prints_98 : decode cX6_prints 98 = .ok (.getfield 7, 3) := by decide +kernel
theorem dX6_prints_101 : decode cX6_prints 101 = .ok (.bipush 6, 2) := by decide +kernel
theorem dX6_prints_103 : decode cX6_prints 103 = .ok (.iaload, 1) := by decide +kernel
theorem dX6_prints_104 : decode cX6_prints 104 = .ok (.aload_n 0, 1) := by decide +kernel
theorem dX6_prints_105 : decode cX6_prints 105 = .ok (.getfield 7, 3) := by decide +kernel
theorem dX6_prints_108 : decode cX6_prints 108 = .ok (.iconst 1, 1) := by decide +kernel
theorem dX6_prints_109 : decode cX6_prints 109 = .ok (.iaload, 1) := by decide +kernel
theorem dX6_prints_110 : decode cX6_prints 110 = .ok (.irem, 1) := by decide +kernel
theorem dX6_prints_111 : decode cX6_prints 111 = .ok (.istore 5, 2) := by decide +kernel
theorem dX6_prints_113 : decode cX6_prints 113 = .ok (.aload_n 0, 1) := by decide +kernel
theorem dX6_prints_114 : decode cX6_prints 114 = .ok (.getfield 7, 3) := by decide +kernel
theorem dX6_prints_117 : decode cX6_prints 117 = .ok (.sipush 288, 3) := by decide +kernel
theorem dX6_prints_120 : decode cX6_prints 120 = .ok (.iload_n 1, 1) := by decide +kernel
theorem dX6_prints_121 : decode cX6_prints 121 = .ok (.iload_n 3, 1) := by decide +kernel
theorem dX6_prints_122 : decode cX6_prints 122 = .ok (.invokestatic 35, 3) := by decide +kernel
theorem dX6_prints_125 : decode cX6_prints 125 = .ok (.iadd, 1) := by decide +kernel
theorem dX6_prints_126 : decode cX6_prints 126 = .ok (.iload 5, 2) := by decide +kernel
theorem dX6_prints_128 : decode cX6_prints 128 = .ok (.iastore, 1) := by decide +kernel
theorem dX6_prints_129 : decode cX6_prints 129 = .ok (.aload_n 0, 1) := by decide +kernel
theorem dX6_prints_130 : decode cX6_prints 130 = .ok (.getfield 7, 3) := by decide +kernel
theorem dX6_prints_133 : decode cX6_prints 133 = .ok (.sipush 544, 3) := by decide +kernel
theorem dX6_prints_136 : decode cX6_prints 136 = .ok (.iload_n 1, 1) := by decide +kernel
theorem dX6_prints_137 : decode cX6_prints 137 = .ok (.iload_n 3, 1) := by decide +kernel
theorem dX6_prints_138 : decode cX6_prints 138 = .ok (.invokestatic 35, 3) := by decide +kernel
theorem dX6_prints_141 : decode cX6_prints 141 = .ok (.iadd, 1) := by decide +kernel
theorem dX6_prints_142 : decode cX6_prints 142 = .ok (.iconst 0, 1) := by decide +kernel
theorem dX6_prints_143 : decode cX6_prints 143 = .ok (.iastore, 1) := by decide +kernel
theorem dX6_prints_144 : decode cX6_prints 144 = .ok (.iinc 3 1, 3) := by decide +kernel
theorem dX6_prints_147 : decode cX6_prints 147 = .ok (.goto (-143), 3) := by decide +kernel
theorem dX6_prints_150 : decode cX6_prints 150 = .ok (.return_, 1) := by decide +kernel
theorem dX6_print_0 : decode cX6_print 0 = .ok (.iload_n 1, 1) := by decide +kernel
theorem dX6_print_1 : decode cX6_print 1 = .ok (.invokestatic 78, 3) := by decide +kernel
theorem dX6_print_4 : decode cX6_print 4 = .ok (.ifCond .ne 5, 3) := by decide +kernel
theorem dX6_print_7 : decode cX6_print 7 = .ok (.iconst (-1), 1) := by decide +kernel
theorem dX6_print_8 : decode cX6_print 8 = .ok (.ireturn, 1) := by decide +kernel
theorem dX6_print_9 : decode cX6_print 9 = .ok (.aload_n 0, 1) := by decide +kernel
theorem dX6_print_10 : decode cX6_print 10 = .ok (.invokevirtual 81, 3) := by decide +kernel
theorem dX6_print_13 : decode cX6_print 13 = .ok (.aload_n 0, 1) := by decide +kernel
theorem dX6_print_14 : decode cX6_print 14 = .ok (.invokevirtual 84, 3) := by decide +kernel
theorem dX6_print_17 : decode cX6_print 17 = .ok (.aload_n 0, 1) := by decide +kernel
theorem dX6_print_18 : decode cX6_print 18 = .ok (.iload_n 1, 1) := by decide +kernel
theorem dX6_print_19 : decode cX6_print 19 = .ok (.invokevirtual 94, 3) := by decide +kernel
theorem dX6_print_22 : decode cX6_print 22 = .ok (.aload_n 0, 1) := by decide +kernel
theorem dX6_print_23 : decode cX6_print 23 = .ok (.sipush 288, 3) := by decide +kernel
theorem dX6_print_26 : decode cX6_print 26 = .ok (.invokevirtual 91, 3) := by decide +kernel
theorem dX6_print_29 : decode cX6_print 29 = .ok (.ireturn, 1) := by decide +kernel
theorem dX6_printAll_0 : decode cX6_printAll 0 = .ok (.aload_n 0, 1) := by decide +kernel
theorem dX6_printAll_1 : decode cX6_printAll 1 = .ok (.invokevirtual 81, 3) := by decide +kernel
theorem dX6_printAll_4 : decode cX6_printAll 4 = .ok (.aload_n 0, 1) := by decide +kernel
theorem dX6_printAll_5 : decode cX6_printAll 5 = .ok (.invokevirtual 84, 3) := by decide +kernel
theorem dX6_printAll_8 : decode cX6_printAll 8 = .ok (.iconst 0, 1) := by decide +kernel
theorem dX6_printAll_9 : decode cX6_printAll 9 = .ok (.istore_n 1, 1) := by decide +kernel
theorem dX6_printAll_10 : decode cX6_printAll 10 = .ok (.iload_n 1, 1) := by decide +kernel
theorem dX6_printAll_11 : decode cX6_printAll 11 = .ok (.bipush 8, 2) := by decide +kernel
theorem dX6_printAll_13 : decode cX6_printAll 13 = .ok (.if_icmp .ge 14, 3) := by decide +kernel
theorem dX6_printAll_16 : decode cX6_printAll 16 = .ok (.aload_n 0, 1) := by decide +kernel
theorem dX6_printAll_17 : decode cX6_printAll 17 = .ok (.iload_n 1, 1) := by decide +kernel
theorem dX6_printAll_18 : decode cX6_printAll 18 = .ok (.invokevirtual 94, 3) := by decide +kernel
theorem dX6_printAll_21 : decode cX6_printAll 21 = .ok (.iinc 1 1, 3) := by decide +kernel
theorem dX6_printAll_24 : decode cX6_printAll 24 = .ok (.goto (-14), 3) := by decide +kernel
theorem dX6_printAll_27 : decode cX6_printAll 27 = .ok (.aload_n 0, 1) := by decide +kernel
theorem dX6_printAll_28 : decode cX6_printAll 28 = .ok (.sipush 288, 3) := by decide +kernel
theorem dX6_printAll_31 : decode cX6_printAll 31 = .ok (.invokevirtual 91, 3) := by decide +kernel
theorem dX6_printAll_34 : decode cX6_printAll 34 = .ok (.ireturn, 1) := by decide +kernel
theorem dX6_paint_0 : decode cX6_paint 0 = .ok (.iload_n 1, 1) := by decide +kernel
theorem dX6_paint_1 : decode cX6_paint 1 = .ok (.invokestatic 78, 3) := by decide +kernel
theorem dX6_paint_4 : decode cX6_paint 4 = .ok (.ifCond .eq 20, 3) := by decide +kernel
theorem dX6_paint_7 : decode cX6_paint 7 = .ok (.iload_n 2, 1) := by decide +kernel
theorem dX6_paint_8 : decode cX6_paint 8 = .ok (.invokestatic 52, 3) := by decide +kernel
theorem dX6_paint_11 : decode cX6_paint 11 = .ok (.ifCond .eq 13, 3) := by decide +kernel
theorem dX6_paint_14 : decode cX6_paint 14 = .ok (.iload_n 3, 1) := by decide +kernel
theorem dX6_paint_15 : decode cX6_paint 15 = .ok (.iconst 0, 1) := by decide +kernel
theorem dX6_paint_16 : decode cX6_paint 16 = .ok (.bipush 7, 2) := by decide +kernel
theorem dX6_paint_18 : decode cX6_paint 18 = .ok (.invokestatic 31, 3) := by decide +kernel
theorem dX6_paint_21 : decode cX6_paint 21 = .ok (.ifCond .ne 5, 3) := by decide +kernel
theorem dX6_paint_24 : decode cX6_paint 24 = .ok (.iconst (-1), 1) := by decide +kernel
theorem dX6_paint_25 : decode cX6_paint 25 = .ok (.ireturn, 1) := by decide +kernel
theorem dX6_paint_26 : decode cX6_paint 26 = .ok (.aload_n 0, 1) := by decide +kernel
theorem dX6_paint_27 : decode cX6_paint 27 = .ok (.invokevirtual 81, 3) := by decide +kernel
theorem dX6_paint_30 : decode cX6_paint 30 = .ok (.aload_n 0, 1) := by decide +kernel
theorem dX6_paint_31 : decode cX6_paint 31 = .ok (.iload_n 1, 1) := by decide +kernel
theorem dX6_paint_32 : decode cX6_paint 32 = .ok (.iload_n 2, 1) := by decide +kernel
theorem dX6_paint_33 : decode cX6_paint 33 = .ok (.invokevirtual 56, 3) := by decide +kernel
theorem dX6_paint_36 : decode cX6_paint 36 = .ok (.istore 4, 2) := by decide +kernel
theorem dX6_paint_38 : decode cX6_paint 38 = .ok (.sipush 544, 3) := by decide +kernel
theorem dX6_paint_41 : decode cX6_paint 41 = .ok (.iload_n 1, 1) := by decide +kernel
theorem dX6_paint_42 : decode cX6_paint 42 = .ok (.iload_n 2, 1) := by decide +kernel
theorem dX6_paint_43 : decode cX6_paint 43 = .ok (.invokestatic 35, 3) := by decide +kernel
theorem dX6_paint_46 : decode cX6_paint 46 = .ok (.iadd, 1) := by decide +kernel
theorem dX6_paint_47 : decode cX6_paint 47 = .ok (.istore 5, 2) := by decide +kernel
theorem dX6_paint_49 : decode cX6_paint 49 = .ok (.aload_n 0, 1) := by decide +kernel
theorem dX6_paint_50 : decode cX6_paint 50 = .ok (.getfield 7, 3) := by decide +kernel
theorem dX6_paint_53 : decode cX6_paint 53 = .ok (.iload 5, 2) := by decide +kernel
theorem dX6_paint_55 : decode cX6_paint 55 = .ok (.aload_n 0, 1) := by decide +kernel
theorem dX6_paint_56 : decode cX6_paint 56 = .ok (.getfield 7, 3) := by decide +kernel
theorem dX6_paint_59 : decode cX6_paint 59 = .ok (.iload 5, 2) := by decide +kernel
theorem dX6_paint_61 : decode cX6_paint 61 = .ok (.iaload, 1) := by decide +kernel
theorem dX6_paint_62 : decode cX6_paint 62 = .ok (.ifCond .ne 10, 3) := by decide +kernel
theorem dX6_paint_65 : decode cX6_paint 65 = .ok (.iload 4, 2) := by decide +kernel
theorem dX6_paint_67 : decode cX6_paint 67 = .ok (.iconst 1, 1) := by decide +kernel
theorem dX6_paint_68 : decode cX6_paint 68 = .ok (.iadd, 1) := by decide +kernel
theorem dX6_paint_69 : decode cX6_paint 69 = .ok (.goto 10, 3) := by decide +kernel
theorem dX6_paint_72 : decode cX6_paint 72 = .ok (.aload_n 0, 1) := by decide +kernel
theorem dX6_paint_73 : decode cX6_paint 73 = .ok (.getfield 7, 3) := by decide +kernel
theorem dX6_paint_76 : decode cX6_paint 76 = .ok (.iload 5, 2) := by decide +kernel
theorem dX6_paint_78 : decode cX6_paint 78 = .ok (.iaload, 1) := by decide +kernel
theorem dX6_paint_79 : decode cX6_paint 79 = .ok (.iastore, 1) := by decide +kernel
theorem dX6_paint_80 : decode cX6_paint 80 = .ok (.aload_n 0, 1) := by decide +kernel
theorem dX6_paint_81 : decode cX6_paint 81 = .ok (.getfield 7, 3) := by decide +kernel
theorem dX6_paint_84 : decode cX6_paint 84 = .ok (.sipush 288, 3) := by decide +kernel
theorem dX6_paint_87 : decode cX6_paint 87 = .ok (.iload_n 1, 1) := by decide +kernel
theorem dX6_paint_88 : decode cX6_paint 88 = .ok (.iload_n 2, 1) := by decide +kernel
theorem dX6_paint_89 : decode cX6_paint 89 = .ok (.invokestatic 35, 3) := by decide +kernel
theorem dX6_paint_92 : decode cX6_paint 92 = .ok (.iadd, 1) := by decide +kernel
theorem dX6_paint_93 : decode cX6_paint 93 = .ok (.iload_n 3, 1) := by decide +kernel
theorem dX6_paint_94 : decode cX6_paint 94 = .ok (.iastore, 1) := by decide +kernel
theorem dX6_paint_95 : decode cX6_paint 95 = .ok (.iload 4, 2) := by decide +kernel
theorem dX6_paint_97 : decode cX6_paint 97 = .ok (.ireturn, 1) := by decide +kernel
theorem dX6_wipe_0 : decode cX6_wipe 0 = .ok (.iload_n 1, 1) := by decide +kernel
theorem dX6_wipe_1 : decode cX6_wipe 1 = .ok (.invokestatic 78, 3) := by decide +kernel
theorem dX6_wipe_4 : decode cX6_wipe 4 = .ok (.ifCond .ne 5, 3) := by decide +kernel
theorem dX6_wipe_7 : decode cX6_wipe 7 = .ok (.iconst (-1), 1) := by decide +kernel
theorem dX6_wipe_8 : decode cX6_wipe 8 = .ok (.ireturn, 1) := by decide +kernel
theorem dX6_wipe_9 : decode cX6_wipe 9 = .ok (.aload_n 0, 1) := by decide +kernel
theorem dX6_wipe_10 : decode cX6_wipe 10 = .ok (.invokevirtual 81, 3) := by decide +kernel
theorem dX6_wipe_13 : decode cX6_wipe 13 = .ok (.iconst 0, 1) := by decide +kernel
theorem dX6_wipe_14 : decode cX6_wipe 14 = .ok (.istore_n 2, 1) := by decide +kernel
theorem dX6_wipe_15 : decode cX6_wipe 15 = .ok (.iconst 0, 1) := by decide +kernel
theorem dX6_wipe_16 : decode cX6_wipe 16 = .ok (.istore_n 3, 1) := by decide +kernel
theorem dX6_wipe_17 : decode cX6_wipe 17 = .ok (.iload_n 3, 1) := by decide +kernel
theorem dX6_wipe_18 : decode cX6_wipe 18 = .ok (.bipush 32, 2) := by decide +kernel
theorem dX6_wipe_20 : decode cX6_wipe 20 = .ok (.if_icmp .ge 66, 3) := by decide +kernel
theorem dX6_wipe_23 : decode cX6_wipe 23 = .ok (.aload_n 0, 1) := by decide +kernel
theorem dX6_wipe_24 : decode cX6_wipe 24 = .ok (.getfield 7, 3) := by decide +kernel
theorem dX6_wipe_27 : decode cX6_wipe 27 = .ok (.sipush 544, 3) := by decide +kernel
theorem dX6_wipe_30 : decode cX6_wipe 30 = .ok (.iload_n 1, 1) := by decide +kernel
theorem dX6_wipe_31 : decode cX6_wipe 31 = .ok (.iload_n 3, 1) := by decide +kernel
theorem dX6_wipe_32 : decode cX6_wipe 32 = .ok (.invokestatic 35, 3) := by decide +kernel
theorem dX6_wipe_35 : decode cX6_wipe 35 = .ok (.iadd, 1) := by decide +kernel
theorem dX6_wipe_36 : decode cX6_wipe 36 = .ok (.iaload, 1) := by decide +kernel
theorem dX6_wipe_37 : decode cX6_wipe 37 = .ok (.istore 4, 2) := by decide +kernel
theorem dX6_wipe_39 : decode cX6_wipe 39 = .ok (.iload 4, 2) := by decide +kernel
theorem dX6_wipe_41 : decode cX6_wipe 41 = .ok (.ifCond .le 39, 3) := by decide +kernel
theorem dX6_wipe_44 : decode cX6_wipe 44 = .ok (.aload_n 0, 1) := by decide +kernel
theorem dX6_wipe_45 : decode cX6_wipe 45 = .ok (.getfield 7, 3) := by decide +kernel
theorem dX6_wipe_48 : decode cX6_wipe 48 = .ok (.sipush 288, 3) := by decide +kernel
theorem dX6_wipe_51 : decode cX6_wipe 51 = .ok (.iload_n 1, 1) := by decide +kernel
theorem dX6_wipe_52 : decode cX6_wipe 52 = .ok (.iload_n 3, 1) := by decide +kernel
theorem dX6_wipe_53 : decode cX6_wipe 53 = .ok (.invokestatic 35, 3) := by decide +kernel
theorem dX6_wipe_56 : decode cX6_wipe 56 = .ok (.iadd, 1) := by decide +kernel
theorem dX6_wipe_57 : decode cX6_wipe 57 = .ok (.iload 4, 2) := by decide +kernel
theorem dX6_wipe_59 : decode cX6_wipe 59 = .ok (.iconst 1, 1) := by decide +kernel
theorem dX6_wipe_60 : decode cX6_wipe 60 = .ok (.isub, 1) := by decide +kernel
theorem dX6_wipe_61 : decode cX6_wipe 61 = .ok (.iastore, 1) := by decide +kernel
theorem dX6_wipe_62 : decode cX6_wipe 62 = .ok (.aload_n 0, 1) := by decide +kernel
theorem dX6_wipe_63 : decode cX6_wipe 63 = .ok (.getfield 7, 3) := by decide +kernel
theorem dX6_wipe_66 : decode cX6_wipe 66 = .ok (.sipush 544, 3) := by decide +kernel
theorem dX6_wipe_69 : decode cX6_wipe 69 = .ok (.iload_n 1, 1) := by decide +kernel
theorem dX6_wipe_70 : decode cX6_wipe 70 = .ok (.iload_n 3, 1) := by decide +kernel
theorem dX6_wipe_71 : decode cX6_wipe 71 = .ok (.invokestatic 35, 3) := by decide +kernel
theorem dX6_wipe_74 : decode cX6_wipe 74 = .ok (.iadd, 1) := by decide +kernel
theorem dX6_wipe_75 : decode cX6_wipe 75 = .ok (.iconst 0, 1) := by decide +kernel
theorem dX6_wipe_76 : decode cX6_wipe 76 = .ok (.iastore, 1) := by decide +kernel
theorem dX6_wipe_77 : decode cX6_wipe 77 = .ok (.iinc 2 1, 3) := by decide +kernel
theorem dX6_wipe_80 : decode cX6_wipe 80 = .ok (.iinc 3 1, 3) := by decide +kernel
theorem dX6_wipe_83 : decode cX6_wipe 83 = .ok (.goto (-66), 3) := by decide +kernel
theorem dX6_wipe_86 : decode cX6_wipe 86 = .ok (.iload_n 2, 1) := by decide +kernel
theorem dX6_wipe_87 : decode cX6_wipe 87 = .ok (.ireturn, 1) := by decide +kernel
theorem dX6_leastOf_0 : decode cX6_leastOf 0 = .ok (.iload_n 0, 1) := by decide +kernel
theorem dX6_leastOf_1 : decode cX6_leastOf 1 = .ok (.tableswitch 50 0 5 #[39, 42, 50, 50, 44, 47], 39) := by decide +kernel
theorem dX6_leastOf_40 : decode cX6_leastOf 40 = .ok (.bipush 6, 2) := by decide +kernel
theorem dX6_leastOf_42 : decode cX6_leastOf 42 = .ok (.ireturn, 1) := by decide +kernel
theorem dX6_leastOf_43 : decode cX6_leastOf 43 = .ok (.iconst 2, 1) := by decide +kernel
theorem dX6_leastOf_44 : decode cX6_leastOf 44 = .ok (.ireturn, 1) := by decide +kernel
theorem dX6_leastOf_45 : decode cX6_leastOf 45 = .ok (.bipush 20, 2) := by decide +kernel
theorem dX6_leastOf_47 : decode cX6_leastOf 47 = .ok (.ireturn, 1) := by decide +kernel
theorem dX6_leastOf_48 : decode cX6_leastOf 48 = .ok (.bipush 10, 2) := by decide +kernel
theorem dX6_leastOf_50 : decode cX6_leastOf 50 = .ok (.ireturn, 1) := by decide +kernel
theorem dX6_leastOf_51 : decode cX6_leastOf 51 = .ok (.iconst 0, 1) := by decide +kernel
theorem dX6_leastOf_52 : decode cX6_leastOf 52 = .ok (.ireturn, 1) := by decide +kernel
theorem dX6_mostOf_0 : decode cX6_mostOf 0 = .ok (.iload_n 0, 1) := by decide +kernel
theorem dX6_mostOf_1 : decode cX6_mostOf 1 = .ok (.tableswitch 48 0 4 #[35, 38, 41, 43, 45], 35) := by decide +kernel
theorem dX6_mostOf_36 : decode cX6_mostOf 36 = .ok (.bipush 16, 2) := by decide +kernel
theorem dX6_mostOf_38 : decode cX6_mostOf 38 = .ok (.ireturn, 1) := by decide +kernel
theorem dX6_mostOf_39 : decode cX6_mostOf 39 = .ok (.bipush 8, 2) := by decide +kernel
theorem dX6_mostOf_41 : decode cX6_mostOf 41 = .ok (.ireturn, 1) := by decide +kernel
theorem dX6_mostOf_42 : decode cX6_mostOf 42 = .ok (.iconst 3, 1) := by decide +kernel
theorem dX6_mostOf_43 : decode cX6_mostOf 43 = .ok (.ireturn, 1) := by decide +kernel
theorem dX6_mostOf_44 : decode cX6_mostOf 44 = .ok (.iconst 1, 1) := by decide +kernel
theorem dX6_mostOf_45 : decode cX6_mostOf 45 = .ok (.ireturn, 1) := by decide +kernel
theorem dX6_mostOf_46 : decode cX6_mostOf 46 = .ok (.bipush 99, 2) := by decide +kernel
theorem dX6_mostOf_48 : decode cX6_mostOf 48 = .ok (.ireturn, 1) := by decide +kernel
theorem dX6_mostOf_49 : decode cX6_mostOf 49 = .ok (.sipush 400, 3) := by decide +kernel
theorem dX6_mostOf_52 : decode cX6_mostOf 52 = .ok (.ireturn, 1) := by decide +kernel
theorem dX6_set_0 : decode cX6_set 0 = .ok (.iload_n 1, 1) := by decide +kernel
theorem dX6_set_1 : decode cX6_set 1 = .ok (.iconst 0, 1) := by decide +kernel
theorem dX6_set_2 : decode cX6_set 2 = .ok (.iconst 5, 1) := by decide +kernel
theorem dX6_set_3 : decode cX6_set 3 = .ok (.invokestatic 31, 3) := by decide +kernel
theorem dX6_set_6 : decode cX6_set 6 = .ok (.ifCond .eq 18, 3) := by decide +kernel
theorem dX6_set_9 : decode cX6_set 9 = .ok (.iload_n 2, 1) := by decide +kernel
theorem dX6_set_10 : decode cX6_set 10 = .ok (.iload_n 1, 1) := by decide +kernel
theorem dX6_set_11 : decode cX6_set 11 = .ok (.invokestatic 97, 3) := by decide +kernel
theorem dX6_set_14 : decode cX6_set 14 = .ok (.iload_n 1, 1) := by decide +kernel
theorem dX6_set_15 : decode cX6_set 15 = .ok (.invokestatic 100, 3) := by decide +kernel
theorem dX6_set_18 : decode cX6_set 18 = .ok (.invokestatic 31, 3) := by decide +kernel
theorem dX6_set_21 : decode cX6_set 21 = .ok (.ifCond .ne 5, 3) := by decide +kernel
theorem dX6_set_24 : decode cX6_set 24 = .ok (.iconst (-1), 1) := by decide +kernel
theorem dX6_set_25 : decode cX6_set 25 = .ok (.ireturn, 1) := by decide +kernel
theorem dX6_set_26 : decode cX6_set 26 = .ok (.aload_n 0, 1) := by decide +kernel
theorem dX6_set_27 : decode cX6_set 27 = .ok (.invokevirtual 81, 3) := by decide +kernel
theorem dX6_set_30 : decode cX6_set 30 = .ok (.aload_n 0, 1) := by decide +kernel
theorem dX6_set_31 : decode cX6_set 31 = .ok (.getfield 7, 3) := by decide +kernel
theorem dX6_set_34 : decode cX6_set 34 = .ok (.iload_n 1, 1) := by decide +kernel
theorem dX6_set_35 : decode cX6_set 35 = .ok (.iaload, 1) := by decide +kernel
theorem dX6_set_36 : decode cX6_set 36 = .ok (.istore_n 3, 1) := by decide +kernel
theorem dX6_set_37 : decode cX6_set 37 = .ok (.aload_n 0, 1) := by decide +kernel
theorem dX6_set_38 : decode cX6_set 38 = .ok (.getfield 7, 3) := by decide +kernel
theorem dX6_set_41 : decode cX6_set 41 = .ok (.iload_n 1, 1) := by decide +kernel
theorem dX6_set_42 : decode cX6_set 42 = .ok (.iload_n 2, 1) := by decide +kernel
theorem dX6_set_43 : decode cX6_set 43 = .ok (.iastore, 1) := by decide +kernel
theorem dX6_set_44 : decode cX6_set 44 = .ok (.iload_n 3, 1) := by decide +kernel
theorem dX6_set_45 : decode cX6_set 45 = .ok (.ireturn, 1) := by decide +kernel
theorem dX6_lot_0 : decode cX6_lot 0 = .ok (.iload_n 1, 1) := by decide +kernel
theorem dX6_lot_1 : decode cX6_lot 1 = .ok (.iconst 0, 1) := by decide +kernel
theorem dX6_lot_2 : decode cX6_lot 2 = .ok (.sipush 9999, 3) := by decide +kernel
theorem dX6_lot_5 : decode cX6_lot 5 = .ok (.invokestatic 31, 3) := by decide +kernel
theorem dX6_lot_8 : decode cX6_lot 8 = .ok (.ifCond .ne 5, 3) := by decide +kernel
theorem dX6_lot_11 : decode cX6_lot 11 = .ok (.iconst (-1), 1) := by decide +kernel
theorem dX6_lot_12 : decode cX6_lot 12 = .ok (.ireturn, 1) := by decide +kernel
theorem dX6_lot_13 : decode cX6_lot 13 = .ok (.aload_n 0, 1) := by decide +kernel
theorem dX6_lot_14 : decode cX6_lot 14 = .ok (.invokevirtual 81, 3) := by decide +kernel
theorem dX6_lot_17 : decode cX6_lot 17 = .ok (.aload_n 0, 1) := by decide +kernel
theorem dX6_lot_18 : decode cX6_lot 18 = .ok (.getfield 7, 3) := by decide +kernel
theorem dX6_lot_21 : decode cX6_lot 21 = .ok (.bipush 6, 2) := by decide +kernel
theorem dX6_lot_23 : decode cX6_lot 23 = .ok (.iaload, 1) := by decide +kernel
theorem dX6_lot_24 : decode cX6_lot 24 = .ok (.istore_n 2, 1) := by decide +kernel
theorem dX6_lot_25 : decode cX6_lot 25 = .ok (.aload_n 0, 1) := by decide +kernel
theorem dX6_lot_26 : decode cX6_lot 26 = .ok (.getfield 7, 3) := by decide +kernel
theorem dX6_lot_29 : decode cX6_lot 29 = .ok (.bipush 6, 2) := by decide +kernel
theorem dX6_lot_31 : decode cX6_lot 31 = .ok (.iload_n 1, 1) := by decide +kernel
theorem dX6_lot_32 : decode cX6_lot 32 = .ok (.iastore, 1) := by decide +kernel
theorem dX6_lot_33 : decode cX6_lot 33 = .ok (.iload_n 2, 1) := by decide +kernel
theorem dX6_lot_34 : decode cX6_lot 34 = .ok (.ireturn, 1) := by decide +kernel
theorem dX6_append_0 : decode cX6_append 0 = .ok (.iload_n 1, 1) := by decide +kernel
theorem dX6_append_1 : decode cX6_append 1 = .ok (.bipush 33, 2) := by decide +kernel
theorem dX6_append_3 : decode cX6_append 3 = .ok (.bipush 126, 2) := by decide +kernel
theorem dX6_append_5 : decode cX6_append 5 = .ok (.invokestatic 31, 3) := by decide +kernel
theorem dX6_append_8 : decode cX6_append 8 = .ok (.ifCond .ne 5, 3) := by decide +kernel
theorem dX6_append_11 : decode cX6_append 11 = .ok (.iconst (-1), 1) := by decide +kernel
theorem dX6_append_12 : decode cX6_append 12 = .ok (.ireturn, 1) := by decide +kernel
theorem dX6_append_13 : decode cX6_append 13 = .ok (.aload_n 0, 1) := by decide +kernel
theorem dX6_append_14 : decode cX6_append 14 = .ok (.getfield 103, 3) := by decide +kernel
theorem dX6_append_17 : decode cX6_append 17 = .ok (.bipush 80, 2) := by decide +kernel
theorem dX6_append_19 : decode cX6_append 19 = .ok (.if_icmp .ne 6, 3) := by decide +kernel
theorem dX6_append_22 : decode cX6_append 22 = .ok (.bipush (-3), 2) := by decide +kernel
theorem dX6_append_24 : decode cX6_append 24 = .ok (.ireturn, 1) := by decide +kernel
theorem dX6_append_25 : decode cX6_append 25 = .ok (.aload_n 0, 1) := by decide +kernel
theorem dX6_append_26 : decode cX6_append 26 = .ok (.getfield 22, 3) := by decide +kernel
theorem dX6_append_29 : decode cX6_append 29 = .ok (.aload_n 0, 1) := by decide +kernel
theorem dX6_append_30 : decode cX6_append 30 = .ok (.getfield 103, 3) := by decide +kernel
theorem dX6_append_33 : decode cX6_append 33 = .ok (.iload_n 1, 1) := by decide +kernel
theorem dX6_append_34 : decode cX6_append 34 = .ok (.iastore, 1) := by decide +kernel
theorem dX6_append_35 : decode cX6_append 35 = .ok (.aload_n 0, 1) := by decide +kernel
theorem dX6_append_36 : decode cX6_append 36 = .ok (.dup, 1) := by decide +kernel
theorem dX6_append_37 : decode cX6_append 37 = .ok (.getfield 103, 3) := by decide +kernel
theorem dX6_append_40 : decode cX6_append 40 = .ok (.iconst 1, 1) := by decide +kernel
theorem dX6_append_41 : decode cX6_append 41 = .ok (.iadd, 1) := by decide +kernel
theorem dX6_append_42 : decode cX6_append 42 = .ok (.putfield 103, 3) := by decide +kernel
theorem dX6_append_45 : decode cX6_append 45 = .ok (.aload_n 0, 1) := by decide +kernel
theorem dX6_append_46 : decode cX6_append 46 = .ok (.getfield 103, 3) := by decide +kernel
theorem dX6_append_49 : decode cX6_append 49 = .ok (.ireturn, 1) := by decide +kernel
theorem dX6_clear_0 : decode cX6_clear 0 = .ok (.aload_n 0, 1) := by decide +kernel
theorem dX6_clear_1 : decode cX6_clear 1 = .ok (.getfield 103, 3) := by decide +kernel
theorem dX6_clear_4 : decode cX6_clear 4 = .ok (.istore_n 1, 1) := by decide +kernel
theorem dX6_clear_5 : decode cX6_clear 5 = .ok (.aload_n 0, 1) := by decide +kernel
theorem dX6_clear_6 : decode cX6_clear 6 = .ok (.iconst 0, 1) := by decide +kernel
theorem dX6_clear_7 : decode cX6_clear 7 = .ok (.putfield 103, 3) := by decide +kernel
theorem dX6_clear_10 : decode cX6_clear 10 = .ok (.iload_n 1, 1) := by decide +kernel
theorem dX6_clear_11 : decode cX6_clear 11 = .ok (.ireturn, 1) := by decide +kernel
theorem dX6_next_0 : decode cX6_next 0 = .ok (.aload_n 0, 1) := by decide +kernel
theorem dX6_next_1 : decode cX6_next 1 = .ok (.getfield 106, 3) := by decide +kernel
theorem dX6_next_4 : decode cX6_next 4 = .ok (.aload_n 0, 1) := by decide +kernel
theorem dX6_next_5 : decode cX6_next 5 = .ok (.getfield 103, 3) := by decide +kernel
theorem dX6_next_8 : decode cX6_next 8 = .ok (.if_icmp .ge 15, 3) := by decide +kernel
theorem dX6_next_11 : decode cX6_next 11 = .ok (.aload_n 0, 1) := by decide +kernel
theorem dX6_next_12 : decode cX6_next 12 = .ok (.getfield 22, 3) := by decide +kernel
theorem dX6_next_15 : decode cX6_next 15 = .ok (.aload_n 0, 1) := by decide +kernel
theorem dX6_next_16 : decode cX6_next 16 = .ok (.getfield 106, 3) := by decide +kernel
theorem dX6_next_19 : decode cX6_next 19 = .ok (.iaload, 1) := by decide +kernel
theorem dX6_next_20 : decode cX6_next 20 = .ok (.goto 4, 3) := by decide +kernel
theorem dX6_next_23 : decode cX6_next 23 = .ok (.iconst 0, 1) := by decide +kernel
theorem dX6_next_24 : decode cX6_next 24 = .ok (.ireturn, 1) := by decide +kernel
theorem dX6_isNext_0 : decode cX6_isNext 0 = .ok (.aload_n 0, 1) := by decide +kernel
theorem dX6_isNext_1 : decode cX6_isNext 1 = .ok (.getfield 109, 3) := by decide +kernel
theorem dX6_isNext_4 : decode cX6_isNext 4 = .ok (.ifCond .ne 15, 3) := by decide +kernel
theorem dX6_isNext_7 : decode cX6_isNext 7 = .ok (.aload_n 0, 1) := by decide +kernel
theorem dX6_isNext_8 : decode cX6_isNext 8 = .ok (.invokevirtual 113, 3) := by decide +kernel
theorem dX6_isNext_11 : decode cX6_isNext 11 = .ok (.iload_n 1, 1) := by decide +kernel
theorem dX6_isNext_12 : decode cX6_isNext 12 = .ok (.if_icmp .ne 7, 3) := by decide +kernel
theorem dX6_isNext_15 : decode cX6_isNext 15 = .ok (.iconst 1, 1) := by decide +kernel
theorem dX6_isNext_16 : decode cX6_isNext 16 = .ok (.goto 4, 3) := by decide +kernel
theorem dX6_isNext_19 : decode cX6_isNext 19 = .ok (.iconst 0, 1) := by decide +kernel
theorem dX6_isNext_20 : decode cX6_isNext 20 = .ok (.ireturn, 1) := by decide +kernel
theorem dX6_wants_0 : decode cX6_wants 0 = .ok (.aload_n 0, 1) := by decide +kernel
theorem dX6_wants_1 : decode cX6_wants 1 = .ok (.aload_n 0, 1) := by decide +kernel
theorem dX6_wants_2 : decode cX6_wants 2 = .ok (.getfield 109, 3) := by decide +kernel
theorem dX6_wants_5 : decode cX6_wants 5 = .ok (.ifCond .ne 11, 3) := by decide +kernel
theorem dX6_wants_8 : decode cX6_wants 8 = .ok (.aload_n 0, 1) := by decide +kernel
theorem dX6_wants_9 : decode cX6_wants 9 = .ok (.invokevirtual 113, 3) := by decide +kernel
theorem dX6_wants_12 : decode cX6_wants 12 = .ok (.iload_n 1, 1) := by decide +kernel
theorem dX6_wants_13 : decode cX6_wants 13 = .ok (.if_icmp .eq 7, 3) := by decide +kernel
theorem dX6_wants_16 : decode cX6_wants 16 = .ok (.iconst 1, 1) := by decide +kernel
theorem dX6_wants_17 : decode cX6_wants 17 = .ok (.goto 4, 3) := by decide +kernel
theorem dX6_wants_20 : decode cX6_wants 20 = .ok (.iconst 0, 1) := by decide +kernel
theorem dX6_wants_21 : decode cX6_wants 21 = .ok (.putfield 109, 3) := by decide +kernel
theorem dX6_wants_24 : decode cX6_wants 24 = .ok (.aload_n 0, 1) := by decide +kernel
theorem dX6_wants_25 : decode cX6_wants 25 = .ok (.dup, 1) := by decide +kernel
theorem dX6_wants_26 : decode cX6_wants 26 = .ok (.getfield 106, 3) := by decide +kernel
theorem dX6_wants_29 : decode cX6_wants 29 = .ok (.aload_n 0, 1) := by decide +kernel
theorem dX6_wants_30 : decode cX6_wants 30 = .ok (.getfield 109, 3) := by decide +kernel
theorem dX6_wants_33 : decode cX6_wants 33 = .ok (.ifCond .eq 7, 3) := by decide +kernel
theorem dX6_wants_36 : decode cX6_wants 36 = .ok (.iconst 0, 1) := by decide +kernel
theorem dX6_wants_37 : decode cX6_wants 37 = .ok (.goto 4, 3) := by decide +kernel
theorem dX6_wants_40 : decode cX6_wants 40 = .ok (.iconst 1, 1) := by decide +kernel
theorem dX6_wants_41 : decode cX6_wants 41 = .ok (.iadd, 1) := by decide +kernel
theorem dX6_wants_42 : decode cX6_wants 42 = .ok (.putfield 106, 3) := by decide +kernel
theorem dX6_wants_45 : decode cX6_wants 45 = .ok (.return_, 1) := by decide +kernel
theorem dX6_digit_0 : decode cX6_digit 0 = .ok (.aload_n 0, 1) := by decide +kernel
theorem dX6_digit_1 : decode cX6_digit 1 = .ok (.invokevirtual 113, 3) := by decide +kernel
theorem dX6_digit_4 : decode cX6_digit 4 = .ok (.bipush 48, 2) := by decide +kernel
theorem dX6_digit_6 : decode cX6_digit 6 = .ok (.isub, 1) := by decide +kernel
theorem dX6_digit_7 : decode cX6_digit 7 = .ok (.istore_n 3, 1) := by decide +kernel
theorem dX6_digit_8 : decode cX6_digit 8 = .ok (.aload_n 0, 1) := by decide +kernel
theorem dX6_digit_9 : decode cX6_digit 9 = .ok (.aload_n 0, 1) := by decide +kernel
theorem dX6_digit_10 : decode cX6_digit 10 = .ok (.getfield 109, 3) := by decide +kernel
theorem dX6_digit_13 : decode cX6_digit 13 = .ok (.ifCond .ne 12, 3) := by decide +kernel
theorem dX6_digit_16 : decode cX6_digit 16 = .ok (.iload_n 3, 1) := by decide +kernel
theorem dX6_digit_17 : decode cX6_digit 17 = .ok (.iload_n 1, 1) := by decide +kernel
theorem dX6_digit_18 : decode cX6_digit 18 = .ok (.iload_n 2, 1) := by decide +kernel
theorem dX6_digit_19 : decode cX6_digit 19 = .ok (.invokestatic 31, 3) := by decide +kernel
theorem dX6_digit_22 : decode cX6_digit 22 = .ok (.ifCond .ne 7, 3) := by decide +kernel
theorem dX6_digit_25 : decode cX6_digit 25 = .ok (.iconst 1, 1) := by decide +kernel
theorem dX6_digit_26 : decode cX6_digit 26 = .ok (.goto 4, 3) := by decide +kernel
theorem dX6_digit_29 : decode cX6_digit 29 = .ok (.iconst 0, 1) := by decide +kernel
theorem dX6_digit_30 : decode cX6_digit 30 = .ok (.putfield 109, 3) := by decide +kernel
theorem dX6_digit_33 : decode cX6_digit 33 = .ok (.aload_n 0, 1) := by decide +kernel
theorem dX6_digit_34 : decode cX6_digit 34 = .ok (.dup, 1) := by decide +kernel
theorem dX6_digit_35 : decode cX6_digit 35 = .ok (.getfield 106, 3) := by decide +kernel
theorem dX6_digit_38 : decode cX6_digit 38 = .ok (.aload_n 0, 1) := by decide +kernel
theorem dX6_digit_39 : decode cX6_digit 39 = .ok (.getfield 109, 3) := by decide +kernel
theorem dX6_digit_42 : decode cX6_digit 42 = .ok (.ifCond .eq 7, 3) := by decide +kernel
theorem dX6_digit_45 : decode cX6_digit 45 = .ok (.iconst 0, 1) := by decide +kernel
theorem dX6_digit_46 : decode cX6_digit 46 = .ok (.goto 4, 3) := by decide +kernel
theorem dX6_digit_49 : decode cX6_digit 49 = .ok (.iconst 1, 1) := by decide +kernel
theorem dX6_digit_50 : decode cX6_digit 50 = .ok (.iadd, 1) := by decide +kernel
theorem dX6_digit_51 : decode cX6_digit 51 = .ok (.putfield 106, 3) := by decide +kernel
theorem dX6_digit_54 : decode cX6_digit 54 = .ok (.iload_n 3, 1) := by decide +kernel
theorem dX6_digit_55 : decode cX6_digit 55 = .ok (.ireturn, 1) := by decide +kernel
theorem dX6_column_0 : decode cX6_column 0 = .ok (.aload_n 0, 1) := by decide +kernel
theorem dX6_column_1 : decode cX6_column 1 = .ok (.iconst 0, 1) := by decide +kernel
theorem dX6_column_2 : decode cX6_column 2 = .ok (.bipush 9, 2) := by decide +kernel
theorem dX6_column_4 : decode cX6_column 4 = .ok (.invokevirtual 117, 3) := by decide +kernel
theorem dX6_column_7 : decode cX6_column 7 = .ok (.istore_n 2, 1) := by decide +kernel
theorem dX6_column_8 : decode cX6_column 8 = .ok (.iload_n 2, 1) := by decide +kernel
theorem dX6_column_9 : decode cX6_column 9 = .ok (.ifCond .eq 8, 3) := by decide +kernel
theorem dX6_column_12 : decode cX6_column 12 = .ok (.iload_n 2, 1) := by decide +kernel
theorem dX6_column_13 : decode cX6_column 13 = .ok (.iconst 3, 1) := by decide +kernel
theorem dX6_column_14 : decode cX6_column 14 = .ok (.if_icmp .le 7, 3) := by decide +kernel
theorem dX6_column_17 : decode cX6_column 17 = .ok (.iload_n 2, 1) := by decide +kernel
theorem dX6_column_18 : decode cX6_column 18 = .ok (.goto 20, 3) := by decide +kernel
theorem dX6_column_21 : decode cX6_column 21 = .ok (.iload_n 2, 1) := by decide +kernel
theorem dX6_column_22 : decode cX6_column 22 = .ok (.iconst 3, 1) := by decide +kernel
theorem dX6_column_23 : decode cX6_column 23 = .ok (.if_icmp .ne 8, 3) := by decide +kernel
theorem dX6_column_26 : decode cX6_column 26 = .ok (.bipush 31, 2) := by decide +kernel
theorem dX6_column_28 : decode cX6_column 28 = .ok (.goto 10, 3) := by decide +kernel
theorem dX6_column_31 : decode cX6_column 31 = .ok (.bipush 10, 2) := by decide +kernel
theorem dX6_column_33 : decode cX6_column 33 = .ok (.iload_n 2, 1) := by decide +kernel
theorem dX6_column_34 : decode cX6_column 34 = .ok (.imul, 1) := by decide +kernel
theorem dX6_column_35 : decode cX6_column 35 = .ok (.bipush 9, 2) := by decide +kernel
theorem dX6_column_37 : decode cX6_column 37 = .ok (.iadd, 1) := by decide +kernel
theorem dX6_column_38 : decode cX6_column 38 = .ok (.istore_n 3, 1) := by decide +kernel
theorem dX6_column_39 : decode cX6_column 39 = .ok (.aload_n 0, 1) := by decide +kernel
theorem dX6_column_40 : decode cX6_column 40 = .ok (.getfield 109, 3) := by decide +kernel
theorem dX6_column_43 : decode cX6_column 43 = .ok (.ifCond .eq 5, 3) := by decide +kernel
theorem dX6_column_46 : decode cX6_column 46 = .ok (.iconst 0, 1) := by decide +kernel
theorem dX6_column_47 : decode cX6_column 47 = .ok (.ireturn, 1) := by decide +kernel
theorem dX6_column_48 : decode cX6_column 48 = .ok (.iload_n 3, 1) := by decide +kernel
theorem dX6_column_49 : decode cX6_column 49 = .ok (.iload_n 1, 1) := by decide +kernel
theorem dX6_column_50 : decode cX6_column 50 = .ok (.if_icmp .ge 20, 3) := by decide +kernel
theorem dX6_column_53 : decode cX6_column 53 = .ok (.aload_n 0, 1) := by decide +kernel
theorem dX6_column_54 : decode cX6_column 54 = .ok (.dup, 1) := by decide +kernel
theorem dX6_column_55 : decode cX6_column 55 = .ok (.getfield 106, 3) := by decide +kernel
theorem dX6_column_58 : decode cX6_column 58 = .ok (.iconst 1, 1) := by decide +kernel
theorem dX6_column_59 : decode cX6_column 59 = .ok (.isub, 1) := by decide +kernel
theorem dX6_column_60 : decode cX6_column 60 = .ok (.putfield 106, 3) := by decide +kernel
theorem dX6_column_63 : decode cX6_column 63 = .ok (.aload_n 0, 1) := by decide +kernel
theorem dX6_column_64 : decode cX6_column 64 = .ok (.iconst 1, 1) := by decide +kernel
theorem dX6_column_65 : decode cX6_column 65 = .ok (.putfield 109, 3) := by decide +kernel
theorem dX6_column_68 : decode cX6_column 68 = .ok (.iconst 0, 1) := by decide +kernel
theorem dX6_column_69 : decode cX6_column 69 = .ok (.ireturn, 1) := by decide +kernel
theorem dX6_column_70 : decode cX6_column 70 = .ok (.bipush 10, 2) := by decide +kernel
theorem dX6_column_72 : decode cX6_column 72 = .ok (.iload_n 2, 1) := by decide +kernel
theorem dX6_column_73 : decode cX6_column 73 = .ok (.imul, 1) := by decide +kernel
theorem dX6_column_74 : decode cX6_column 74 = .ok (.aload_n 0, 1) := by decide +kernel
theorem dX6_column_75 : decode cX6_column 75 = .ok (.invokevirtual 113, 3) := by decide +kernel
theorem dX6_column_78 : decode cX6_column 78 = .ok (.iadd, 1) := by decide +kernel
theorem dX6_column_79 : decode cX6_column 79 = .ok (.bipush 48, 2) := by decide +kernel
theorem dX6_column_81 : decode cX6_column 81 = .ok (.isub, 1) := by decide +kernel
theorem dX6_column_82 : decode cX6_column 82 = .ok (.istore 4, 2) := by decide +kernel
theorem dX6_column_84 : decode cX6_column 84 = .ok (.aload_n 0, 1) := by decide +kernel
theorem dX6_column_85 : decode cX6_column 85 = .ok (.invokevirtual 113, 3) := by decide +kernel
theorem dX6_column_88 : decode cX6_column 88 = .ok (.bipush 48, 2) := by decide +kernel
theorem dX6_column_90 : decode cX6_column 90 = .ok (.bipush 57, 2) := by decide +kernel
theorem dX6_column_92 : decode cX6_column 92 = .ok (.invokestatic 31, 3) := by decide +kernel
theorem dX6_column_95 : decode cX6_column 95 = .ok (.ifCond .eq 31, 3) := by decide +kernel
theorem dX6_column_98 : decode cX6_column 98 = .ok (.iload_n 2, 1) := by decide +kernel
theorem dX6_column_99 : decode cX6_column 99 = .ok (.ifCond .le 27, 3) := by decide +kernel
theorem dX6_column_102 : decode cX6_column 102 = .ok (.iload 4, 2) := by decide +kernel
theorem dX6_column_104 : decode cX6_column 104 = .ok (.iload_n 1, 1) := by decide +kernel
theorem dX6_column_105 : decode cX6_column 105 = .ok (.bipush 31, 2) := by decide +kernel
theorem dX6_column_107 : decode cX6_column 107 = .ok (.invokestatic 31, 3) := by decide +kernel
theorem dX6_column_110 : decode cX6_column 110 = .ok (.ifCond .eq 16, 3) := by decide +kernel
theorem dX6_column_113 : decode cX6_column 113 = .ok (.aload_n 0, 1) := by decide +kernel
theorem dX6_column_114 : decode cX6_column 114 = .ok (.dup, 1) := by decide +kernel
theorem dX6_column_115 : decode cX6_column 115 = .ok (.getfield 106, 3) := by decide +kernel
theorem dX6_column_118 : decode cX6_column 118 = .ok (.iconst 1, 1) := by decide +kernel
theorem dX6_column_119 : decode cX6_column 119 = .ok (.iadd, 1) := by decide +kernel
theorem dX6_column_120 : decode cX6_column 120 = .ok (.putfield 106, 3) := by decide +kernel
theorem dX6_column_123 : decode cX6_column 123 = .ok (.iload 4, 2) := by decide +kernel
theorem dX6_column_125 : decode cX6_column 125 = .ok (.ireturn, 1) := by decide +kernel
theorem dX6_column_126 : decode cX6_column 126 = .ok (.aload_n 0, 1) := by decide +kernel
theorem dX6_column_127 : decode cX6_column 127 = .ok (.iload_n 2, 1) := by decide +kernel
theorem dX6_column_128 : decode cX6_column 128 = .ok (.iload_n 1, 1) := by decide +kernel
theorem dX6_column_129 : decode cX6_column 129 = .ok (.if_icmp .ge 7, 3) := by decide +kernel
theorem dX6_column_132 : decode cX6_column 132 = .ok (.iconst 1, 1) := by decide +kernel
theorem dX6_column_133 : decode cX6_column 133 = .ok (.goto 4, 3) := by decide +kernel
theorem dX6_column_136 : decode cX6_column 136 = .ok (.iconst 0, 1) := by decide +kernel
theorem dX6_column_137 : decode cX6_column 137 = .ok (.putfield 109, 3) := by decide +kernel
theorem dX6_column_140 : decode cX6_column 140 = .ok (.iload_n 2, 1) := by decide +kernel
theorem dX6_column_141 : decode cX6_column 141 = .ok (.ireturn, 1) := by decide +kernel
theorem dX6_shape_0 : decode cX6_shape 0 = .ok (.aload_n 0, 1) := by decide +kernel
theorem dX6_shape_1 : decode cX6_shape 1 = .ok (.aload_n 0, 1) := by decide +kernel
theorem dX6_shape_2 : decode cX6_shape 2 = .ok (.iconst 0, 1) := by decide +kernel
theorem dX6_shape_3 : decode cX6_shape 3 = .ok (.bipush 7, 2) := by decide +kernel
theorem dX6_shape_5 : decode cX6_shape 5 = .ok (.invokevirtual 117, 3) := by decide +kernel
theorem dX6_shape_8 : decode cX6_shape 8 = .ok (.putfield 120, 3) := by decide +kernel
theorem dX6_shape_11 : decode cX6_shape 11 = .ok (.aload_n 0, 1) := by decide +kernel
theorem dX6_shape_12 : decode cX6_shape 12 = .ok (.aload_n 0, 1) := by decide +kernel
theorem dX6_shape_13 : decode cX6_shape 13 = .ok (.getfield 120, 3) := by decide +kernel
theorem dX6_shape_16 : decode cX6_shape 16 = .ok (.putfield 123, 3) := by decide +kernel
theorem dX6_shape_19 : decode cX6_shape 19 = .ok (.aload_n 0, 1) := by decide +kernel
theorem dX6_shape_20 : decode cX6_shape 20 = .ok (.bipush 45, 2) := by decide +kernel
theorem dX6_shape_22 : decode cX6_shape 22 = .ok (.invokevirtual 126, 3) := by decide +kernel
theorem dX6_shape_25 : decode cX6_shape 25 = .ok (.ifCond .eq 27, 3) := by decide +kernel
theorem dX6_shape_28 : decode cX6_shape 28 = .ok (.aload_n 0, 1) := by decide +kernel
theorem dX6_shape_29 : decode cX6_shape 29 = .ok (.dup, 1) := by decide +kernel
theorem dX6_shape_30 : decode cX6_shape 30 = .ok (.getfield 106, 3) := by decide +kernel
theorem dX6_shape_33 : decode cX6_shape 33 = .ok (.iconst 1, 1) := by decide +kernel
theorem dX6_shape_34 : decode cX6_shape 34 = .ok (.iadd, 1) := by decide +kernel
theorem dX6_shape_35 : decode cX6_shape 35 = .ok (.putfield 106, 3) := by decide +kernel
theorem dX6_shape_38 : decode cX6_shape 38 = .ok (.aload_n 0, 1) := by decide +kernel
theorem dX6_shape_39 : decode cX6_shape 39 = .ok (.aload_n 0, 1) := by decide +kernel
theorem dX6_shape_40 : decode cX6_shape 40 = .ok (.aload_n 0, 1) := by decide +kernel
theorem dX6_shape_41 : decode cX6_shape 41 = .ok (.getfield 120, 3) := by decide +kernel
theorem dX6_shape_44 : decode cX6_shape 44 = .ok (.bipush 7, 2) := by decide +kernel
theorem dX6_shape_46 : decode cX6_shape 46 = .ok (.invokevirtual 117, 3) := by decide +kernel
theorem dX6_shape_49 : decode cX6_shape 49 = .ok (.putfield 123, 3) := by decide +kernel
theorem dX6_shape_52 : decode cX6_shape 52 = .ok (.aload_n 0, 1) := by decide +kernel
theorem dX6_shape_53 : decode cX6_shape 53 = .ok (.bipush 44, 2) := by decide +kernel
theorem dX6_shape_55 : decode cX6_shape 55 = .ok (.invokevirtual 129, 3) := by decide +kernel
theorem dX6_shape_58 : decode cX6_shape 58 = .ok (.aload_n 0, 1) := by decide +kernel
theorem dX6_shape_59 : decode cX6_shape 59 = .ok (.aload_n 0, 1) := by decide +kernel
theorem dX6_shape_60 : decode cX6_shape 60 = .ok (.iconst 0, 1) := by decide +kernel
theorem dX6_shape_61 : decode cX6_shape 61 = .ok (.invokevirtual 132, 3) := by decide +kernel
theorem dX6_shape_64 : decode cX6_shape 64 = .ok (.putfield 135, 3) := by decide +kernel
theorem dX6_shape_67 : decode cX6_shape 67 = .ok (.aload_n 0, 1) := by decide +kernel
theorem dX6_shape_68 : decode cX6_shape 68 = .ok (.aload_n 0, 1) := by decide +kernel
theorem dX6_shape_69 : decode cX6_shape 69 = .ok (.getfield 135, 3) := by decide +kernel
theorem dX6_shape_72 : decode cX6_shape 72 = .ok (.putfield 138, 3) := by decide +kernel
theorem dX6_shape_75 : decode cX6_shape 75 = .ok (.aload_n 0, 1) := by decide +kernel
theorem dX6_shape_76 : decode cX6_shape 76 = .ok (.bipush 45, 2) := by decide +kernel
theorem dX6_shape_78 : decode cX6_shape 78 = .ok (.invokevirtual 126, 3) := by decide +kernel
theorem dX6_shape_81 : decode cX6_shape 81 = .ok (.ifCond .eq 25, 3) := by decide +kernel
theorem dX6_shape_84 : decode cX6_shape 84 = .ok (.aload_n 0, 1) := by decide +kernel
theorem dX6_shape_85 : decode cX6_shape 85 = .ok (.dup, 1) := by decide +kernel
theorem dX6_shape_86 : decode cX6_shape 86 = .ok (.getfield 106, 3) := by decide +kernel
theorem dX6_shape_89 : decode cX6_shape 89 = .ok (.iconst 1, 1) := by decide +kernel
theorem dX6_shape_90 : decode cX6_shape 90 = .ok (.iadd, 1) := by decide +kernel
theorem dX6_shape_91 : decode cX6_shape 91 = .ok (.putfield 106, 3) := by decide +kernel
theorem dX6_shape_94 : decode cX6_shape 94 = .ok (.aload_n 0, 1) := by decide +kernel
theorem dX6_shape_95 : decode cX6_shape 95 = .ok (.aload_n 0, 1) := by decide +kernel
theorem dX6_shape_96 : decode cX6_shape 96 = .ok (.aload_n 0, 1) := by decide +kernel
theorem dX6_shape_97 : decode cX6_shape 97 = .ok (.getfield 135, 3) := by decide +kernel
theorem dX6_shape_100 : decode cX6_shape 100 = .ok (.invokevirtual 132, 3) := by decide +kernel
theorem dX6_shape_103 : decode cX6_shape 103 = .ok (.putfield 138, 3) := by decide +kernel
theorem dX6_shape_106 : decode cX6_shape 106 = .ok (.aload_n 0, 1) := by decide +kernel
theorem dX6_shape_107 : decode cX6_shape 107 = .ok (.bipush 58, 2) := by decide +kernel
theorem dX6_shape_109 : decode cX6_shape 109 = .ok (.invokevirtual 129, 3) := by decide +kernel
theorem dX6_shape_112 : decode cX6_shape 112 = .ok (.aload_n 0, 1) := by decide +kernel
theorem dX6_shape_113 : decode cX6_shape 113 = .ok (.aload_n 0, 1) := by decide +kernel
theorem dX6_shape_114 : decode cX6_shape 114 = .ok (.iconst 0, 1) := by decide +kernel
theorem dX6_shape_115 : decode cX6_shape 115 = .ok (.iconst 4, 1) := by decide +kernel
theorem dX6_shape_116 : decode cX6_shape 116 = .ok (.invokevirtual 117, 3) := by decide +kernel
theorem dX6_shape_119 : decode cX6_shape 119 = .ok (.putfield 141, 3) := by decide +kernel
theorem dX6_shape_122 : decode cX6_shape 122 = .ok (.return_, 1) := by decide +kernel
theorem dX6_goesWrong_0 : decode cX6_goesWrong 0 = .ok (.aload_n 0, 1) := by decide +kernel
theorem dX6_goesWrong_1 : decode cX6_goesWrong 1 = .ok (.iconst 0, 1) := by decide +kernel
theorem dX6_goesWrong_2 : decode cX6_goesWrong 2 = .ok (.putfield 106, 3) := by decide +kernel
theorem dX6_goesWrong_5 : decode cX6_goesWrong 5 = .ok (.aload_n 0, 1) := by decide +kernel
theorem dX6_goesWrong_6 : decode cX6_goesWrong 6 = .ok (.iconst 0, 1) := by decide +kernel
theorem dX6_goesWrong_7 : decode cX6_goesWrong 7 = .ok (.putfield 109, 3) := by decide +kernel
theorem dX6_goesWrong_10 : decode cX6_goesWrong 10 = .ok (.iconst 1, 1) := by decide +kernel
theorem dX6_goesWrong_11 : decode cX6_goesWrong 11 = .ok (.istore_n 2, 1) := by decide +kernel
theorem dX6_goesWrong_12 : decode cX6_goesWrong 12 = .ok (.iload_n 2, 1) := by decide +kernel
theorem dX6_goesWrong_13 : decode cX6_goesWrong 13 = .ok (.ifCond .eq 92, 3) := by decide +kernel
theorem dX6_goesWrong_16 : decode cX6_goesWrong 16 = .ok (.aload_n 0, 1) := by decide +kernel
theorem dX6_goesWrong_17 : decode cX6_goesWrong 17 = .ok (.invokevirtual 144, 3) := by decide +kernel
theorem dX6_goesWrong_20 : decode cX6_goesWrong 20 = .ok (.aload_n 0, 1) := by decide +kernel
theorem dX6_goesWrong_21 : decode cX6_goesWrong 21 = .ok (.getfield 109, 3) := by decide +kernel
theorem dX6_goesWrong_24 : decode cX6_goesWrong 24 = .ok (.ifCond .ne 31, 3) := by decide +kernel
theorem dX6_goesWrong_27 : decode cX6_goesWrong 27 = .ok (.iload_n 1, 1) := by decide +kernel
theorem dX6_goesWrong_28 : decode cX6_goesWrong 28 = .ok (.ifCond .eq 27, 3) := by decide +kernel
theorem dX6_goesWrong_31 : decode cX6_goesWrong 31 = .ok (.aload_n 0, 1) := by decide +kernel
theorem dX6_goesWrong_32 : decode cX6_goesWrong 32 = .ok (.aload_n 0, 1) := by decide +kernel
theorem dX6_goesWrong_33 : decode cX6_goesWrong 33 = .ok (.getfield 120, 3) := by decide +kernel
theorem dX6_goesWrong_36 : decode cX6_goesWrong 36 = .ok (.aload_n 0, 1) := by decide +kernel
theorem dX6_goesWrong_37 : decode cX6_goesWrong 37 = .ok (.getfield 135, 3) := by decide +kernel
theorem dX6_goesWrong_40 : decode cX6_goesWrong 40 = .ok (.aload_n 0, 1) := by decide +kernel
theorem dX6_goesWrong_41 : decode cX6_goesWrong 41 = .ok (.getfield 123, 3) := by decide +kernel
theorem dX6_goesWrong_44 : decode cX6_goesWrong 44 = .ok (.aload_n 0, 1) := by decide +kernel
theorem dX6_goesWrong_45 : decode cX6_goesWrong 45 = .ok (.getfield 138, 3) := by decide +kernel
theorem dX6_goesWrong_48 : decode cX6_goesWrong 48 = .ok (.aload_n 0, 1) := by decide +kernel
theorem dX6_goesWrong_49 : decode cX6_goesWrong 49 = .ok (.getfield 141, 3) := by decide +kernel
theorem dX6_goesWrong_52 : decode cX6_goesWrong 52 = .ok (.invokevirtual 87, 3) := by decide +kernel
theorem dX6_goesWrong_55 : decode cX6_goesWrong 55 = .ok (.aload_n 0, 1) := by decide +kernel
theorem dX6_goesWrong_56 : decode cX6_goesWrong 56 = .ok (.getfield 109, 3) := by decide +kernel
theorem dX6_goesWrong_59 : decode cX6_goesWrong 59 = .ok (.ifCond .ne 18, 3) := by decide +kernel
theorem dX6_goesWrong_62 : decode cX6_goesWrong 62 = .ok (.aload_n 0, 1) := by decide +kernel
theorem dX6_goesWrong_63 : decode cX6_goesWrong 63 = .ok (.getfield 106, 3) := by decide +kernel
theorem dX6_goesWrong_66 : decode cX6_goesWrong 66 = .ok (.aload_n 0, 1) := by decide +kernel
theorem dX6_goesWrong_67 : decode cX6_goesWrong 67 = .ok (.getfield 103, 3) := by decide +kernel
theorem dX6_goesWrong_70 : decode cX6_goesWrong 70 = .ok (.if_icmp .ge 7, 3) := by decide +kernel
theorem dX6_goesWrong_73 : decode cX6_goesWrong 73 = .ok (.iconst 1, 1) := by decide +kernel
theorem dX6_goesWrong_74 : decode cX6_goesWrong 74 = .ok (.goto 4, 3) := by decide +kernel
theorem dX6_goesWrong_77 : decode cX6_goesWrong 77 = .ok (.iconst 0, 1) := by decide +kernel
theorem dX6_goesWrong_78 : decode cX6_goesWrong 78 = .ok (.istore_n 2, 1) := by decide +kernel
theorem dX6_goesWrong_79 : decode cX6_goesWrong 79 = .ok (.iload_n 2, 1) := by decide +kernel
theorem dX6_goesWrong_80 : decode cX6_goesWrong 80 = .ok (.ifCond .eq (-68), 3) := by decide +kernel
theorem dX6_goesWrong_83 : decode cX6_goesWrong 83 = .ok (.aload_n 0, 1) := by decide +kernel
theorem dX6_goesWrong_84 : decode cX6_goesWrong 84 = .ok (.bipush 59, 2) := by decide +kernel
theorem dX6_goesWrong_86 : decode cX6_goesWrong 86 = .ok (.invokevirtual 129, 3) := by decide +kernel
theorem dX6_goesWrong_89 : decode cX6_goesWrong 89 = .ok (.aload_n 0, 1) := by decide +kernel
theorem dX6_goesWrong_90 : decode cX6_goesWrong 90 = .ok (.getfield 109, 3) := by decide +kernel
theorem dX6_goesWrong_93 : decode cX6_goesWrong 93 = .ok (.ifCond .ne 7, 3) := by decide +kernel
theorem dX6_goesWrong_96 : decode cX6_goesWrong 96 = .ok (.iconst 1, 1) := by decide +kernel
theorem dX6_goesWrong_97 : decode cX6_goesWrong 97 = .ok (.goto 4, 3) := by decide +kernel
theorem dX6_goesWrong_100 : decode cX6_goesWrong 100 = .ok (.iconst 0, 1) := by decide +kernel
theorem dX6_goesWrong_101 : decode cX6_goesWrong 101 = .ok (.istore_n 2, 1) := by decide +kernel
theorem dX6_goesWrong_102 : decode cX6_goesWrong 102 = .ok (.goto (-90), 3) := by decide +kernel
theorem dX6_goesWrong_105 : decode cX6_goesWrong 105 = .ok (.aload_n 0, 1) := by decide +kernel
theorem dX6_goesWrong_106 : decode cX6_goesWrong 106 = .ok (.getfield 109, 3) := by decide +kernel
theorem dX6_goesWrong_109 : decode cX6_goesWrong 109 = .ok (.ireturn, 1) := by decide +kernel
theorem dX6_isNoStrip_0 : decode cX6_isNoStrip 0 = .ok (.aload_n 0, 1) := by decide +kernel
theorem dX6_isNoStrip_1 : decode cX6_isNoStrip 1 = .ok (.iconst 0, 1) := by decide +kernel
theorem dX6_isNoStrip_2 : decode cX6_isNoStrip 2 = .ok (.putfield 106, 3) := by decide +kernel
theorem dX6_isNoStrip_5 : decode cX6_isNoStrip 5 = .ok (.aload_n 0, 1) := by decide +kernel
theorem dX6_isNoStrip_6 : decode cX6_isNoStrip 6 = .ok (.aload_n 0, 1) := by decide +kernel
theorem dX6_isNoStrip_7 : decode cX6_isNoStrip 7 = .ok (.getfield 103, 3) := by decide +kernel
theorem dX6_isNoStrip_10 : decode cX6_isNoStrip 10 = .ok (.ifCond .ne 7, 3) := by decide +kernel
theorem dX6_isNoStrip_13 : decode cX6_isNoStrip 13 = .ok (.iconst 1, 1) := by decide +kernel
theorem dX6_isNoStrip_14 : decode cX6_isNoStrip 14 = .ok (.goto 4, 3) := by decide +kernel
theorem dX6_isNoStrip_17 : decode cX6_isNoStrip 17 = .ok (.iconst 0, 1) := by decide +kernel
theorem dX6_isNoStrip_18 : decode cX6_isNoStrip 18 = .ok (.putfield 109, 3) := by decide +kernel
theorem dX6_isNoStrip_21 : decode cX6_isNoStrip 21 = .ok (.aload_n 0, 1) := by decide +kernel
theorem dX6_isNoStrip_22 : decode cX6_isNoStrip 22 = .ok (.getfield 109, 3) := by decide +kernel
theorem dX6_isNoStrip_25 : decode cX6_isNoStrip 25 = .ok (.ifCond .ne 75, 3) := by decide +kernel
theorem dX6_isNoStrip_28 : decode cX6_isNoStrip 28 = .ok (.aload_n 0, 1) := by decide +kernel
theorem dX6_isNoStrip_29 : decode cX6_isNoStrip 29 = .ok (.getfield 106, 3) := by decide +kernel
theorem dX6_isNoStrip_32 : decode cX6_isNoStrip 32 = .ok (.aload_n 0, 1) := by decide +kernel
theorem dX6_isNoStrip_33 : decode cX6_isNoStrip 33 = .ok (.getfield 103, 3) := by decide +kernel
theorem dX6_isNoStrip_36 : decode cX6_isNoStrip 36 = .ok (.if_icmp .ge 64, 3) := by decide +kernel
theorem dX6_isNoStrip_39 : decode cX6_isNoStrip 39 = .ok (.aload_n 0, 1) := by decide +kernel
theorem dX6_isNoStrip_40 : decode cX6_isNoStrip 40 = .ok (.aload_n 0, 1) := by decide +kernel
theorem dX6_isNoStrip_41 : decode cX6_isNoStrip 41 = .ok (.getfield 106, 3) := by decide +kernel
theorem dX6_isNoStrip_44 : decode cX6_isNoStrip 44 = .ok (.bipush 24, 2) := by decide +kernel
theorem dX6_isNoStrip_46 : decode cX6_isNoStrip 46 = .ok (.if_icmp .eq 22, 3) := by decide +kernel
theorem dX6_isNoStrip_49 : decode cX6_isNoStrip 49 = .ok (.aload_n 0, 1) := by decide +kernel
theorem dX6_isNoStrip_50 : decode cX6_isNoStrip 50 = .ok (.getfield 22, 3) := by decide +kernel
theorem dX6_isNoStrip_53 : decode cX6_isNoStrip 53 = .ok (.aload_n 0, 1) := by decide +kernel
theorem dX6_isNoStrip_54 : decode cX6_isNoStrip 54 = .ok (.getfield 106, 3) := by decide +kernel
theorem dX6_isNoStrip_57 : decode cX6_isNoStrip 57 = .ok (.iaload, 1) := by decide +kernel
theorem dX6_isNoStrip_58 : decode cX6_isNoStrip 58 = .ok (.bipush 48, 2) := by decide +kernel
theorem dX6_isNoStrip_60 : decode cX6_isNoStrip 60 = .ok (.bipush 55, 2) := by decide +kernel
theorem dX6_isNoStrip_62 : decode cX6_isNoStrip 62 = .ok (.invokestatic 31, 3) := by decide +kernel
theorem dX6_isNoStrip_65 : decode cX6_isNoStrip 65 = .ok (.ifCond .ne 7, 3) := by decide +kernel
theorem dX6_isNoStrip_68 : decode cX6_isNoStrip 68 = .ok (.iconst 1, 1) := by decide +kernel
theorem dX6_isNoStrip_69 : decode cX6_isNoStrip 69 = .ok (.goto 4, 3) := by decide +kernel
theorem dX6_isNoStrip_72 : decode cX6_isNoStrip 72 = .ok (.iconst 0, 1) := by decide +kernel
theorem dX6_isNoStrip_73 : decode cX6_isNoStrip 73 = .ok (.putfield 109, 3) := by decide +kernel
theorem dX6_isNoStrip_76 : decode cX6_isNoStrip 76 = .ok (.aload_n 0, 1) := by decide +kernel
theorem dX6_isNoStrip_77 : decode cX6_isNoStrip 77 = .ok (.dup, 1) := by decide +kernel
theorem dX6_isNoStrip_78 : decode cX6_isNoStrip 78 = .ok (.getfield 106, 3) := by decide +kernel
theorem dX6_isNoStrip_81 : decode cX6_isNoStrip 81 = .ok (.aload_n 0, 1) := by decide +kernel
theorem dX6_isNoStrip_82 : decode cX6_isNoStrip 82 = .ok (.getfield 109, 3) := by decide +kernel
theorem dX6_isNoStrip_85 : decode cX6_isNoStrip 85 = .ok (.ifCond .eq 7, 3) := by decide +kernel
theorem dX6_isNoStrip_88 : decode cX6_isNoStrip 88 = .ok (.iconst 0, 1) := by decide +kernel
theorem dX6_isNoStrip_89 : decode cX6_isNoStrip 89 = .ok (.goto 4, 3) := by decide +kernel
theorem dX6_isNoStrip_92 : decode cX6_isNoStrip 92 = .ok (.iconst 1, 1) := by decide +kernel
theorem dX6_isNoStrip_93 : decode cX6_isNoStrip 93 = .ok (.iadd, 1) := by decide +kernel
theorem dX6_isNoStrip_94 : decode cX6_isNoStrip 94 = .ok (.putfield 106, 3) := by decide +kernel
theorem dX6_isNoStrip_97 : decode cX6_isNoStrip 97 = .ok (.goto (-76), 3) := by decide +kernel
theorem dX6_isNoStrip_100 : decode cX6_isNoStrip 100 = .ok (.aload_n 0, 1) := by decide +kernel
theorem dX6_isNoStrip_101 : decode cX6_isNoStrip 101 = .ok (.getfield 109, 3) := by decide +kernel
theorem dX6_isNoStrip_104 : decode cX6_isNoStrip 104 = .ok (.ireturn, 1) := by decide +kernel
theorem dX6_fault_0 : decode cX6_fault 0 = .ok (.iload_n 1, 1) := by decide +kernel
theorem dX6_fault_1 : decode cX6_fault 1 = .ok (.iconst 0, 1) := by decide +kernel
theorem dX6_fault_2 : decode cX6_fault 2 = .ok (.iconst 1, 1) := by decide +kernel
theorem dX6_fault_3 : decode cX6_fault 3 = .ok (.invokestatic 31, 3) := by decide +kernel
theorem dX6_fault_6 : decode cX6_fault 6 = .ok (.ifCond .ne 5, 3) := by decide +kernel
theorem dX6_fault_9 : decode cX6_fault 9 = .ok (.iconst (-1), 1) := by decide +kernel
theorem dX6_fault_10 : decode cX6_fault 10 = .ok (.ireturn, 1) := by decide +kernel
theorem dX6_fault_11 : decode cX6_fault 11 = .ok (.iload_n 1, 1) := by decide +kernel
theorem dX6_fault_12 : decode cX6_fault 12 = .ok (.ifCond .ne 11, 3) := by decide +kernel
theorem dX6_fault_15 : decode cX6_fault 15 = .ok (.aload_n 0, 1) := by decide +kernel
theorem dX6_fault_16 : decode cX6_fault 16 = .ok (.iconst 0, 1) := by decide +kernel
theorem dX6_fault_17 : decode cX6_fault 17 = .ok (.invokevirtual 147, 3) := by decide +kernel
theorem dX6_fault_20 : decode cX6_fault 20 = .ok (.goto 7, 3) := by decide +kernel
theorem dX6_fault_23 : decode cX6_fault 23 = .ok (.aload_n 0, 1) := by decide +kernel
theorem dX6_fault_24 : decode cX6_fault 24 = .ok (.invokevirtual 151, 3) := by decide +kernel
theorem dX6_fault_27 : decode cX6_fault 27 = .ok (.istore_n 2, 1) := by decide +kernel
theorem dX6_fault_28 : decode cX6_fault 28 = .ok (.iload_n 2, 1) := by decide +kernel
theorem dX6_fault_29 : decode cX6_fault 29 = .ok (.ifCond .eq 10, 3) := by decide +kernel
theorem dX6_fault_32 : decode cX6_fault 32 = .ok (.aload_n 0, 1) := by decide +kernel
theorem dX6_fault_33 : decode cX6_fault 33 = .ok (.getfield 106, 3) := by decide +kernel
theorem dX6_fault_36 : decode cX6_fault 36 = .ok (.goto 5, 3) := by decide +kernel
theorem dX6_fault_39 : decode cX6_fault 39 = .ok (.bipush (-4), 2) := by decide +kernel
theorem dX6_fault_41 : decode cX6_fault 41 = .ok (.ireturn, 1) := by decide +kernel
theorem dX6_draw_0 : decode cX6_draw 0 = .ok (.aload_n 0, 1) := by decide +kernel
theorem dX6_draw_1 : decode cX6_draw 1 = .ok (.iconst 0, 1) := by decide +kernel
theorem dX6_draw_2 : decode cX6_draw 2 = .ok (.invokevirtual 147, 3) := by decide +kernel
theorem dX6_draw_5 : decode cX6_draw 5 = .ok (.ifCond .eq 6, 3) := by decide +kernel
theorem dX6_draw_8 : decode cX6_draw 8 = .ok (.bipush (-2), 2) := by decide +kernel
theorem dX6_draw_10 : decode cX6_draw 10 = .ok (.ireturn, 1) := by decide +kernel
theorem dX6_draw_11 : decode cX6_draw 11 = .ok (.aload_n 0, 1) := by decide +kernel
theorem dX6_draw_12 : decode cX6_draw 12 = .ok (.invokevirtual 81, 3) := by decide +kernel
theorem dX6_draw_15 : decode cX6_draw 15 = .ok (.aload_n 0, 1) := by decide +kernel
theorem dX6_draw_16 : decode cX6_draw 16 = .ok (.invokevirtual 84, 3) := by decide +kernel
theorem dX6_draw_19 : decode cX6_draw 19 = .ok (.aload_n 0, 1) := by decide +kernel
theorem dX6_draw_20 : decode cX6_draw 20 = .ok (.iconst 1, 1) := by decide +kernel
theorem dX6_draw_21 : decode cX6_draw 21 = .ok (.invokevirtual 147, 3) := by decide +kernel
theorem dX6_draw_24 : decode cX6_draw 24 = .ok (.istore_n 1, 1) := by decide +kernel
theorem dX6_draw_25 : decode cX6_draw 25 = .ok (.aload_n 0, 1) := by decide +kernel
theorem dX6_draw_26 : decode cX6_draw 26 = .ok (.iconst 0, 1) := by decide +kernel
theorem dX6_draw_27 : decode cX6_draw 27 = .ok (.putfield 103, 3) := by decide +kernel
theorem dX6_draw_30 : decode cX6_draw 30 = .ok (.aload_n 0, 1) := by decide +kernel
theorem dX6_draw_31 : decode cX6_draw 31 = .ok (.bipush 32, 2) := by decide +kernel
theorem dX6_draw_33 : decode cX6_draw 33 = .ok (.invokevirtual 91, 3) := by decide +kernel
theorem dX6_draw_36 : decode cX6_draw 36 = .ok (.ireturn, 1) := by decide +kernel
theorem dX6_wind_0 : decode cX6_wind 0 = .ok (.aload_n 0, 1) := by decide +kernel
theorem dX6_wind_1 : decode cX6_wind 1 = .ok (.invokevirtual 151, 3) := by decide +kernel
theorem dX6_wind_4 : decode cX6_wind 4 = .ok (.ifCond .eq 6, 3) := by decide +kernel
theorem dX6_wind_7 : decode cX6_wind 7 = .ok (.bipush (-2), 2) := by decide +kernel
theorem dX6_wind_9 : decode cX6_wind 9 = .ok (.ireturn, 1) := by decide +kernel
theorem dX6_wind_10 : decode cX6_wind 10 = .ok (.aload_n 0, 1) := by decide +kernel
theorem dX6_wind_11 : decode cX6_wind 11 = .ok (.invokevirtual 81, 3) := by decide +kernel
theorem dX6_wind_14 : decode cX6_wind 14 = .ok (.iconst 0, 1) := by decide +kernel
theorem dX6_wind_15 : decode cX6_wind 15 = .ok (.istore_n 1, 1) := by decide +kernel
theorem dX6_wind_16 : decode cX6_wind 16 = .ok (.iload_n 1, 1) := by decide +kernel
theorem dX6_wind_17 : decode cX6_wind 17 = .ok (.bipush 24, 2) := by decide +kernel
theorem dX6_wind_19 : decode cX6_wind 19 = .ok (.if_icmp .ge 39, 3) := by decide +kernel
theorem dX6_wind_22 : decode cX6_wind 22 = .ok (.aload_n 0, 1) := by decide +kernel
theorem dX6_wind_23 : decode cX6_wind 23 = .ok (.getfield 7, 3) := by decide +kernel
theorem dX6_wind_26 : decode cX6_wind 26 = .ok (.bipush 8, 2) := by decide +kernel
theorem dX6_wind_28 : decode cX6_wind 28 = .ok (.iload_n 1, 1) := by decide +kernel
theorem dX6_wind_29 : decode cX6_wind 29 = .ok (.iadd, 1) := by decide +kernel
theorem dX6_wind_30 : decode cX6_wind 30 = .ok (.iload_n 1, 1) := by decide +kernel
theorem dX6_wind_31 : decode cX6_wind 31 = .ok (.aload_n 0, 1) := by decide +kernel
theorem dX6_wind_32 : decode cX6_wind 32 = .ok (.getfield 103, 3) := by decide +kernel
theorem dX6_wind_35 : decode cX6_wind 35 = .ok (.if_icmp .ge 15, 3) := by decide +kernel
theorem dX6_wind_38 : decode cX6_wind 38 = .ok (.aload_n 0, 1) := by decide +kernel
theorem dX6_wind_39 : decode cX6_wind 39 = .ok (.getfield 22, 3) := by decide +kernel
theorem dX6_wind_42 : decode cX6_wind 42 = .ok (.iload_n 1, 1) := by decide +kernel
theorem dX6_wind_43 : decode cX6_wind 43 = .ok (.iaload, 1) := by decide +kernel
theorem dX6_wind_44 : decode cX6_wind 44 = .ok (.bipush 48, 2) := by decide +kernel
theorem dX6_wind_46 : decode cX6_wind 46 = .ok (.isub, 1) := by decide +kernel
theorem dX6_wind_47 : decode cX6_wind 47 = .ok (.goto 4, 3) := by decide +kernel
theorem dX6_wind_50 : decode cX6_wind 50 = .ok (.iconst 0, 1) := by decide +kernel
theorem dX6_wind_51 : decode cX6_wind 51 = .ok (.iastore, 1) := by decide +kernel
theorem dX6_wind_52 : decode cX6_wind 52 = .ok (.iinc 1 1, 3) := by decide +kernel
theorem dX6_wind_55 : decode cX6_wind 55 = .ok (.goto (-39), 3) := by decide +kernel
theorem dX6_wind_58 : decode cX6_wind 58 = .ok (.aload_n 0, 1) := by decide +kernel
theorem dX6_wind_59 : decode cX6_wind 59 = .ok (.getfield 7, 3) := by decide +kernel
theorem dX6_wind_62 : decode cX6_wind 62 = .ok (.bipush 7, 2) := by decide +kernel
theorem dX6_wind_64 : decode cX6_wind 64 = .ok (.aload_n 0, 1) := by decide +kernel
theorem dX6_wind_65 : decode cX6_wind 65 = .ok (.getfield 103, 3) := by decide +kernel
theorem dX6_wind_68 : decode cX6_wind 68 = .ok (.iastore, 1) := by decide +kernel
theorem dX6_wind_69 : decode cX6_wind 69 = .ok (.aload_n 0, 1) := by decide +kernel
theorem dX6_wind_70 : decode cX6_wind 70 = .ok (.iconst 0, 1) := by decide +kernel
theorem dX6_wind_71 : decode cX6_wind 71 = .ok (.putfield 103, 3) := by decide +kernel
theorem dX6_wind_74 : decode cX6_wind 74 = .ok (.aload_n 0, 1) := by decide +kernel
theorem dX6_wind_75 : decode cX6_wind 75 = .ok (.getfield 7, 3) := by decide +kernel
theorem dX6_wind_78 : decode cX6_wind 78 = .ok (.bipush 7, 2) := by decide +kernel
theorem dX6_wind_80 : decode cX6_wind 80 = .ok (.iaload, 1) := by decide +kernel
theorem dX6_wind_81 : decode cX6_wind 81 = .ok (.ireturn, 1) := by decide +kernel
theorem dX6_unwind_0 : decode cX6_unwind 0 = .ok (.aload_n 0, 1) := by decide +kernel
theorem dX6_unwind_1 : decode cX6_unwind 1 = .ok (.getfield 7, 3) := by decide +kernel
theorem dX6_unwind_4 : decode cX6_unwind 4 = .ok (.bipush 7, 2) := by decide +kernel
theorem dX6_unwind_6 : decode cX6_unwind 6 = .ok (.iaload, 1) := by decide +kernel
theorem dX6_unwind_7 : decode cX6_unwind 7 = .ok (.ifCond .ne 6, 3) := by decide +kernel
theorem dX6_unwind_10 : decode cX6_unwind 10 = .ok (.bipush (-2), 2) := by decide +kernel
theorem dX6_unwind_12 : decode cX6_unwind 12 = .ok (.ireturn, 1) := by decide +kernel
theorem dX6_unwind_13 : decode cX6_unwind 13 = .ok (.aload_n 0, 1) := by decide +kernel
theorem dX6_unwind_14 : decode cX6_unwind 14 = .ok (.invokevirtual 81, 3) := by decide +kernel
theorem dX6_unwind_17 : decode cX6_unwind 17 = .ok (.aload_n 0, 1) := by decide +kernel
theorem dX6_unwind_18 : decode cX6_unwind 18 = .ok (.getfield 7, 3) := by decide +kernel
theorem dX6_unwind_21 : decode cX6_unwind 21 = .ok (.bipush 7, 2) := by decide +kernel
theorem dX6_unwind_23 : decode cX6_unwind 23 = .ok (.iaload, 1) := by decide +kernel
theorem dX6_unwind_24 : decode cX6_unwind 24 = .ok (.istore_n 1, 1) := by decide +kernel
theorem dX6_unwind_25 : decode cX6_unwind 25 = .ok (.aload_n 0, 1) := by decide +kernel
theorem dX6_unwind_26 : decode cX6_unwind 26 = .ok (.getfield 7, 3) := by decide +kernel
theorem dX6_unwind_29 : decode cX6_unwind 29 = .ok (.bipush 7, 2) := by decide +kernel
theorem dX6_unwind_31 : decode cX6_unwind 31 = .ok (.iconst 0, 1) := by decide +kernel
theorem dX6_unwind_32 : decode cX6_unwind 32 = .ok (.iastore, 1) := by decide +kernel
theorem dX6_unwind_33 : decode cX6_unwind 33 = .ok (.iload_n 1, 1) := by decide +kernel
theorem dX6_unwind_34 : decode cX6_unwind 34 = .ok (.ireturn, 1) := by decide +kernel
theorem dX6_at_0 : decode cX6_at 0 = .ok (.iload_n 1, 1) := by decide +kernel
theorem dX6_at_1 : decode cX6_at 1 = .ok (.invokestatic 78, 3) := by decide +kernel
theorem dX6_at_4 : decode cX6_at 4 = .ok (.ifCond .eq 10, 3) := by decide +kernel
theorem dX6_at_7 : decode cX6_at 7 = .ok (.iload_n 2, 1) := by decide +kernel
theorem dX6_at_8 : decode cX6_at 8 = .ok (.invokestatic 52, 3) := by decide +kernel
theorem dX6_at_11 : decode cX6_at 11 = .ok (.ifCond .ne 5, 3) := by decide +kernel
theorem dX6_at_14 : decode cX6_at 14 = .ok (.iconst (-1), 1) := by decide +kernel
theorem dX6_at_15 : decode cX6_at 15 = .ok (.ireturn, 1) := by decide +kernel
theorem dX6_at_16 : decode cX6_at 16 = .ok (.iload_n 3, 1) := by decide +kernel
theorem dX6_at_17 : decode cX6_at 17 = .ok (.tableswitch 170 0 7 #[47, 54, 61, 88, 110, 117, 124, 131], 47) := by decide +kernel
theorem dX6_at_64 : decode cX6_at 64 = .ok (.aload_n 0, 1) := by decide +kernel
theorem dX6_at_65 : decode cX6_at 65 = .ok (.iload_n 1, 1) := by decide +kernel
theorem dX6_at_66 : decode cX6_at 66 = .ok (.iload_n 2, 1) := by decide +kernel
theorem dX6_at_67 : decode cX6_at 67 = .ok (.invokevirtual 43, 3) := by decide +kernel
theorem dX6_at_70 : decode cX6_at 70 = .ok (.ireturn, 1) := by decide +kernel
theorem dX6_at_71 : decode cX6_at 71 = .ok (.aload_n 0, 1) := by decide +kernel
theorem dX6_at_72 : decode cX6_at 72 = .ok (.iload_n 1, 1) := by decide +kernel
theorem dX6_at_73 : decode cX6_at 73 = .ok (.iload_n 2, 1) := by decide +kernel
theorem dX6_at_74 : decode cX6_at 74 = .ok (.invokevirtual 56, 3) := by decide +kernel
theorem dX6_at_77 : decode cX6_at 77 = .ok (.ireturn, 1) := by decide +kernel
theorem dX6_at_78 : decode cX6_at 78 = .ok (.aload_n 0, 1) := by decide +kernel
theorem dX6_at_79 : decode cX6_at 79 = .ok (.iload_n 1, 1) := by decide +kernel
theorem dX6_at_80 : decode cX6_at 80 = .ok (.invokevirtual 66, 3) := by decide +kernel
theorem dX6_at_83 : decode cX6_at 83 = .ok (.aload_n 0, 1) := by decide +kernel
theorem dX6_at_84 : decode cX6_at 84 = .ok (.getfield 25, 3) := by decide +kernel
theorem dX6_at_87 : decode cX6_at 87 = .ok (.iload_n 2, 1) := by decide +kernel
theorem dX6_at_88 : decode cX6_at 88 = .ok (.iaload, 1) := by decide +kernel
theorem dX6_at_89 : decode cX6_at 89 = .ok (.iconst (-1), 1) := by decide +kernel
theorem dX6_at_90 : decode cX6_at 90 = .ok (.if_icmp .ne 8, 3) := by decide +kernel
theorem dX6_at_93 : decode cX6_at 93 = .ok (.bipush (-4), 2) := by decide +kernel
theorem dX6_at_95 : decode cX6_at 95 = .ok (.goto 9, 3) := by decide +kernel
theorem dX6_at_98 : decode cX6_at 98 = .ok (.aload_n 0, 1) := by decide +kernel
theorem dX6_at_99 : decode cX6_at 99 = .ok (.getfield 25, 3) := by decide +kernel
theorem dX6_at_102 : decode cX6_at 102 = .ok (.iload_n 2, 1) := by decide +kernel
theorem dX6_at_103 : decode cX6_at 103 = .ok (.iaload, 1) := by decide +kernel
theorem dX6_at_104 : decode cX6_at 104 = .ok (.ireturn, 1) := by decide +kernel
theorem dX6_at_105 : decode cX6_at 105 = .ok (.aload_n 0, 1) := by decide +kernel
theorem dX6_at_106 : decode cX6_at 106 = .ok (.iload_n 1, 1) := by decide +kernel
theorem dX6_at_107 : decode cX6_at 107 = .ok (.iload_n 2, 1) := by decide +kernel
theorem dX6_at_108 : decode cX6_at 108 = .ok (.invokevirtual 46, 3) := by decide +kernel
theorem dX6_at_111 : decode cX6_at 111 = .ok (.iconst (-1), 1) := by decide +kernel
theorem dX6_at_112 : decode cX6_at 112 = .ok (.if_icmp .ne 8, 3) := by decide +kernel
theorem dX6_at_115 : decode cX6_at 115 = .ok (.bipush (-4), 2) := by decide +kernel
theorem dX6_at_117 : decode cX6_at 117 = .ok (.goto 9, 3) := by decide +kernel
theorem dX6_at_120 : decode cX6_at 120 = .ok (.aload_n 0, 1) := by decide +kernel
theorem dX6_at_121 : decode cX6_at 121 = .ok (.iload_n 1, 1) := by decide +kernel
theorem dX6_at_122 : decode cX6_at 122 = .ok (.iload_n 2, 1) := by decide +kernel
theorem dX6_at_123 : decode cX6_at 123 = .ok (.invokevirtual 46, 3) := by decide +kernel
theorem dX6_at_126 : decode cX6_at 126 = .ok (.ireturn, 1) := by decide +kernel
theorem dX6_at_127 : decode cX6_at 127 = .ok (.aload_n 0, 1) := by decide +kernel
theorem dX6_at_128 : decode cX6_at 128 = .ok (.iload_n 1, 1) := by decide +kernel
theorem dX6_at_129 : decode cX6_at 129 = .ok (.iload_n 2, 1) := by decide +kernel
theorem dX6_at_130 : decode cX6_at 130 = .ok (.invokevirtual 155, 3) := by decide +kernel
theorem dX6_at_133 : decode cX6_at 133 = .ok (.ireturn, 1) := by decide +kernel
theorem dX6_at_134 : decode cX6_at 134 = .ok (.aload_n 0, 1) := by decide +kernel
theorem dX6_at_135 : decode cX6_at 135 = .ok (.iload_n 1, 1) := by decide +kernel
theorem dX6_at_136 : decode cX6_at 136 = .ok (.iload_n 2, 1) := by decide +kernel
theorem dX6_at_137 : decode cX6_at 137 = .ok (.invokevirtual 49, 3) := by decide +kernel
theorem dX6_at_140 : decode cX6_at 140 = .ok (.ireturn, 1) := by decide +kernel
theorem dX6_at_141 : decode cX6_at 141 = .ok (.aload_n 0, 1) := by decide +kernel
theorem dX6_at_142 : decode cX6_at 142 = .ok (.iload_n 1, 1) := by decide +kernel
theorem dX6_at_143 : decode cX6_at 143 = .ok (.iload_n 2, 1) := by decide +kernel
theorem dX6_at_144 : decode cX6_at 144 = .ok (.invokevirtual 158, 3) := by decide +kernel
theorem dX6_at_147 : decode cX6_at 147 = .ok (.ireturn, 1) := by decide +kernel
theorem dX6_at_148 : decode cX6_at 148 = .ok (.aload_n 0, 1) := by decide +kernel
theorem dX6_at_149 : decode cX6_at 149 = .ok (.getfield 7, 3) := by decide +kernel
theorem dX6_at_152 : decode cX6_at 152 = .ok (.sipush 544, 3) := by decide +kernel
theorem dX6_at_155 : decode cX6_at 155 = .ok (.iload_n 1, 1) := by decide +kernel
theorem dX6_at_156 : decode cX6_at 156 = .ok (.iload_n 2, 1) := by decide +kernel
theorem dX6_at_157 : decode cX6_at 157 = .ok (.invokestatic 35, 3) := by decide +kernel
theorem dX6_at_160 : decode cX6_at 160 = .ok (.iadd, 1) := by decide +kernel
theorem dX6_at_161 : decode cX6_at 161 = .ok (.iaload, 1) := by decide +kernel
theorem dX6_at_162 : decode cX6_at 162 = .ok (.ifCond .ne 8, 3) := by decide +kernel
theorem dX6_at_165 : decode cX6_at 165 = .ok (.bipush (-4), 2) := by decide +kernel
theorem dX6_at_167 : decode cX6_at 167 = .ok (.goto 19, 3) := by decide +kernel
theorem dX6_at_170 : decode cX6_at 170 = .ok (.aload_n 0, 1) := by decide +kernel
theorem dX6_at_171 : decode cX6_at 171 = .ok (.getfield 7, 3) := by decide +kernel
theorem dX6_at_174 : decode cX6_at 174 = .ok (.sipush 544, 3) := by decide +kernel
theorem dX6_at_177 : decode cX6_at 177 = .ok (.iload_n 1, 1) := by decide +kernel
theorem dX6_at_178 : decode cX6_at 178 = .ok (.iload_n 2, 1) := by decide +kernel
theorem dX6_at_179 : decode cX6_at 179 = .ok (.invokestatic 35, 3) := by decide +kernel
theorem dX6_at_182 : decode cX6_at 182 = .ok (.iadd, 1) := by decide +kernel
theorem dX6_at_183 : decode cX6_at 183 = .ok (.iaload, 1) := by decide +kernel
theorem dX6_at_184 : decode cX6_at 184 = .ok (.iconst 1, 1) := by decide +kernel
theorem dX6_at_185 : decode cX6_at 185 = .ok (.isub, 1) := by decide +kernel
theorem dX6_at_186 : decode cX6_at 186 = .ok (.ireturn, 1) := by decide +kernel
theorem dX6_at_187 : decode cX6_at 187 = .ok (.iconst (-1), 1) := by decide +kernel
theorem dX6_at_188 : decode cX6_at 188 = .ok (.ireturn, 1) := by decide +kernel
theorem dX6_fits_0 : decode cX6_fits 0 = .ok (.iload_n 1, 1) := by decide +kernel
theorem dX6_fits_1 : decode cX6_fits 1 = .ok (.invokestatic 78, 3) := by decide +kernel
theorem dX6_fits_4 : decode cX6_fits 4 = .ok (.ifCond .eq 19, 3) := by decide +kernel
theorem dX6_fits_7 : decode cX6_fits 7 = .ok (.iload_n 2, 1) := by decide +kernel
theorem dX6_fits_8 : decode cX6_fits 8 = .ok (.invokestatic 52, 3) := by decide +kernel
theorem dX6_fits_11 : decode cX6_fits 11 = .ok (.ifCond .eq 12, 3) := by decide +kernel
theorem dX6_fits_14 : decode cX6_fits 14 = .ok (.iload_n 3, 1) := by decide +kernel
theorem dX6_fits_15 : decode cX6_fits 15 = .ok (.iconst 0, 1) := by decide +kernel
theorem dX6_fits_16 : decode cX6_fits 16 = .ok (.iconst 4, 1) := by decide +kernel
theorem dX6_fits_17 : decode cX6_fits 17 = .ok (.invokestatic 31, 3) := by decide +kernel
theorem dX6_fits_20 : decode cX6_fits 20 = .ok (.ifCond .ne 5, 3) := by decide +kernel
theorem dX6_fits_23 : decode cX6_fits 23 = .ok (.iconst (-1), 1) := by decide +kernel
theorem dX6_fits_24 : decode cX6_fits 24 = .ok (.ireturn, 1) := by decide +kernel
theorem dX6_fits_25 : decode cX6_fits 25 = .ok (.aload_n 0, 1) := by decide +kernel
theorem dX6_fits_26 : decode cX6_fits 26 = .ok (.iload_n 1, 1) := by decide +kernel
theorem dX6_fits_27 : decode cX6_fits 27 = .ok (.iload_n 2, 1) := by decide +kernel
theorem dX6_fits_28 : decode cX6_fits 28 = .ok (.iload_n 3, 1) := by decide +kernel
theorem dX6_fits_29 : decode cX6_fits 29 = .ok (.invokevirtual 59, 3) := by decide +kernel
theorem dX6_fits_32 : decode cX6_fits 32 = .ok (.ifCond .eq 7, 3) := by decide +kernel
theorem dX6_fits_35 : decode cX6_fits 35 = .ok (.iconst 1, 1) := by decide +kernel
theorem dX6_fits_36 : decode cX6_fits 36 = .ok (.goto 4, 3) := by decide +kernel
theorem dX6_fits_39 : decode cX6_fits 39 = .ok (.iconst 0, 1) := by decide +kernel
theorem dX6_fits_40 : decode cX6_fits 40 = .ok (.ireturn, 1) := by decide +kernel
theorem dX6_isOne_0 : decode cX6_isOne 0 = .ok (.aload_n 0, 1) := by decide +kernel
theorem dX6_isOne_1 : decode cX6_isOne 1 = .ok (.iload_n 1, 1) := by decide +kernel
theorem dX6_isOne_2 : decode cX6_isOne 2 = .ok (.iload_n 2, 1) := by decide +kernel
theorem dX6_isOne_3 : decode cX6_isOne 3 = .ok (.invokevirtual 46, 3) := by decide +kernel
theorem dX6_isOne_6 : decode cX6_isOne 6 = .ok (.istore 4, 2) := by decide +kernel
theorem dX6_isOne_8 : decode cX6_isOne 8 = .ok (.iload_n 3, 1) := by decide +kernel
theorem dX6_isOne_9 : decode cX6_isOne 9 = .ok (.tableswitch 162 0 6 #[43, 55, 71, 86, 114, 121, 146], 43) := by decide +kernel
theorem dX6_isOne_52 : decode cX6_isOne 52 = .ok (.iload 4, 2) := by decide +kernel
theorem dX6_isOne_54 : decode cX6_isOne 54 = .ok (.iconst (-1), 1) := by decide +kernel
theorem dX6_isOne_55 : decode cX6_isOne 55 = .ok (.if_icmp .ne 7, 3) := by decide +kernel
theorem dX6_isOne_58 : decode cX6_isOne 58 = .ok (.iconst 1, 1) := by decide +kernel
theorem dX6_isOne_59 : decode cX6_isOne 59 = .ok (.goto 4, 3) := by decide +kernel
theorem dX6_isOne_62 : decode cX6_isOne 62 = .ok (.iconst 0, 1) := by decide +kernel
theorem dX6_isOne_63 : decode cX6_isOne 63 = .ok (.ireturn, 1) := by decide +kernel
theorem dX6_isOne_64 : decode cX6_isOne 64 = .ok (.aload_n 0, 1) := by decide +kernel
theorem dX6_isOne_65 : decode cX6_isOne 65 = .ok (.iload_n 1, 1) := by decide +kernel
theorem dX6_isOne_66 : decode cX6_isOne 66 = .ok (.iload_n 2, 1) := by decide +kernel
theorem dX6_isOne_67 : decode cX6_isOne 67 = .ok (.invokevirtual 155, 3) := by decide +kernel
theorem dX6_isOne_70 : decode cX6_isOne 70 = .ok (.iconst 1, 1) := by decide +kernel
theorem dX6_isOne_71 : decode cX6_isOne 71 = .ok (.if_icmp .le 7, 3) := by decide +kernel
theorem dX6_isOne_74 : decode cX6_isOne 74 = .ok (.iconst 1, 1) := by decide +kernel
theorem dX6_isOne_75 : decode cX6_isOne 75 = .ok (.goto 4, 3) := by decide +kernel
theorem dX6_isOne_78 : decode cX6_isOne 78 = .ok (.iconst 0, 1) := by decide +kernel
theorem dX6_isOne_79 : decode cX6_isOne 79 = .ok (.ireturn, 1) := by decide +kernel
theorem dX6_isOne_80 : decode cX6_isOne 80 = .ok (.aload_n 0, 1) := by decide +kernel
theorem dX6_isOne_81 : decode cX6_isOne 81 = .ok (.iload_n 1, 1) := by decide +kernel
theorem dX6_isOne_82 : decode cX6_isOne 82 = .ok (.iload_n 2, 1) := by decide +kernel
theorem dX6_isOne_83 : decode cX6_isOne 83 = .ok (.invokevirtual 155, 3) := by decide +kernel
theorem dX6_isOne_86 : decode cX6_isOne 86 = .ok (.ifCond .ne 7, 3) := by decide +kernel
theorem dX6_isOne_89 : decode cX6_isOne 89 = .ok (.iconst 1, 1) := by decide +kernel
theorem dX6_isOne_90 : decode cX6_isOne 90 = .ok (.goto 4, 3) := by decide +kernel
theorem dX6_isOne_93 : decode cX6_isOne 93 = .ok (.iconst 0, 1) := by decide +kernel
theorem dX6_isOne_94 : decode cX6_isOne 94 = .ok (.ireturn, 1) := by decide +kernel
theorem dX6_isOne_95 : decode cX6_isOne 95 = .ok (.iload 4, 2) := by decide +kernel
theorem dX6_isOne_97 : decode cX6_isOne 97 = .ok (.iconst (-1), 1) := by decide +kernel
theorem dX6_isOne_98 : decode cX6_isOne 98 = .ok (.if_icmp .eq 23, 3) := by decide +kernel
theorem dX6_isOne_101 : decode cX6_isOne 101 = .ok (.aload_n 0, 1) := by decide +kernel
theorem dX6_isOne_102 : decode cX6_isOne 102 = .ok (.iload_n 1, 1) := by decide +kernel
theorem dX6_isOne_103 : decode cX6_isOne 103 = .ok (.iload 4, 2) := by decide +kernel
theorem dX6_isOne_105 : decode cX6_isOne 105 = .ok (.invokevirtual 56, 3) := by decide +kernel
theorem dX6_isOne_108 : decode cX6_isOne 108 = .ok (.aload_n 0, 1) := by decide +kernel
theorem dX6_isOne_109 : decode cX6_isOne 109 = .ok (.iload_n 1, 1) := by decide +kernel
theorem dX6_isOne_110 : decode cX6_isOne 110 = .ok (.iload_n 2, 1) := by decide +kernel
theorem dX6_isOne_111 : decode cX6_isOne 111 = .ok (.invokevirtual 56, 3) := by decide +kernel
theorem dX6_isOne_114 : decode cX6_isOne 114 = .ok (.if_icmp .eq 7, 3) := by decide +kernel
theorem dX6_isOne_117 : decode cX6_isOne 117 = .ok (.iconst 1, 1) := by decide +kernel
theorem dX6_isOne_118 : decode cX6_isOne 118 = .ok (.goto 4, 3) := by decide +kernel
theorem dX6_isOne_121 : decode cX6_isOne 121 = .ok (.iconst 0, 1) := by decide +kernel
theorem dX6_isOne_122 : decode cX6_isOne 122 = .ok (.ireturn, 1) := by decide +kernel
theorem dX6_isOne_123 : decode cX6_isOne 123 = .ok (.aload_n 0, 1) := by decide +kernel
theorem dX6_isOne_124 : decode cX6_isOne 124 = .ok (.iload_n 1, 1) := by decide +kernel
theorem dX6_isOne_125 : decode cX6_isOne 125 = .ok (.iload_n 2, 1) := by decide +kernel
theorem dX6_isOne_126 : decode cX6_isOne 126 = .ok (.invokevirtual 70, 3) := by decide +kernel
theorem dX6_isOne_129 : decode cX6_isOne 129 = .ok (.ireturn, 1) := by decide +kernel
theorem dX6_isOne_130 : decode cX6_isOne 130 = .ok (.aload_n 0, 1) := by decide +kernel
theorem dX6_isOne_131 : decode cX6_isOne 131 = .ok (.getfield 25, 3) := by decide +kernel
theorem dX6_isOne_134 : decode cX6_isOne 134 = .ok (.iload_n 2, 1) := by decide +kernel
theorem dX6_isOne_135 : decode cX6_isOne 135 = .ok (.iaload, 1) := by decide +kernel
theorem dX6_isOne_136 : decode cX6_isOne 136 = .ok (.iconst (-1), 1) := by decide +kernel
theorem dX6_isOne_137 : decode cX6_isOne 137 = .ok (.if_icmp .eq 16, 3) := by decide +kernel
theorem dX6_isOne_140 : decode cX6_isOne 140 = .ok (.aload_n 0, 1) := by decide +kernel
theorem dX6_isOne_141 : decode cX6_isOne 141 = .ok (.iload_n 1, 1) := by decide +kernel
theorem dX6_isOne_142 : decode cX6_isOne 142 = .ok (.iload_n 2, 1) := by decide +kernel
theorem dX6_isOne_143 : decode cX6_isOne 143 = .ok (.invokevirtual 70, 3) := by decide +kernel
theorem dX6_isOne_146 : decode cX6_isOne 146 = .ok (.ifCond .ne 7, 3) := by decide +kernel
theorem dX6_isOne_149 : decode cX6_isOne 149 = .ok (.iconst 1, 1) := by decide +kernel
theorem dX6_isOne_150 : decode cX6_isOne 150 = .ok (.goto 4, 3) := by decide +kernel
theorem dX6_isOne_153 : decode cX6_isOne 153 = .ok (.iconst 0, 1) := by decide +kernel
theorem dX6_isOne_154 : decode cX6_isOne 154 = .ok (.ireturn, 1) := by decide +kernel
theorem dX6_isOne_155 : decode cX6_isOne 155 = .ok (.aload_n 0, 1) := by decide +kernel
theorem dX6_isOne_156 : decode cX6_isOne 156 = .ok (.getfield 25, 3) := by decide +kernel
theorem dX6_isOne_159 : decode cX6_isOne 159 = .ok (.iload_n 2, 1) := by decide +kernel
theorem dX6_isOne_160 : decode cX6_isOne 160 = .ok (.iaload, 1) := by decide +kernel
theorem dX6_isOne_161 : decode cX6_isOne 161 = .ok (.iconst (-1), 1) := by decide +kernel
theorem dX6_isOne_162 : decode cX6_isOne 162 = .ok (.if_icmp .ne 7, 3) := by decide +kernel
theorem dX6_isOne_165 : decode cX6_isOne 165 = .ok (.iconst 1, 1) := by decide +kernel
theorem dX6_isOne_166 : decode cX6_isOne 166 = .ok (.goto 4, 3) := by decide +kernel
theorem dX6_isOne_169 : decode cX6_isOne 169 = .ok (.iconst 0, 1) := by decide +kernel
theorem dX6_isOne_170 : decode cX6_isOne 170 = .ok (.ireturn, 1) := by decide +kernel
theorem dX6_isOne_171 : decode cX6_isOne 171 = .ok (.aload_n 0, 1) := by decide +kernel
theorem dX6_isOne_172 : decode cX6_isOne 172 = .ok (.getfield 7, 3) := by decide +kernel
theorem dX6_isOne_175 : decode cX6_isOne 175 = .ok (.sipush 544, 3) := by decide +kernel
theorem dX6_isOne_178 : decode cX6_isOne 178 = .ok (.iload_n 1, 1) := by decide +kernel
theorem dX6_isOne_179 : decode cX6_isOne 179 = .ok (.iload_n 2, 1) := by decide +kernel
theorem dX6_isOne_180 : decode cX6_isOne 180 = .ok (.invokestatic 35, 3) := by decide +kernel
theorem dX6_isOne_183 : decode cX6_isOne 183 = .ok (.iadd, 1) := by decide +kernel
theorem dX6_isOne_184 : decode cX6_isOne 184 = .ok (.iaload, 1) := by decide +kernel
theorem dX6_isOne_185 : decode cX6_isOne 185 = .ok (.ifCond .le 7, 3) := by decide +kernel
theorem dX6_isOne_188 : decode cX6_isOne 188 = .ok (.iconst 1, 1) := by decide +kernel
theorem dX6_isOne_189 : decode cX6_isOne 189 = .ok (.goto 4, 3) := by decide +kernel
theorem dX6_isOne_192 : decode cX6_isOne 192 = .ok (.iconst 0, 1) := by decide +kernel
theorem dX6_isOne_193 : decode cX6_isOne 193 = .ok (.ireturn, 1) := by decide +kernel
theorem dX6_many_0 : decode cX6_many 0 = .ok (.aload_n 0, 1) := by decide +kernel
theorem dX6_many_1 : decode cX6_many 1 = .ok (.iload_n 1, 1) := by decide +kernel
theorem dX6_many_2 : decode cX6_many 2 = .ok (.invokevirtual 66, 3) := by decide +kernel
theorem dX6_many_5 : decode cX6_many 5 = .ok (.iconst 0, 1) := by decide +kernel
theorem dX6_many_6 : decode cX6_many 6 = .ok (.istore_n 3, 1) := by decide +kernel
theorem dX6_many_7 : decode cX6_many 7 = .ok (.iconst 0, 1) := by decide +kernel
theorem dX6_many_8 : decode cX6_many 8 = .ok (.istore 4, 2) := by decide +kernel
theorem dX6_many_10 : decode cX6_many 10 = .ok (.iload 4, 2) := by decide +kernel
theorem dX6_many_12 : decode cX6_many 12 = .ok (.bipush 32, 2) := by decide +kernel
theorem dX6_many_14 : decode cX6_many 14 = .ok (.if_icmp .ge 28, 3) := by decide +kernel
theorem dX6_many_17 : decode cX6_many 17 = .ok (.iload_n 3, 1) := by decide +kernel
theorem dX6_many_18 : decode cX6_many 18 = .ok (.aload_n 0, 1) := by decide +kernel
theorem dX6_many_19 : decode cX6_many 19 = .ok (.iload_n 1, 1) := by decide +kernel
theorem dX6_many_20 : decode cX6_many 20 = .ok (.iload 4, 2) := by decide +kernel
theorem dX6_many_22 : decode cX6_many 22 = .ok (.iload_n 2, 1) := by decide +kernel
theorem dX6_many_23 : decode cX6_many 23 = .ok (.invokevirtual 161, 3) := by decide +kernel
theorem dX6_many_26 : decode cX6_many 26 = .ok (.ifCond .eq 7, 3) := by decide +kernel
theorem dX6_many_29 : decode cX6_many 29 = .ok (.iconst 1, 1) := by decide +kernel
theorem dX6_many_30 : decode cX6_many 30 = .ok (.goto 4, 3) := by decide +kernel
theorem dX6_many_33 : decode cX6_many 33 = .ok (.iconst 0, 1) := by decide +kernel
theorem dX6_many_34 : decode cX6_many 34 = .ok (.iadd, 1) := by decide +kernel
theorem dX6_many_35 : decode cX6_many 35 = .ok (.istore_n 3, 1) := by decide +kernel
theorem dX6_many_36 : decode cX6_many 36 = .ok (.iinc 4 1, 3) := by decide +kernel
theorem dX6_many_39 : decode cX6_many 39 = .ok (.goto (-29), 3) := by decide +kernel
theorem dX6_many_42 : decode cX6_many 42 = .ok (.iload_n 3, 1) := by decide +kernel
theorem dX6_many_43 : decode cX6_many 43 = .ok (.ireturn, 1) := by decide +kernel
theorem dX6_longestChain_0 : decode cX6_longestChain 0 = .ok (.iconst 0, 1) := by decide +kernel
theorem dX6_longestChain_1 : decode cX6_longestChain 1 = .ok (.istore_n 2, 1) := by decide +kernel
theorem dX6_longestChain_2 : decode cX6_longestChain 2 = .ok (.iconst 0, 1) := by decide +kernel
theorem dX6_longestChain_3 : decode cX6_longestChain 3 = .ok (.istore_n 3, 1) := by decide +kernel
theorem dX6_longestChain_4 : decode cX6_longestChain 4 = .ok (.iload_n 3, 1) := by decide +kernel
theorem dX6_longestChain_5 : decode cX6_longestChain 5 = .ok (.bipush 32, 2) := by decide +kernel
theorem dX6_longestChain_7 : decode cX6_longestChain 7 = .ok (.if_icmp .ge 34, 3) := by decide +kernel
theorem dX6_longestChain_10 : decode cX6_longestChain 10 = .ok (.iload_n 2, 1) := by decide +kernel
theorem dX6_longestChain_11 : decode cX6_longestChain 11 = .ok (.aload_n 0, 1) := by decide +kernel
theorem dX6_longestChain_12 : decode cX6_longestChain 12 = .ok (.iload_n 1, 1) := by decide +kernel
theorem dX6_longestChain_13 : decode cX6_longestChain 13 = .ok (.iload_n 3, 1) := by decide +kernel
theorem dX6_longestChain_14 : decode cX6_longestChain 14 = .ok (.invokevirtual 46, 3) := by decide +kernel
theorem dX6_longestChain_17 : decode cX6_longestChain 17 = .ok (.iconst (-1), 1) := by decide +kernel
theorem dX6_longestChain_18 : decode cX6_longestChain 18 = .ok (.if_icmp .ne 12, 3) := by decide +kernel
theorem dX6_longestChain_21 : decode cX6_longestChain 21 = .ok (.aload_n 0, 1) := by decide +kernel
theorem dX6_longestChain_22 : decode cX6_longestChain 22 = .ok (.iload_n 1, 1) := by decide +kernel
theorem dX6_longestChain_23 : decode cX6_longestChain 23 = .ok (.iload_n 3, 1) := by decide +kernel
theorem dX6_longestChain_24 : decode cX6_longestChain 24 = .ok (.invokevirtual 158, 3) := by decide +kernel
theorem dX6_longestChain_27 : decode cX6_longestChain 27 = .ok (.goto 4, 3) := by decide +kernel
theorem dX6_longestChain_30 : decode cX6_longestChain 30 = .ok (.iconst 0, 1) := by decide +kernel
theorem dX6_longestChain_31 : decode cX6_longestChain 31 = .ok (.invokestatic 164, 3) := by decide +kernel
theorem dX6_longestChain_34 : decode cX6_longestChain 34 = .ok (.istore_n 2, 1) := by decide +kernel
theorem dX6_longestChain_35 : decode cX6_longestChain 35 = .ok (.iinc 3 1, 3) := by decide +kernel
theorem dX6_longestChain_38 : decode cX6_longestChain 38 = .ok (.goto (-34), 3) := by decide +kernel
theorem dX6_longestChain_41 : decode cX6_longestChain 41 = .ok (.iload_n 2, 1) := by decide +kernel
theorem dX6_longestChain_42 : decode cX6_longestChain 42 = .ok (.ireturn, 1) := by decide +kernel
theorem dX6_differentDots_0 : decode cX6_differentDots 0 = .ok (.iconst 0, 1) := by decide +kernel
theorem dX6_differentDots_1 : decode cX6_differentDots 1 = .ok (.istore_n 2, 1) := by decide +kernel
theorem dX6_differentDots_2 : decode cX6_differentDots 2 = .ok (.iconst 0, 1) := by decide +kernel
theorem dX6_differentDots_3 : decode cX6_differentDots 3 = .ok (.istore_n 3, 1) := by decide +kernel
theorem dX6_differentDots_4 : decode cX6_differentDots 4 = .ok (.iload_n 3, 1) := by decide +kernel
theorem dX6_differentDots_5 : decode cX6_differentDots 5 = .ok (.bipush 8, 2) := by decide +kernel
theorem dX6_differentDots_7 : decode cX6_differentDots 7 = .ok (.if_icmp .ge 64, 3) := by decide +kernel
theorem dX6_differentDots_10 : decode cX6_differentDots 10 = .ok (.iconst 0, 1) := by decide +kernel
theorem dX6_differentDots_11 : decode cX6_differentDots 11 = .ok (.istore 4, 2) := by decide +kernel
theorem dX6_differentDots_13 : decode cX6_differentDots 13 = .ok (.iconst 0, 1) := by decide +kernel
theorem dX6_differentDots_14 : decode cX6_differentDots 14 = .ok (.istore 5, 2) := by decide +kernel
theorem dX6_differentDots_16 : decode cX6_differentDots 16 = .ok (.iload 5, 2) := by decide +kernel
theorem dX6_differentDots_18 : decode cX6_differentDots 18 = .ok (.bipush 32, 2) := by decide +kernel
theorem dX6_differentDots_20 : decode cX6_differentDots 20 = .ok (.if_icmp .ge 32, 3) := by decide +kernel
theorem dX6_differentDots_23 : decode cX6_differentDots 23 = .ok (.iload 4, 2) := by decide +kernel
theorem dX6_differentDots_25 : decode cX6_differentDots 25 = .ok (.ifCond .ne 14, 3) := by decide +kernel
theorem dX6_differentDots_28 : decode cX6_differentDots 28 = .ok (.aload_n 0, 1) := by decide +kernel
theorem dX6_differentDots_29 : decode cX6_differentDots 29 = .ok (.iload_n 1, 1) := by decide +kernel
theorem dX6_differentDots_30 : decode cX6_differentDots 30 = .ok (.iload 5, 2) := by decide +kernel
theorem dX6_differentDots_32 : decode cX6_differentDots 32 = .ok (.invokevirtual 56, 3) := by decide +kernel
theorem dX6_differentDots_35 : decode cX6_differentDots 35 = .ok (.iload_n 3, 1) := by decide +kernel
theorem dX6_differentDots_36 : decode cX6_differentDots 36 = .ok (.if_icmp .ne 7, 3) := by decide +kernel
theorem dX6_differentDots_39 : decode cX6_differentDots 39 = .ok (.iconst 1, 1) := by decide +kernel
theorem dX6_differentDots_40 : decode cX6_differentDots 40 = .ok (.goto 4, 3) := by decide +kernel
theorem dX6_differentDots_43 : decode cX6_differentDots 43 = .ok (.iconst 0, 1) := by decide +kernel
theorem dX6_differentDots_44 : decode cX6_differentDots 44 = .ok (.istore 4, 2) := by decide +kernel
theorem dX6_differentDots_46 : decode cX6_differentDots 46 = .ok (.iinc 5 1, 3) := by decide +kernel
theorem dX6_differentDots_49 : decode cX6_differentDots 49 = .ok (.goto (-33), 3) := by decide +kernel
theorem dX6_differentDots_52 : decode cX6_differentDots 52 = .ok (.iload_n 2, 1) := by decide +kernel
theorem dX6_differentDots_53 : decode cX6_differentDots 53 = .ok (.iload 4, 2) := by decide +kernel
theorem dX6_differentDots_55 : decode cX6_differentDots 55 = .ok (.ifCond .eq 7, 3) := by decide +kernel
theorem dX6_differentDots_58 : decode cX6_differentDots 58 = .ok (.iconst 1, 1) := by decide +kernel
theorem dX6_differentDots_59 : decode cX6_differentDots 59 = .ok (.goto 4, 3) := by decide +kernel
theorem dX6_differentDots_62 : decode cX6_differentDots 62 = .ok (.iconst 0, 1) := by decide +kernel
theorem dX6_differentDots_63 : decode cX6_differentDots 63 = .ok (.iadd, 1) := by decide +kernel
theorem dX6_differentDots_64 : decode cX6_differentDots 64 = .ok (.istore_n 2, 1) := by decide +kernel
theorem dX6_differentDots_65 : decode cX6_differentDots 65 = .ok (.iinc 3 1, 3) := by decide +kernel
theorem dX6_differentDots_68 : decode cX6_differentDots 68 = .ok (.goto (-64), 3) := by decide +kernel
theorem dX6_differentDots_71 : decode cX6_differentDots 71 = .ok (.iload_n 2, 1) := by decide +kernel
theorem dX6_differentDots_72 : decode cX6_differentDots 72 = .ok (.ireturn, 1) := by decide +kernel
theorem dX6_turnsOfPlane_0 : decode cX6_turnsOfPlane 0 = .ok (.aload_n 0, 1) := by decide +kernel
theorem dX6_turnsOfPlane_1 : decode cX6_turnsOfPlane 1 = .ok (.iload_n 1, 1) := by decide +kernel
theorem dX6_turnsOfPlane_2 : decode cX6_turnsOfPlane 2 = .ok (.invokevirtual 66, 3) := by decide +kernel
theorem dX6_turnsOfPlane_5 : decode cX6_turnsOfPlane 5 = .ok (.iconst 0, 1) := by decide +kernel
theorem dX6_turnsOfPlane_6 : decode cX6_turnsOfPlane 6 = .ok (.istore_n 2, 1) := by decide +kernel
theorem dX6_turnsOfPlane_7 : decode cX6_turnsOfPlane 7 = .ok (.iconst (-1), 1) := by decide +kernel
theorem dX6_turnsOfPlane_8 : decode cX6_turnsOfPlane 8 = .ok (.istore_n 3, 1) := by decide +kernel
theorem dX6_turnsOfPlane_9 : decode cX6_turnsOfPlane 9 = .ok (.iconst 0, 1) := by decide +kernel
theorem dX6_turnsOfPlane_10 : decode cX6_turnsOfPlane 10 = .ok (.istore 4, 2) := by decide +kernel
theorem dX6_turnsOfPlane_12 : decode cX6_turnsOfPlane 12 = .ok (.iload 4, 2) := by decide +kernel
theorem dX6_turnsOfPlane_14 : decode cX6_turnsOfPlane 14 = .ok (.bipush 32, 2) := by decide +kernel
theorem dX6_turnsOfPlane_16 : decode cX6_turnsOfPlane 16 = .ok (.if_icmp .ge 52, 3) := by decide +kernel
theorem dX6_turnsOfPlane_19 : decode cX6_turnsOfPlane 19 = .ok (.aload_n 0, 1) := by decide +kernel
theorem dX6_turnsOfPlane_20 : decode cX6_turnsOfPlane 20 = .ok (.getfield 25, 3) := by decide +kernel
theorem dX6_turnsOfPlane_23 : decode cX6_turnsOfPlane 23 = .ok (.iload 4, 2) := by decide +kernel
theorem dX6_turnsOfPlane_25 : decode cX6_turnsOfPlane 25 = .ok (.iaload, 1) := by decide +kernel
theorem dX6_turnsOfPlane_26 : decode cX6_turnsOfPlane 26 = .ok (.iconst (-1), 1) := by decide +kernel
theorem dX6_turnsOfPlane_27 : decode cX6_turnsOfPlane 27 = .ok (.if_icmp .eq 35, 3) := by decide +kernel
theorem dX6_turnsOfPlane_30 : decode cX6_turnsOfPlane 30 = .ok (.iload_n 2, 1) := by decide +kernel
theorem dX6_turnsOfPlane_31 : decode cX6_turnsOfPlane 31 = .ok (.iload_n 3, 1) := by decide +kernel
theorem dX6_turnsOfPlane_32 : decode cX6_turnsOfPlane 32 = .ok (.iconst (-1), 1) := by decide +kernel
theorem dX6_turnsOfPlane_33 : decode cX6_turnsOfPlane 33 = .ok (.if_icmp .eq 18, 3) := by decide +kernel
theorem dX6_turnsOfPlane_36 : decode cX6_turnsOfPlane 36 = .ok (.iload_n 3, 1) := by decide +kernel
theorem dX6_turnsOfPlane_37 : decode cX6_turnsOfPlane 37 = .ok (.aload_n 0, 1) := by decide +kernel
theorem dX6_turnsOfPlane_38 : decode cX6_turnsOfPlane 38 = .ok (.getfield 25, 3) := by decide +kernel
theorem dX6_turnsOfPlane_41 : decode cX6_turnsOfPlane 41 = .ok (.iload 4, 2) := by decide +kernel
theorem dX6_turnsOfPlane_43 : decode cX6_turnsOfPlane 43 = .ok (.iaload, 1) := by decide +kernel
theorem dX6_turnsOfPlane_44 : decode cX6_turnsOfPlane 44 = .ok (.if_icmp .eq 7, 3) := by decide +kernel
theorem dX6_turnsOfPlane_47 : decode cX6_turnsOfPlane 47 = .ok (.iconst 1, 1) := by decide +kernel
theorem dX6_turnsOfPlane_48 : decode cX6_turnsOfPlane 48 = .ok (.goto 4, 3) := by decide +kernel
theorem dX6_turnsOfPlane_51 : decode cX6_turnsOfPlane 51 = .ok (.iconst 0, 1) := by decide +kernel
theorem dX6_turnsOfPlane_52 : decode cX6_turnsOfPlane 52 = .ok (.iadd, 1) := by decide +kernel
theorem dX6_turnsOfPlane_53 : decode cX6_turnsOfPlane 53 = .ok (.istore_n 2, 1) := by decide +kernel
theorem dX6_turnsOfPlane_54 : decode cX6_turnsOfPlane 54 = .ok (.aload_n 0, 1) := by decide +kernel
theorem dX6_turnsOfPlane_55 : decode cX6_turnsOfPlane 55 = .ok (.getfield 25, 3) := by decide +kernel
theorem dX6_turnsOfPlane_58 : decode cX6_turnsOfPlane 58 = .ok (.iload 4, 2) := by decide +kernel
theorem dX6_turnsOfPlane_60 : decode cX6_turnsOfPlane 60 = .ok (.iaload, 1) := by decide +kernel
theorem dX6_turnsOfPlane_61 : decode cX6_turnsOfPlane 61 = .ok (.istore_n 3, 1) := by decide +kernel
theorem dX6_turnsOfPlane_62 : decode cX6_turnsOfPlane 62 = .ok (.iinc 4 1, 3) := by decide +kernel
theorem dX6_turnsOfPlane_65 : decode cX6_turnsOfPlane 65 = .ok (.goto (-53), 3) := by decide +kernel
theorem dX6_turnsOfPlane_68 : decode cX6_turnsOfPlane 68 = .ok (.iload_n 2, 1) := by decide +kernel
theorem dX6_turnsOfPlane_69 : decode cX6_turnsOfPlane 69 = .ok (.ireturn, 1) := by decide +kernel
theorem dX6_row_0 : decode cX6_row 0 = .ok (.iload_n 1, 1) := by decide +kernel
theorem dX6_row_1 : decode cX6_row 1 = .ok (.invokestatic 78, 3) := by decide +kernel
theorem dX6_row_4 : decode cX6_row 4 = .ok (.ifCond .eq 13, 3) := by decide +kernel
theorem dX6_row_7 : decode cX6_row 7 = .ok (.iload_n 2, 1) := by decide +kernel
theorem dX6_row_8 : decode cX6_row 8 = .ok (.iconst 0, 1) := by decide +kernel
theorem dX6_row_9 : decode cX6_row 9 = .ok (.bipush 10, 2) := by decide +kernel
theorem dX6_row_11 : decode cX6_row 11 = .ok (.invokestatic 31, 3) := by decide +kernel
theorem dX6_row_14 : decode cX6_row 14 = .ok (.ifCond .ne 5, 3) := by decide +kernel
theorem dX6_row_17 : decode cX6_row 17 = .ok (.iconst (-1), 1) := by decide +kernel
theorem dX6_row_18 : decode cX6_row 18 = .ok (.ireturn, 1) := by decide +kernel
theorem dX6_row_19 : decode cX6_row 19 = .ok (.iload_n 2, 1) := by decide +kernel
theorem dX6_row_20 : decode cX6_row 20 = .ok (.bipush 8, 2) := by decide +kernel
theorem dX6_row_22 : decode cX6_row 22 = .ok (.if_icmp .ge 12, 3) := by decide +kernel
theorem dX6_row_25 : decode cX6_row 25 = .ok (.aload_n 0, 1) := by decide +kernel
theorem dX6_row_26 : decode cX6_row 26 = .ok (.iload_n 1, 1) := by decide +kernel
theorem dX6_row_27 : decode cX6_row 27 = .ok (.iload_n 2, 1) := by decide +kernel
theorem dX6_row_28 : decode cX6_row 28 = .ok (.invokevirtual 167, 3) := by decide +kernel
theorem dX6_row_31 : decode cX6_row 31 = .ok (.goto 36, 3) := by decide +kernel
theorem dX6_row_34 : decode cX6_row 34 = .ok (.iload_n 2, 1) := by decide +kernel
theorem dX6_row_35 : decode cX6_row 35 = .ok (.bipush 8, 2) := by decide +kernel
theorem dX6_row_37 : decode cX6_row 37 = .ok (.if_icmp .ne 11, 3) := by decide +kernel
theorem dX6_row_40 : decode cX6_row 40 = .ok (.aload_n 0, 1) := by decide +kernel
theorem dX6_row_41 : decode cX6_row 41 = .ok (.iload_n 1, 1) := by decide +kernel
theorem dX6_row_42 : decode cX6_row 42 = .ok (.invokevirtual 170, 3) := by decide +kernel
theorem dX6_row_45 : decode cX6_row 45 = .ok (.goto 22, 3) := by decide +kernel
theorem dX6_row_48 : decode cX6_row 48 = .ok (.iload_n 2, 1) := by decide +kernel
theorem dX6_row_49 : decode cX6_row 49 = .ok (.bipush 9, 2) := by decide +kernel
theorem dX6_row_51 : decode cX6_row 51 = .ok (.if_icmp .ne 11, 3) := by decide +kernel
theorem dX6_row_54 : decode cX6_row 54 = .ok (.aload_n 0, 1) := by decide +kernel
theorem dX6_row_55 : decode cX6_row 55 = .ok (.iload_n 1, 1) := by decide +kernel
theorem dX6_row_56 : decode cX6_row 56 = .ok (.invokevirtual 173, 3) := by decide +kernel
theorem dX6_row_59 : decode cX6_row 59 = .ok (.goto 8, 3) := by decide +kernel
theorem dX6_row_62 : decode cX6_row 62 = .ok (.aload_n 0, 1) := by decide +kernel
theorem dX6_row_63 : decode cX6_row 63 = .ok (.iload_n 1, 1) := by decide +kernel
theorem dX6_row_64 : decode cX6_row 64 = .ok (.invokevirtual 176, 3) := by decide +kernel
theorem dX6_row_67 : decode cX6_row 67 = .ok (.ireturn, 1) := by decide +kernel
theorem dX6_echoes_0 : decode cX6_echoes 0 = .ok (.iconst 0, 1) := by decide +kernel
theorem dX6_echoes_1 : decode cX6_echoes 1 = .ok (.istore_n 3, 1) := by decide +kernel
theorem dX6_echoes_2 : decode cX6_echoes 2 = .ok (.iload_n 2, 1) := by decide +kernel
theorem dX6_echoes_3 : decode cX6_echoes 3 = .ok (.istore 4, 2) := by decide +kernel
theorem dX6_echoes_5 : decode cX6_echoes 5 = .ok (.iload 4, 2) := by decide +kernel
theorem dX6_echoes_7 : decode cX6_echoes 7 = .ok (.bipush 32, 2) := by decide +kernel
theorem dX6_echoes_9 : decode cX6_echoes 9 = .ok (.if_icmp .ge 36, 3) := by decide +kernel
theorem dX6_echoes_12 : decode cX6_echoes 12 = .ok (.iload_n 3, 1) := by decide +kernel
theorem dX6_echoes_13 : decode cX6_echoes 13 = .ok (.aload_n 0, 1) := by decide +kernel
theorem dX6_echoes_14 : decode cX6_echoes 14 = .ok (.iload_n 1, 1) := by decide +kernel
theorem dX6_echoes_15 : decode cX6_echoes 15 = .ok (.iload 4, 2) := by decide +kernel
theorem dX6_echoes_17 : decode cX6_echoes 17 = .ok (.invokevirtual 56, 3) := by decide +kernel
theorem dX6_echoes_20 : decode cX6_echoes 20 = .ok (.aload_n 0, 1) := by decide +kernel
theorem dX6_echoes_21 : decode cX6_echoes 21 = .ok (.iload_n 1, 1) := by decide +kernel
theorem dX6_echoes_22 : decode cX6_echoes 22 = .ok (.iload 4, 2) := by decide +kernel
theorem dX6_echoes_24 : decode cX6_echoes 24 = .ok (.iload_n 2, 1) := by decide +kernel
theorem dX6_echoes_25 : decode cX6_echoes 25 = .ok (.isub, 1) := by decide +kernel
theorem dX6_echoes_26 : decode cX6_echoes 26 = .ok (.invokevirtual 56, 3) := by decide +kernel
theorem dX6_echoes_29 : decode cX6_echoes 29 = .ok (.if_icmp .ne 7, 3) := by decide +kernel
theorem dX6_echoes_32 : decode cX6_echoes 32 = .ok (.iconst 1, 1) := by decide +kernel
theorem dX6_echoes_33 : decode cX6_echoes 33 = .ok (.goto 4, 3) := by decide +kernel
theorem dX6_echoes_36 : decode cX6_echoes 36 = .ok (.iconst 0, 1) := by decide +kernel
theorem dX6_echoes_37 : decode cX6_echoes 37 = .ok (.iadd, 1) := by decide +kernel
theorem dX6_echoes_38 : decode cX6_echoes 38 = .ok (.istore_n 3, 1) := by decide +kernel

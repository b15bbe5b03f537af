/-! the instructions, decoded -/
theorem dX5_shift_80 : decode cX5_shift 80 = .ok (.iaload, 1) := by decide +kernel
theorem dX5_shift_81 : decode cX5_shift 81 = .ok (.goto 4, 3) := by decide +kernel
theorem dX5_shift_84 : decode cX5_shift 84 = .ok (.iconst 0, 1) := by decide +kernel
theorem dX5_shift_85 : decode cX5_shift 85 = .ok (.istore 6, 2) := by decide +kernel
theorem dX5_shift_87 : decode cX5_shift 87 = .ok (.aload_n 0, 1) := by decide +kernel
theorem dX5_shift_88 : decode cX5_shift 88 = .ok (.getfield 12, 3) := by decide +kernel
theorem dX5_shift_91 : decode cX5_shift 91 = .ok (.getfield 79, 3) := by decide +kernel
theorem dX5_shift_94 : decode cX5_shift 94 = .ok (.iload_n 1, 1) := by decide +kernel
theorem dX5_shift_95 : decode cX5_shift 95 = .ok (.iload 4, 2) := by decide +kernel
theorem dX5_shift_97 : decode cX5_shift 97 = .ok (.invokestatic 80, 3) := by decide +kernel
theorem dX5_shift_100 : decode cX5_shift 100 = .ok (.iload 6, 2) := by decide +kernel
theorem dX5_shift_102 : decode cX5_shift 102 = .ok (.iastore, 1) := by decide +kernel
theorem dX5_shift_103 : decode cX5_shift 103 = .ok (.iload 6, 2) := by decide +kernel
theorem dX5_shift_105 : decode cX5_shift 105 = .ok (.ifCond .le 6, 3) := by decide +kernel
theorem dX5_shift_108 : decode cX5_shift 108 = .ok (.iinc 3 1, 3) := by decide +kernel
theorem dX5_shift_111 : decode cX5_shift 111 = .ok (.iinc 4 1, 3) := by decide +kernel
theorem dX5_shift_114 : decode cX5_shift 114 = .ok (.goto (-64), 3) := by decide +kernel
theorem dX5_shift_117 : decode cX5_shift 117 = .ok (.iload_n 3, 1) := by decide +kernel
theorem dX5_shift_118 : decode cX5_shift 118 = .ok (.ireturn, 1) := by decide +kernel
theorem dX5_swap_0 : decode cX5_swap 0 = .ok (.iload_n 1, 1) := by decide +kernel
theorem dX5_swap_1 : decode cX5_swap 1 = .ok (.invokestatic 50, 3) := by decide +kernel
theorem dX5_swap_4 : decode cX5_swap 4 = .ok (.ifCond .eq 15, 3) := by decide +kernel
theorem dX5_swap_7 : decode cX5_swap 7 = .ok (.iload_n 2, 1) := by decide +kernel
theorem dX5_swap_8 : decode cX5_swap 8 = .ok (.invokestatic 50, 3) := by decide +kernel
theorem dX5_swap_11 : decode cX5_swap 11 = .ok (.ifCond .eq 8, 3) := by decide +kernel
theorem dX5_swap_14 : decode cX5_swap 14 = .ok (.iload_n 1, 1) := by decide +kernel
theorem dX5_swap_15 : decode cX5_swap 15 = .ok (.iload_n 2, 1) := by decide +kernel
theorem dX5_swap_16 : decode cX5_swap 16 = .ok (.if_icmp .ne 5, 3) := by decide +kernel
theorem dX5_swap_19 : decode cX5_swap 19 = .ok (.iconst (-1), 1) := by decide +kernel
theorem dX5_swap_20 : decode cX5_swap 20 = .ok (.ireturn, 1) := by decide +kernel
theorem dX5_swap_21 : decode cX5_swap 21 = .ok (.aload_n 0, 1) := by decide +kernel
theorem dX5_swap_22 : decode cX5_swap 22 = .ok (.getfield 22, 3) := by decide +kernel
theorem dX5_swap_25 : decode cX5_swap 25 = .ok (.aload_n 0, 1) := by decide +kernel
theorem dX5_swap_26 : decode cX5_swap 26 = .ok (.getfield 12, 3) := by decide +kernel
theorem dX5_swap_29 : decode cX5_swap 29 = .ok (.invokevirtual 60, 3) := by decide +kernel
theorem dX5_swap_32 : decode cX5_swap 32 = .ok (.pop, 1) := by decide +kernel
theorem dX5_swap_33 : decode cX5_swap 33 = .ok (.aload_n 0, 1) := by decide +kernel
theorem dX5_swap_34 : decode cX5_swap 34 = .ok (.getfield 36, 3) := by decide +kernel
theorem dX5_swap_37 : decode cX5_swap 37 = .ok (.aload_n 0, 1) := by decide +kernel
theorem dX5_swap_38 : decode cX5_swap 38 = .ok (.getfield 12, 3) := by decide +kernel
theorem dX5_swap_41 : decode cX5_swap 41 = .ok (.iload_n 1, 1) := by decide +kernel
theorem dX5_swap_42 : decode cX5_swap 42 = .ok (.invokevirtual 72, 3) := by decide +kernel
theorem dX5_swap_45 : decode cX5_swap 45 = .ok (.aload_n 0, 1) := by decide +kernel
theorem dX5_swap_46 : decode cX5_swap 46 = .ok (.getfield 40, 3) := by decide +kernel
theorem dX5_swap_49 : decode cX5_swap 49 = .ok (.aload_n 0, 1) := by decide +kernel
theorem dX5_swap_50 : decode cX5_swap 50 = .ok (.getfield 12, 3) := by decide +kernel
theorem dX5_swap_53 : decode cX5_swap 53 = .ok (.iload_n 2, 1) := by decide +kernel
theorem dX5_swap_54 : decode cX5_swap 54 = .ok (.invokevirtual 72, 3) := by decide +kernel
theorem dX5_swap_57 : decode cX5_swap 57 = .ok (.aload_n 0, 1) := by decide +kernel
theorem dX5_swap_58 : decode cX5_swap 58 = .ok (.getfield 36, 3) := by decide +kernel
theorem dX5_swap_61 : decode cX5_swap 61 = .ok (.aload_n 0, 1) := by decide +kernel
theorem dX5_swap_62 : decode cX5_swap 62 = .ok (.getfield 12, 3) := by decide +kernel
theorem dX5_swap_65 : decode cX5_swap 65 = .ok (.iload_n 2, 1) := by decide +kernel
theorem dX5_swap_66 : decode cX5_swap 66 = .ok (.invokevirtual 84, 3) := by decide +kernel
theorem dX5_swap_69 : decode cX5_swap 69 = .ok (.aload_n 0, 1) := by decide +kernel
theorem dX5_swap_70 : decode cX5_swap 70 = .ok (.getfield 40, 3) := by decide +kernel
theorem dX5_swap_73 : decode cX5_swap 73 = .ok (.aload_n 0, 1) := by decide +kernel
theorem dX5_swap_74 : decode cX5_swap 74 = .ok (.getfield 12, 3) := by decide +kernel
theorem dX5_swap_77 : decode cX5_swap 77 = .ok (.iload_n 1, 1) := by decide +kernel
theorem dX5_swap_78 : decode cX5_swap 78 = .ok (.invokevirtual 84, 3) := by decide +kernel
theorem dX5_swap_81 : decode cX5_swap 81 = .ok (.iconst 0, 1) := by decide +kernel
theorem dX5_swap_82 : decode cX5_swap 82 = .ok (.istore_n 3, 1) := by decide +kernel
theorem dX5_swap_83 : decode cX5_swap 83 = .ok (.iconst 0, 1) := by decide +kernel
theorem dX5_swap_84 : decode cX5_swap 84 = .ok (.istore 4, 2) := by decide +kernel
theorem dX5_swap_86 : decode cX5_swap 86 = .ok (.iload 4, 2) := by decide +kernel
theorem dX5_swap_88 : decode cX5_swap 88 = .ok (.bipush 32, 2) := by decide +kernel
theorem dX5_swap_90 : decode cX5_swap 90 = .ok (.if_icmp .ge 35, 3) := by decide +kernel
theorem dX5_swap_93 : decode cX5_swap 93 = .ok (.aload_n 0, 1) := by decide +kernel
theorem dX5_swap_94 : decode cX5_swap 94 = .ok (.getfield 36, 3) := by decide +kernel
theorem dX5_swap_97 : decode cX5_swap 97 = .ok (.getfield 76, 3) := by decide +kernel
theorem dX5_swap_100 : decode cX5_swap 100 = .ok (.iload 4, 2) := by decide +kernel
theorem dX5_swap_102 : decode cX5_swap 102 = .ok (.iaload, 1) := by decide +kernel
theorem dX5_swap_103 : decode cX5_swap 103 = .ok (.aload_n 0, 1) := by decide +kernel
theorem dX5_swap_104 : decode cX5_swap 104 = .ok (.getfield 40, 3) := by decide +kernel
theorem dX5_swap_107 : decode cX5_swap 107 = .ok (.getfield 76, 3) := by decide +kernel
theorem dX5_swap_110 : decode cX5_swap 110 = .ok (.iload 4, 2) := by decide +kernel
theorem dX5_swap_112 : decode cX5_swap 112 = .ok (.iaload, 1) := by decide +kernel
theorem dX5_swap_113 : decode cX5_swap 113 = .ok (.if_icmp .eq 6, 3) := by decide +kernel
theorem dX5_swap_116 : decode cX5_swap 116 = .ok (.iinc 3 1, 3) := by decide +kernel
theorem dX5_swap_119 : decode cX5_swap 119 = .ok (.iinc 4 1, 3) := by decide +kernel
theorem dX5_swap_122 : decode cX5_swap 122 = .ok (.goto (-36), 3) := by decide +kernel
theorem dX5_swap_125 : decode cX5_swap 125 = .ok (.iload_n 3, 1) := by decide +kernel
theorem dX5_swap_126 : decode cX5_swap 126 = .ok (.ireturn, 1) := by decide +kernel
theorem dX5_turn_0 : decode cX5_turn 0 = .ok (.iload_n 1, 1) := by decide +kernel
theorem dX5_turn_1 : decode cX5_turn 1 = .ok (.invokestatic 50, 3) := by decide +kernel
theorem dX5_turn_4 : decode cX5_turn 4 = .ok (.ifCond .ne 5, 3) := by decide +kernel
theorem dX5_turn_7 : decode cX5_turn 7 = .ok (.iconst (-1), 1) := by decide +kernel
theorem dX5_turn_8 : decode cX5_turn 8 = .ok (.ireturn, 1) := by decide +kernel
theorem dX5_turn_9 : decode cX5_turn 9 = .ok (.aload_n 0, 1) := by decide +kernel
theorem dX5_turn_10 : decode cX5_turn 10 = .ok (.getfield 22, 3) := by decide +kernel
theorem dX5_turn_13 : decode cX5_turn 13 = .ok (.aload_n 0, 1) := by decide +kernel
theorem dX5_turn_14 : decode cX5_turn 14 = .ok (.getfield 12, 3) := by decide +kernel
theorem dX5_turn_17 : decode cX5_turn 17 = .ok (.invokevirtual 60, 3) := by decide +kernel
theorem dX5_turn_20 : decode cX5_turn 20 = .ok (.pop, 1) := by decide +kernel
theorem dX5_turn_21 : decode cX5_turn 21 = .ok (.aload_n 0, 1) := by decide +kernel
theorem dX5_turn_22 : decode cX5_turn 22 = .ok (.getfield 36, 3) := by decide +kernel
theorem dX5_turn_25 : decode cX5_turn 25 = .ok (.aload_n 0, 1) := by decide +kernel
theorem dX5_turn_26 : decode cX5_turn 26 = .ok (.getfield 12, 3) := by decide +kernel
theorem dX5_turn_29 : decode cX5_turn 29 = .ok (.iload_n 1, 1) := by decide +kernel
theorem dX5_turn_30 : decode cX5_turn 30 = .ok (.invokevirtual 72, 3) := by decide +kernel
theorem dX5_turn_33 : decode cX5_turn 33 = .ok (.aload_n 0, 1) := by decide +kernel
theorem dX5_turn_34 : decode cX5_turn 34 = .ok (.getfield 36, 3) := by decide +kernel
theorem dX5_turn_37 : decode cX5_turn 37 = .ok (.invokevirtual 87, 3) := by decide +kernel
theorem dX5_turn_40 : decode cX5_turn 40 = .ok (.aload_n 0, 1) := by decide +kernel
theorem dX5_turn_41 : decode cX5_turn 41 = .ok (.getfield 36, 3) := by decide +kernel
theorem dX5_turn_44 : decode cX5_turn 44 = .ok (.aload_n 0, 1) := by decide +kernel
theorem dX5_turn_45 : decode cX5_turn 45 = .ok (.getfield 12, 3) := by decide +kernel
theorem dX5_turn_48 : decode cX5_turn 48 = .ok (.iload_n 1, 1) := by decide +kernel
theorem dX5_turn_49 : decode cX5_turn 49 = .ok (.invokevirtual 84, 3) := by decide +kernel
theorem dX5_turn_52 : decode cX5_turn 52 = .ok (.aload_n 0, 1) := by decide +kernel
theorem dX5_turn_53 : decode cX5_turn 53 = .ok (.iload_n 1, 1) := by decide +kernel
theorem dX5_turn_54 : decode cX5_turn 54 = .ok (.invokevirtual 90, 3) := by decide +kernel
theorem dX5_turn_57 : decode cX5_turn 57 = .ok (.ireturn, 1) := by decide +kernel
theorem dX5_print_0 : decode cX5_print 0 = .ok (.iload_n 1, 1) := by decide +kernel
theorem dX5_print_1 : decode cX5_print 1 = .ok (.invokestatic 50, 3) := by decide +kernel
theorem dX5_print_4 : decode cX5_print 4 = .ok (.ifCond .ne 5, 3) := by decide +kernel
theorem dX5_print_7 : decode cX5_print 7 = .ok (.iconst (-1), 1) := by decide +kernel
theorem dX5_print_8 : decode cX5_print 8 = .ok (.ireturn, 1) := by decide +kernel
theorem dX5_print_9 : decode cX5_print 9 = .ok (.aload_n 0, 1) := by decide +kernel
theorem dX5_print_10 : decode cX5_print 10 = .ok (.getfield 22, 3) := by decide +kernel
theorem dX5_print_13 : decode cX5_print 13 = .ok (.aload_n 0, 1) := by decide +kernel
theorem dX5_print_14 : decode cX5_print 14 = .ok (.getfield 12, 3) := by decide +kernel
theorem dX5_print_17 : decode cX5_print 17 = .ok (.invokevirtual 60, 3) := by decide +kernel
theorem dX5_print_20 : decode cX5_print 20 = .ok (.astore_n 2, 1) := by decide +kernel
theorem dX5_print_21 : decode cX5_print 21 = .ok (.aload_n 0, 1) := by decide +kernel
theorem dX5_print_22 : decode cX5_print 22 = .ok (.iload_n 1, 1) := by decide +kernel
theorem dX5_print_23 : decode cX5_print 23 = .ok (.invokevirtual 94, 3) := by decide +kernel
theorem dX5_print_26 : decode cX5_print 26 = .ok (.aload_n 0, 1) := by decide +kernel
theorem dX5_print_27 : decode cX5_print 27 = .ok (.getfield 12, 3) := by decide +kernel
theorem dX5_print_30 : decode cX5_print 30 = .ok (.aload_n 2, 1) := by decide +kernel
theorem dX5_print_31 : decode cX5_print 31 = .ok (.invokevirtual 98, 3) := by decide +kernel
theorem dX5_print_34 : decode cX5_print 34 = .ok (.ireturn, 1) := by decide +kernel
theorem dX5_printAll_0 : decode cX5_printAll 0 = .ok (.aload_n 0, 1) := by decide +kernel
theorem dX5_printAll_1 : decode cX5_printAll 1 = .ok (.getfield 22, 3) := by decide +kernel
theorem dX5_printAll_4 : decode cX5_printAll 4 = .ok (.aload_n 0, 1) := by decide +kernel
theorem dX5_printAll_5 : decode cX5_printAll 5 = .ok (.getfield 12, 3) := by decide +kernel
theorem dX5_printAll_8 : decode cX5_printAll 8 = .ok (.invokevirtual 60, 3) := by decide +kernel
theorem dX5_printAll_11 : decode cX5_printAll 11 = .ok (.astore_n 1, 1) := by decide +kernel
theorem dX5_printAll_12 : decode cX5_printAll 12 = .ok (.iconst 0, 1) := by decide +kernel
theorem dX5_printAll_13 : decode cX5_printAll 13 = .ok (.istore_n 2, 1) := by decide +kernel
theorem dX5_printAll_14 : decode cX5_printAll 14 = .ok (.iload_n 2, 1) := by decide +kernel
theorem dX5_printAll_15 : decode cX5_printAll 15 = .ok (.bipush 8, 2) := by decide +kernel
theorem dX5_printAll_17 : decode cX5_printAll 17 = .ok (.if_icmp .ge 14, 3) := by decide +kernel
theorem dX5_printAll_20 : decode cX5_printAll 20 = .ok (.aload_n 0, 1) := by decide +kernel
theorem dX5_printAll_21 : decode cX5_printAll 21 = .ok (.iload_n 2, 1) := by decide +kernel
theorem dX5_printAll_22 : decode cX5_printAll 22 = .ok (.invokevirtual 94, 3) := by decide +kernel
theorem dX5_printAll_25 : decode cX5_printAll 25 = .ok (.iinc 2 1, 3) := by decide +kernel
theorem dX5_printAll_28 : decode cX5_printAll 28 = .ok (.goto (-14), 3) := by decide +kernel
theorem dX5_printAll_31 : decode cX5_printAll 31 = .ok (.aload_n 0, 1) := by decide +kernel
theorem dX5_printAll_32 : decode cX5_printAll 32 = .ok (.getfield 12, 3) := by decide +kernel
theorem dX5_printAll_35 : decode cX5_printAll 35 = .ok (.aload_n 1, 1) := by decide +kernel
theorem dX5_printAll_36 : decode cX5_printAll 36 = .ok (.invokevirtual 98, 3) := by decide +kernel
theorem dX5_printAll_39 : decode cX5_printAll 39 = .ok (.ireturn, 1) := by decide +kernel
theorem dX5_paint_0 : decode cX5_paint 0 = .ok (.iload_n 1, 1) := by decide +kernel
theorem dX5_paint_1 : decode cX5_paint 1 = .ok (.invokestatic 50, 3) := by decide +kernel
theorem dX5_paint_4 : decode cX5_paint 4 = .ok (.ifCond .eq 17, 3) := by decide +kernel
theorem dX5_paint_7 : decode cX5_paint 7 = .ok (.iload_n 2, 1) := by decide +kernel
theorem dX5_paint_8 : decode cX5_paint 8 = .ok (.invokestatic 54, 3) := by decide +kernel
theorem dX5_paint_11 : decode cX5_paint 11 = .ok (.ifCond .eq 10, 3) := by decide +kernel
theorem dX5_paint_14 : decode cX5_paint 14 = .ok (.iload_n 3, 1) := by decide +kernel
theorem dX5_paint_15 : decode cX5_paint 15 = .ok (.invokestatic 101, 3) := by decide +kernel
theorem dX5_paint_18 : decode cX5_paint 18 = .ok (.ifCond .ne 5, 3) := by decide +kernel
theorem dX5_paint_21 : decode cX5_paint 21 = .ok (.iconst (-1), 1) := by decide +kernel
theorem dX5_paint_22 : decode cX5_paint 22 = .ok (.ireturn, 1) := by decide +kernel
theorem dX5_paint_23 : decode cX5_paint 23 = .ok (.aload_n 0, 1) := by decide +kernel
theorem dX5_paint_24 : decode cX5_paint 24 = .ok (.getfield 22, 3) := by decide +kernel
theorem dX5_paint_27 : decode cX5_paint 27 = .ok (.aload_n 0, 1) := by decide +kernel
theorem dX5_paint_28 : decode cX5_paint 28 = .ok (.getfield 12, 3) := by decide +kernel
theorem dX5_paint_31 : decode cX5_paint 31 = .ok (.invokevirtual 60, 3) := by decide +kernel
theorem dX5_paint_34 : decode cX5_paint 34 = .ok (.pop, 1) := by decide +kernel
theorem dX5_paint_35 : decode cX5_paint 35 = .ok (.iload_n 1, 1) := by decide +kernel
theorem dX5_paint_36 : decode cX5_paint 36 = .ok (.iload_n 2, 1) := by decide +kernel
theorem dX5_paint_37 : decode cX5_paint 37 = .ok (.invokestatic 80, 3) := by decide +kernel
theorem dX5_paint_40 : decode cX5_paint 40 = .ok (.istore 4, 2) := by decide +kernel
theorem dX5_paint_42 : decode cX5_paint 42 = .ok (.aload_n 0, 1) := by decide +kernel
theorem dX5_paint_43 : decode cX5_paint 43 = .ok (.getfield 12, 3) := by decide +kernel
theorem dX5_paint_46 : decode cX5_paint 46 = .ok (.getfield 104, 3) := by decide +kernel
theorem dX5_paint_49 : decode cX5_paint 49 = .ok (.iload 4, 2) := by decide +kernel
theorem dX5_paint_51 : decode cX5_paint 51 = .ok (.iaload, 1) := by decide +kernel
theorem dX5_paint_52 : decode cX5_paint 52 = .ok (.istore 5, 2) := by decide +kernel
theorem dX5_paint_54 : decode cX5_paint 54 = .ok (.aload_n 0, 1) := by decide +kernel
theorem dX5_paint_55 : decode cX5_paint 55 = .ok (.getfield 12, 3) := by decide +kernel
theorem dX5_paint_58 : decode cX5_paint 58 = .ok (.getfield 107, 3) := by decide +kernel
theorem dX5_paint_61 : decode cX5_paint 61 = .ok (.iload 4, 2) := by decide +kernel
theorem dX5_paint_63 : decode cX5_paint 63 = .ok (.iaload, 1) := by decide +kernel
theorem dX5_paint_64 : decode cX5_paint 64 = .ok (.bipush (-4), 2) := by decide +kernel
theorem dX5_paint_66 : decode cX5_paint 66 = .ok (.if_icmp .ne 15, 3) := by decide +kernel
theorem dX5_paint_69 : decode cX5_paint 69 = .ok (.aload_n 0, 1) := by decide +kernel
theorem dX5_paint_70 : decode cX5_paint 70 = .ok (.getfield 12, 3) := by decide +kernel
theorem dX5_paint_73 : decode cX5_paint 73 = .ok (.getfield 107, 3) := by decide +kernel
theorem dX5_paint_76 : decode cX5_paint 76 = .ok (.iload 4, 2) := by decide +kernel
theorem dX5_paint_78 : decode cX5_paint 78 = .ok (.iload 5, 2) := by decide +kernel
theorem dX5_paint_80 : decode cX5_paint 80 = .ok (.iastore, 1) := by decide +kernel
theorem dX5_paint_81 : decode cX5_paint 81 = .ok (.aload_n 0, 1) := by decide +kernel
theorem dX5_paint_82 : decode cX5_paint 82 = .ok (.getfield 12, 3) := by decide +kernel
theorem dX5_paint_85 : decode cX5_paint 85 = .ok (.getfield 104, 3) := by decide +kernel
theorem dX5_paint_88 : decode cX5_paint 88 = .ok (.iload 4, 2) := by decide +kernel
theorem dX5_paint_90 : decode cX5_paint 90 = .ok (.iload_n 3, 1) := by decide +kernel
theorem dX5_paint_91 : decode cX5_paint 91 = .ok (.iastore, 1) := by decide +kernel
theorem dX5_paint_92 : decode cX5_paint 92 = .ok (.iload 5, 2) := by decide +kernel
theorem dX5_paint_94 : decode cX5_paint 94 = .ok (.ireturn, 1) := by decide +kernel
theorem dX5_wipe_0 : decode cX5_wipe 0 = .ok (.iload_n 1, 1) := by decide +kernel
theorem dX5_wipe_1 : decode cX5_wipe 1 = .ok (.invokestatic 50, 3) := by decide +kernel
theorem dX5_wipe_4 : decode cX5_wipe 4 = .ok (.ifCond .ne 5, 3) := by decide +kernel
theorem dX5_wipe_7 : decode cX5_wipe 7 = .ok (.iconst (-1), 1) := by decide +kernel
theorem dX5_wipe_8 : decode cX5_wipe 8 = .ok (.ireturn, 1) := by decide +kernel
theorem dX5_wipe_9 : decode cX5_wipe 9 = .ok (.aload_n 0, 1) := by decide +kernel
theorem dX5_wipe_10 : decode cX5_wipe 10 = .ok (.getfield 22, 3) := by decide +kernel
theorem dX5_wipe_13 : decode cX5_wipe 13 = .ok (.aload_n 0, 1) := by decide +kernel
theorem dX5_wipe_14 : decode cX5_wipe 14 = .ok (.getfield 12, 3) := by decide +kernel
theorem dX5_wipe_17 : decode cX5_wipe 17 = .ok (.invokevirtual 60, 3) := by decide +kernel
theorem dX5_wipe_20 : decode cX5_wipe 20 = .ok (.pop, 1) := by decide +kernel
theorem dX5_wipe_21 : decode cX5_wipe 21 = .ok (.iconst 0, 1) := by decide +kernel
theorem dX5_wipe_22 : decode cX5_wipe 22 = .ok (.istore_n 2, 1) := by decide +kernel
theorem dX5_wipe_23 : decode cX5_wipe 23 = .ok (.iconst 0, 1) := by decide +kernel
theorem dX5_wipe_24 : decode cX5_wipe 24 = .ok (.istore_n 3, 1) := by decide +kernel
theorem dX5_wipe_25 : decode cX5_wipe 25 = .ok (.iload_n 3, 1) := by decide +kernel
theorem dX5_wipe_26 : decode cX5_wipe 26 = .ok (.bipush 32, 2) := by decide +kernel
theorem dX5_wipe_28 : decode cX5_wipe 28 = .ok (.if_icmp .ge 66, 3) := by decide +kernel
theorem dX5_wipe_31 : decode cX5_wipe 31 = .ok (.iload_n 1, 1) := by decide +kernel
theorem dX5_wipe_32 : decode cX5_wipe 32 = .ok (.iload_n 3, 1) := by decide +kernel
theorem dX5_wipe_33 : decode cX5_wipe 33 = .ok (.invokestatic 80, 3) := by decide +kernel
theorem dX5_wipe_36 : decode cX5_wipe 36 = .ok (.istore 4, 2) := by decide +kernel
theorem dX5_wipe_38 : decode cX5_wipe 38 = .ok (.aload_n 0, 1) := by decide +kernel
theorem dX5_wipe_39 : decode cX5_wipe 39 = .ok (.getfield 12, 3) := by decide +kernel
theorem dX5_wipe_42 : decode cX5_wipe 42 = .ok (.getfield 107, 3) := by decide +kernel
theorem dX5_wipe_45 : decode cX5_wipe 45 = .ok (.iload 4, 2) := by decide +kernel
theorem dX5_wipe_47 : decode cX5_wipe 47 = .ok (.iaload, 1) := by decide +kernel
theorem dX5_wipe_48 : decode cX5_wipe 48 = .ok (.bipush (-4), 2) := by decide +kernel
theorem dX5_wipe_50 : decode cX5_wipe 50 = .ok (.if_icmp .eq 38, 3) := by decide +kernel
theorem dX5_wipe_53 : decode cX5_wipe 53 = .ok (.aload_n 0, 1) := by decide +kernel
theorem dX5_wipe_54 : decode cX5_wipe 54 = .ok (.getfield 12, 3) := by decide +kernel
theorem dX5_wipe_57 : decode cX5_wipe 57 = .ok (.getfield 104, 3) := by decide +kernel
theorem dX5_wipe_60 : decode cX5_wipe 60 = .ok (.iload 4, 2) := by decide +kernel
theorem dX5_wipe_62 : decode cX5_wipe 62 = .ok (.aload_n 0, 1) := by decide +kernel
theorem dX5_wipe_63 : decode cX5_wipe 63 = .ok (.getfield 12, 3) := by decide +kernel
theorem dX5_wipe_66 : decode cX5_wipe 66 = .ok (.getfield 107, 3) := by decide +kernel
theorem dX5_wipe_69 : decode cX5_wipe 69 = .ok (.iload 4, 2) := by decide +kernel
theorem dX5_wipe_71 : decode cX5_wipe 71 = .ok (.iaload, 1) := by decide +kernel
theorem dX5_wipe_72 : decode cX5_wipe 72 = .ok (.iastore, 1) := by decide +kernel
theorem dX5_wipe_73 : decode cX5_wipe 73 = .ok (.aload_n 0, 1) := by decide +kernel
theorem dX5_wipe_74 : decode cX5_wipe 74 = .ok (.getfield 12, 3) := by decide +kernel
theorem dX5_wipe_77 : decode cX5_wipe 77 = .ok (.getfield 107, 3) := by decide +kernel
theorem dX5_wipe_80 : decode cX5_wipe 80 = .ok (.iload 4, 2) := by decide +kernel
theorem dX5_wipe_82 : decode cX5_wipe 82 = .ok (.bipush (-4), 2) := by decide +kernel
theorem dX5_wipe_84 : decode cX5_wipe 84 = .ok (.iastore, 1) := by decide +kernel
theorem dX5_wipe_85 : decode cX5_wipe 85 = .ok (.iinc 2 1, 3) := by decide +kernel
theorem dX5_wipe_88 : decode cX5_wipe 88 = .ok (.iinc 3 1, 3) := by decide +kernel
theorem dX5_wipe_91 : decode cX5_wipe 91 = .ok (.goto (-66), 3) := by decide +kernel
theorem dX5_wipe_94 : decode cX5_wipe 94 = .ok (.iload_n 2, 1) := by decide +kernel
theorem dX5_wipe_95 : decode cX5_wipe 95 = .ok (.ireturn, 1) := by decide +kernel
theorem dX5_set_0 : decode cX5_set 0 = .ok (.iload_n 1, 1) := by decide +kernel
theorem dX5_set_1 : decode cX5_set 1 = .ok (.ifCond .lt 9, 3) := by decide +kernel
theorem dX5_set_4 : decode cX5_set 4 = .ok (.iload_n 1, 1) := by decide +kernel
theorem dX5_set_5 : decode cX5_set 5 = .ok (.bipush 6, 2) := by decide +kernel
theorem dX5_set_7 : decode cX5_set 7 = .ok (.if_icmp .lt 5, 3) := by decide +kernel
theorem dX5_set_10 : decode cX5_set 10 = .ok (.iconst (-1), 1) := by decide +kernel
theorem dX5_set_11 : decode cX5_set 11 = .ok (.ireturn, 1) := by decide +kernel
theorem dX5_set_12 : decode cX5_set 12 = .ok (.iload_n 2, 1) := by decide +kernel
theorem dX5_set_13 : decode cX5_set 13 = .ok (.getstatic 110, 3) := by decide +kernel
theorem dX5_set_16 : decode cX5_set 16 = .ok (.iload_n 1, 1) := by decide +kernel
theorem dX5_set_17 : decode cX5_set 17 = .ok (.iaload, 1) := by decide +kernel
theorem dX5_set_18 : decode cX5_set 18 = .ok (.if_icmp .lt 12, 3) := by decide +kernel
theorem dX5_set_21 : decode cX5_set 21 = .ok (.iload_n 2, 1) := by decide +kernel
theorem dX5_set_22 : decode cX5_set 22 = .ok (.getstatic 113, 3) := by decide +kernel
theorem dX5_set_25 : decode cX5_set 25 = .ok (.iload_n 1, 1) := by decide +kernel
theorem dX5_set_26 : decode cX5_set 26 = .ok (.iaload, 1) := by decide +kernel
theorem dX5_set_27 : decode cX5_set 27 = .ok (.if_icmp .le 5, 3) := by decide +kernel
theorem dX5_set_30 : decode cX5_set 30 = .ok (.iconst (-1), 1) := by decide +kernel
theorem dX5_set_31 : decode cX5_set 31 = .ok (.ireturn, 1) := by decide +kernel
theorem dX5_set_32 : decode cX5_set 32 = .ok (.aload_n 0, 1) := by decide +kernel
theorem dX5_set_33 : decode cX5_set 33 = .ok (.getfield 22, 3) := by decide +kernel
theorem dX5_set_36 : decode cX5_set 36 = .ok (.aload_n 0, 1) := by decide +kernel
theorem dX5_set_37 : decode cX5_set 37 = .ok (.getfield 12, 3) := by decide +kernel
theorem dX5_set_40 : decode cX5_set 40 = .ok (.invokevirtual 60, 3) := by decide +kernel
theorem dX5_set_43 : decode cX5_set 43 = .ok (.pop, 1) := by decide +kernel
theorem dX5_set_44 : decode cX5_set 44 = .ok (.aload_n 0, 1) := by decide +kernel
theorem dX5_set_45 : decode cX5_set 45 = .ok (.getfield 12, 3) := by decide +kernel
theorem dX5_set_48 : decode cX5_set 48 = .ok (.getfield 116, 3) := by decide +kernel
theorem dX5_set_51 : decode cX5_set 51 = .ok (.iload_n 1, 1) := by decide +kernel
theorem dX5_set_52 : decode cX5_set 52 = .ok (.iaload, 1) := by decide +kernel
theorem dX5_set_53 : decode cX5_set 53 = .ok (.istore_n 3, 1) := by decide +kernel
theorem dX5_set_54 : decode cX5_set 54 = .ok (.aload_n 0, 1) := by decide +kernel
theorem dX5_set_55 : decode cX5_set 55 = .ok (.getfield 12, 3) := by decide +kernel
theorem dX5_set_58 : decode cX5_set 58 = .ok (.getfield 116, 3) := by decide +kernel
theorem dX5_set_61 : decode cX5_set 61 = .ok (.iload_n 1, 1) := by decide +kernel
theorem dX5_set_62 : decode cX5_set 62 = .ok (.iload_n 2, 1) := by decide +kernel
theorem dX5_set_63 : decode cX5_set 63 = .ok (.iastore, 1) := by decide +kernel
theorem dX5_set_64 : decode cX5_set 64 = .ok (.iload_n 3, 1) := by decide +kernel
theorem dX5_set_65 : decode cX5_set 65 = .ok (.ireturn, 1) := by decide +kernel
theorem dX5_lot_0 : decode cX5_lot 0 = .ok (.iload_n 1, 1) := by decide +kernel
theorem dX5_lot_1 : decode cX5_lot 1 = .ok (.ifCond .lt 10, 3) := by decide +kernel
theorem dX5_lot_4 : decode cX5_lot 4 = .ok (.iload_n 1, 1) := by decide +kernel
theorem dX5_lot_5 : decode cX5_lot 5 = .ok (.sipush 10000, 3) := by decide +kernel
theorem dX5_lot_8 : decode cX5_lot 8 = .ok (.if_icmp .lt 5, 3) := by decide +kernel
theorem dX5_lot_11 : decode cX5_lot 11 = .ok (.iconst (-1), 1) := by decide +kernel
theorem dX5_lot_12 : decode cX5_lot 12 = .ok (.ireturn, 1) := by decide +kernel
theorem dX5_lot_13 : decode cX5_lot 13 = .ok (.aload_n 0, 1) := by decide +kernel
theorem dX5_lot_14 : decode cX5_lot 14 = .ok (.getfield 22, 3) := by decide +kernel
theorem dX5_lot_17 : decode cX5_lot 17 = .ok (.aload_n 0, 1) := by decide +kernel
theorem dX5_lot_18 : decode cX5_lot 18 = .ok (.getfield 12, 3) := by decide +kernel
theorem dX5_lot_21 : decode cX5_lot 21 = .ok (.invokevirtual 60, 3) := by decide +kernel
theorem dX5_lot_24 : decode cX5_lot 24 = .ok (.pop, 1) := by decide +kernel
theorem dX5_lot_25 : decode cX5_lot 25 = .ok (.aload_n 0, 1) := by decide +kernel
theorem dX5_lot_26 : decode cX5_lot 26 = .ok (.getfield 12, 3) := by decide +kernel
theorem dX5_lot_29 : decode cX5_lot 29 = .ok (.getfield 119, 3) := by decide +kernel
theorem dX5_lot_32 : decode cX5_lot 32 = .ok (.istore_n 2, 1) := by decide +kernel
theorem dX5_lot_33 : decode cX5_lot 33 = .ok (.aload_n 0, 1) := by decide +kernel
theorem dX5_lot_34 : decode cX5_lot 34 = .ok (.getfield 12, 3) := by decide +kernel
theorem dX5_lot_37 : decode cX5_lot 37 = .ok (.iload_n 1, 1) := by decide +kernel
theorem dX5_lot_38 : decode cX5_lot 38 = .ok (.putfield 119, 3) := by decide +kernel
theorem dX5_lot_41 : decode cX5_lot 41 = .ok (.iload_n 2, 1) := by decide +kernel
theorem dX5_lot_42 : decode cX5_lot 42 = .ok (.ireturn, 1) := by decide +kernel
theorem dX5_append_0 : decode cX5_append 0 = .ok (.iload_n 1, 1) := by decide +kernel
theorem dX5_append_1 : decode cX5_append 1 = .ok (.bipush 33, 2) := by decide +kernel
theorem dX5_append_3 : decode cX5_append 3 = .ok (.if_icmp .lt 9, 3) := by decide +kernel
theorem dX5_append_6 : decode cX5_append 6 = .ok (.iload_n 1, 1) := by decide +kernel
theorem dX5_append_7 : decode cX5_append 7 = .ok (.bipush 126, 2) := by decide +kernel
theorem dX5_append_9 : decode cX5_append 9 = .ok (.if_icmp .le 5, 3) := by decide +kernel
theorem dX5_append_12 : decode cX5_append 12 = .ok (.iconst (-1), 1) := by decide +kernel
theorem dX5_append_13 : decode cX5_append 13 = .ok (.ireturn, 1) := by decide +kernel
theorem dX5_append_14 : decode cX5_append 14 = .ok (.aload_n 0, 1) := by decide +kernel
theorem dX5_append_15 : decode cX5_append 15 = .ok (.getfield 29, 3) := by decide +kernel
theorem dX5_append_18 : decode cX5_append 18 = .ok (.iload_n 1, 1) := by decide +kernel
theorem dX5_append_19 : decode cX5_append 19 = .ok (.invokevirtual 123, 3) := by decide +kernel
theorem dX5_append_22 : decode cX5_append 22 = .ok (.ifCond .eq 13, 3) := by decide +kernel
theorem dX5_append_25 : decode cX5_append 25 = .ok (.aload_n 0, 1) := by decide +kernel
theorem dX5_append_26 : decode cX5_append 26 = .ok (.getfield 29, 3) := by decide +kernel
theorem dX5_append_29 : decode cX5_append 29 = .ok (.getfield 126, 3) := by decide +kernel
theorem dX5_append_32 : decode cX5_append 32 = .ok (.goto 5, 3) := by decide +kernel
theorem dX5_append_35 : decode cX5_append 35 = .ok (.bipush (-3), 2) := by decide +kernel
theorem dX5_append_37 : decode cX5_append 37 = .ok (.ireturn, 1) := by decide +kernel
theorem dX5_clear_0 : decode cX5_clear 0 = .ok (.aload_n 0, 1) := by decide +kernel
theorem dX5_clear_1 : decode cX5_clear 1 = .ok (.getfield 29, 3) := by decide +kernel
theorem dX5_clear_4 : decode cX5_clear 4 = .ok (.getfield 126, 3) := by decide +kernel
theorem dX5_clear_7 : decode cX5_clear 7 = .ok (.istore_n 1, 1) := by decide +kernel
theorem dX5_clear_8 : decode cX5_clear 8 = .ok (.aload_n 0, 1) := by decide +kernel
theorem dX5_clear_9 : decode cX5_clear 9 = .ok (.getfield 29, 3) := by decide +kernel
theorem dX5_clear_12 : decode cX5_clear 12 = .ok (.iconst 0, 1) := by decide +kernel
theorem dX5_clear_13 : decode cX5_clear 13 = .ok (.putfield 126, 3) := by decide +kernel
theorem dX5_clear_16 : decode cX5_clear 16 = .ok (.iload_n 1, 1) := by decide +kernel
theorem dX5_clear_17 : decode cX5_clear 17 = .ok (.ireturn, 1) := by decide +kernel
theorem dX5_fault_0 : decode cX5_fault 0 = .ok (.iload_n 1, 1) := by decide +kernel
theorem dX5_fault_1 : decode cX5_fault 1 = .ok (.lookupswitch 43 #[(0, 27), (1, 35)], 27) := by decide +kernel
theorem dX5_fault_28 : decode cX5_fault 28 = .ok (.aload_n 0, 1) := by decide +kernel
theorem dX5_fault_29 : decode cX5_fault 29 = .ok (.getfield 29, 3) := by decide +kernel
theorem dX5_fault_32 : decode cX5_fault 32 = .ok (.invokevirtual 129, 3) := by decide +kernel
theorem dX5_fault_35 : decode cX5_fault 35 = .ok (.ireturn, 1) := by decide +kernel
theorem dX5_fault_36 : decode cX5_fault 36 = .ok (.aload_n 0, 1) := by decide +kernel
theorem dX5_fault_37 : decode cX5_fault 37 = .ok (.getfield 29, 3) := by decide +kernel
theorem dX5_fault_40 : decode cX5_fault 40 = .ok (.invokevirtual 133, 3) := by decide +kernel
theorem dX5_fault_43 : decode cX5_fault 43 = .ok (.ireturn, 1) := by decide +kernel
theorem dX5_fault_44 : decode cX5_fault 44 = .ok (.iconst (-1), 1) := by decide +kernel
theorem dX5_fault_45 : decode cX5_fault 45 = .ok (.ireturn, 1) := by decide +kernel
theorem dX5_draw_0 : decode cX5_draw 0 = .ok (.aload_n 0, 1) := by decide +kernel
theorem dX5_draw_1 : decode cX5_draw 1 = .ok (.getfield 29, 3) := by decide +kernel
theorem dX5_draw_4 : decode cX5_draw 4 = .ok (.invokevirtual 129, 3) := by decide +kernel
theorem dX5_draw_7 : decode cX5_draw 7 = .ok (.bipush (-4), 2) := by decide +kernel
theorem dX5_draw_9 : decode cX5_draw 9 = .ok (.if_icmp .eq 6, 3) := by decide +kernel
theorem dX5_draw_12 : decode cX5_draw 12 = .ok (.bipush (-2), 2) := by decide +kernel
theorem dX5_draw_14 : decode cX5_draw 14 = .ok (.ireturn, 1) := by decide +kernel
theorem dX5_draw_15 : decode cX5_draw 15 = .ok (.aload_n 0, 1) := by decide +kernel
theorem dX5_draw_16 : decode cX5_draw 16 = .ok (.getfield 22, 3) := by decide +kernel
theorem dX5_draw_19 : decode cX5_draw 19 = .ok (.aload_n 0, 1) := by decide +kernel
theorem dX5_draw_20 : decode cX5_draw 20 = .ok (.getfield 12, 3) := by decide +kernel
theorem dX5_draw_23 : decode cX5_draw 23 = .ok (.invokevirtual 60, 3) := by decide +kernel
theorem dX5_draw_26 : decode cX5_draw 26 = .ok (.astore_n 1, 1) := by decide +kernel
theorem dX5_draw_27 : decode cX5_draw 27 = .ok (.aload_n 0, 1) := by decide +kernel
theorem dX5_draw_28 : decode cX5_draw 28 = .ok (.getfield 29, 3) := by decide +kernel
theorem dX5_draw_31 : decode cX5_draw 31 = .ok (.aload_n 0, 1) := by decide +kernel
theorem dX5_draw_32 : decode cX5_draw 32 = .ok (.getfield 12, 3) := by decide +kernel
theorem dX5_draw_35 : decode cX5_draw 35 = .ok (.invokevirtual 136, 3) := by decide +kernel
theorem dX5_draw_38 : decode cX5_draw 38 = .ok (.aload_n 0, 1) := by decide +kernel
theorem dX5_draw_39 : decode cX5_draw 39 = .ok (.getfield 29, 3) := by decide +kernel
theorem dX5_draw_42 : decode cX5_draw 42 = .ok (.iconst 0, 1) := by decide +kernel
theorem dX5_draw_43 : decode cX5_draw 43 = .ok (.putfield 126, 3) := by decide +kernel
theorem dX5_draw_46 : decode cX5_draw 46 = .ok (.aload_n 0, 1) := by decide +kernel
theorem dX5_draw_47 : decode cX5_draw 47 = .ok (.getfield 12, 3) := by decide +kernel
theorem dX5_draw_50 : decode cX5_draw 50 = .ok (.aload_n 1, 1) := by decide +kernel
theorem dX5_draw_51 : decode cX5_draw 51 = .ok (.invokevirtual 68, 3) := by decide +kernel
theorem dX5_draw_54 : decode cX5_draw 54 = .ok (.ireturn, 1) := by decide +kernel
theorem dX5_wind_0 : decode cX5_wind 0 = .ok (.aload_n 0, 1) := by decide +kernel
theorem dX5_wind_1 : decode cX5_wind 1 = .ok (.getfield 29, 3) := by decide +kernel
theorem dX5_wind_4 : decode cX5_wind 4 = .ok (.invokevirtual 133, 3) := by decide +kernel
theorem dX5_wind_7 : decode cX5_wind 7 = .ok (.bipush (-4), 2) := by decide +kernel
theorem dX5_wind_9 : decode cX5_wind 9 = .ok (.if_icmp .eq 6, 3) := by decide +kernel
theorem dX5_wind_12 : decode cX5_wind 12 = .ok (.bipush (-2), 2) := by decide +kernel
theorem dX5_wind_14 : decode cX5_wind 14 = .ok (.ireturn, 1) := by decide +kernel
theorem dX5_wind_15 : decode cX5_wind 15 = .ok (.aload_n 0, 1) := by decide +kernel
theorem dX5_wind_16 : decode cX5_wind 16 = .ok (.getfield 22, 3) := by decide +kernel
theorem dX5_wind_19 : decode cX5_wind 19 = .ok (.aload_n 0, 1) := by decide +kernel
theorem dX5_wind_20 : decode cX5_wind 20 = .ok (.getfield 12, 3) := by decide +kernel
theorem dX5_wind_23 : decode cX5_wind 23 = .ok (.invokevirtual 60, 3) := by decide +kernel
theorem dX5_wind_26 : decode cX5_wind 26 = .ok (.pop, 1) := by decide +kernel
theorem dX5_wind_27 : decode cX5_wind 27 = .ok (.aload_n 0, 1) := by decide +kernel
theorem dX5_wind_28 : decode cX5_wind 28 = .ok (.getfield 29, 3) := by decide +kernel
theorem dX5_wind_31 : decode cX5_wind 31 = .ok (.aload_n 0, 1) := by decide +kernel
theorem dX5_wind_32 : decode cX5_wind 32 = .ok (.getfield 12, 3) := by decide +kernel
theorem dX5_wind_35 : decode cX5_wind 35 = .ok (.invokevirtual 140, 3) := by decide +kernel
theorem dX5_wind_38 : decode cX5_wind 38 = .ok (.aload_n 0, 1) := by decide +kernel
theorem dX5_wind_39 : decode cX5_wind 39 = .ok (.getfield 29, 3) := by decide +kernel
theorem dX5_wind_42 : decode cX5_wind 42 = .ok (.iconst 0, 1) := by decide +kernel
theorem dX5_wind_43 : decode cX5_wind 43 = .ok (.putfield 126, 3) := by decide +kernel
theorem dX5_wind_46 : decode cX5_wind 46 = .ok (.aload_n 0, 1) := by decide +kernel
theorem dX5_wind_47 : decode cX5_wind 47 = .ok (.getfield 12, 3) := by decide +kernel
theorem dX5_wind_50 : decode cX5_wind 50 = .ok (.getfield 143, 3) := by decide +kernel
theorem dX5_wind_53 : decode cX5_wind 53 = .ok (.ireturn, 1) := by decide +kernel
theorem dX5_unwind_0 : decode cX5_unwind 0 = .ok (.aload_n 0, 1) := by decide +kernel
theorem dX5_unwind_1 : decode cX5_unwind 1 = .ok (.getfield 12, 3) := by decide +kernel
theorem dX5_unwind_4 : decode cX5_unwind 4 = .ok (.getfield 143, 3) := by decide +kernel
theorem dX5_unwind_7 : decode cX5_unwind 7 = .ok (.ifCond .ne 6, 3) := by decide +kernel
theorem dX5_unwind_10 : decode cX5_unwind 10 = .ok (.bipush (-2), 2) := by decide +kernel
theorem dX5_unwind_12 : decode cX5_unwind 12 = .ok (.ireturn, 1) := by decide +kernel
theorem dX5_unwind_13 : decode cX5_unwind 13 = .ok (.aload_n 0, 1) := by decide +kernel
theorem dX5_unwind_14 : decode cX5_unwind 14 = .ok (.getfield 22, 3) := by decide +kernel
theorem dX5_unwind_17 : decode cX5_unwind 17 = .ok (.aload_n 0, 1) := by decide +kernel
theorem dX5_unwind_18 : decode cX5_unwind 18 = .ok (.getfield 12, 3) := by decide +kernel
theorem dX5_unwind_21 : decode cX5_unwind 21 = .ok (.invokevirtual 60, 3) := by decide +kernel
theorem dX5_unwind_24 : decode cX5_unwind 24 = .ok (.pop, 1) := by decide +kernel
theorem dX5_unwind_25 : decode cX5_unwind 25 = .ok (.aload_n 0, 1) := by decide +kernel
theorem dX5_unwind_26 : decode cX5_unwind 26 = .ok (.getfield 12, 3) := by decide +kernel
theorem dX5_unwind_29 : decode cX5_unwind 29 = .ok (.getfield 143, 3) := by decide +kernel
theorem dX5_unwind_32 : decode cX5_unwind 32 = .ok (.istore_n 1, 1) := by decide +kernel
theorem dX5_unwind_33 : decode cX5_unwind 33 = .ok (.aload_n 0, 1) := by decide +kernel
theorem dX5_unwind_34 : decode cX5_unwind 34 = .ok (.getfield 12, 3) := by decide +kernel
theorem dX5_unwind_37 : decode cX5_unwind 37 = .ok (.iconst 0, 1) := by decide +kernel
theorem dX5_unwind_38 : decode cX5_unwind 38 = .ok (.putfield 143, 3) := by decide +kernel
theorem dX5_unwind_41 : decode cX5_unwind 41 = .ok (.iload_n 1, 1) := by decide +kernel
theorem dX5_unwind_42 : decode cX5_unwind 42 = .ok (.ireturn, 1) := by decide +kernel
theorem dX5_at_0 : decode cX5_at 0 = .ok (.iload_n 1, 1) := by decide +kernel
theorem dX5_at_1 : decode cX5_at 1 = .ok (.invokestatic 50, 3) := by decide +kernel
theorem dX5_at_4 : decode cX5_at 4 = .ok (.ifCond .eq 10, 3) := by decide +kernel
theorem dX5_at_7 : decode cX5_at 7 = .ok (.iload_n 2, 1) := by decide +kernel
theorem dX5_at_8 : decode cX5_at 8 = .ok (.invokestatic 54, 3) := by decide +kernel
theorem dX5_at_11 : decode cX5_at 11 = .ok (.ifCond .ne 5, 3) := by decide +kernel
theorem dX5_at_14 : decode cX5_at 14 = .ok (.iconst (-1), 1) := by decide +kernel
theorem dX5_at_15 : decode cX5_at 15 = .ok (.ireturn, 1) := by decide +kernel
theorem dX5_at_16 : decode cX5_at 16 = .ok (.aload_n 0, 1) := by decide +kernel
theorem dX5_at_17 : decode cX5_at 17 = .ok (.getfield 36, 3) := by decide +kernel
theorem dX5_at_20 : decode cX5_at 20 = .ok (.aload_n 0, 1) := by decide +kernel
theorem dX5_at_21 : decode cX5_at 21 = .ok (.getfield 12, 3) := by decide +kernel
theorem dX5_at_24 : decode cX5_at 24 = .ok (.iload_n 1, 1) := by decide +kernel
theorem dX5_at_25 : decode cX5_at 25 = .ok (.invokevirtual 146, 3) := by decide +kernel
theorem dX5_at_28 : decode cX5_at 28 = .ok (.iload_n 3, 1) := by decide +kernel
theorem dX5_at_29 : decode cX5_at 29 = .ok (.tableswitch 133 0 7 #[47, 57, 67, 77, 86, 96, 106, 123], 47) := by decide +kernel
theorem dX5_at_76 : decode cX5_at 76 = .ok (.aload_n 0, 1) := by decide +kernel
theorem dX5_at_77 : decode cX5_at 77 = .ok (.getfield 36, 3) := by decide +kernel
theorem dX5_at_80 : decode cX5_at 80 = .ok (.getfield 76, 3) := by decide +kernel
theorem dX5_at_83 : decode cX5_at 83 = .ok (.iload_n 2, 1) := by decide +kernel
theorem dX5_at_84 : decode cX5_at 84 = .ok (.iaload, 1) := by decide +kernel
theorem dX5_at_85 : decode cX5_at 85 = .ok (.ireturn, 1) := by decide +kernel
theorem dX5_at_86 : decode cX5_at 86 = .ok (.aload_n 0, 1) := by decide +kernel
theorem dX5_at_87 : decode cX5_at 87 = .ok (.getfield 36, 3) := by decide +kernel
theorem dX5_at_90 : decode cX5_at 90 = .ok (.getfield 149, 3) := by decide +kernel
theorem dX5_at_93 : decode cX5_at 93 = .ok (.iload_n 2, 1) := by decide +kernel
theorem dX5_at_94 : decode cX5_at 94 = .ok (.iaload, 1) := by decide +kernel
theorem dX5_at_95 : decode cX5_at 95 = .ok (.ireturn, 1) := by decide +kernel
theorem dX5_at_96 : decode cX5_at 96 = .ok (.aload_n 0, 1) := by decide +kernel
theorem dX5_at_97 : decode cX5_at 97 = .ok (.getfield 36, 3) := by decide +kernel
theorem dX5_at_100 : decode cX5_at 100 = .ok (.getfield 150, 3) := by decide +kernel
theorem dX5_at_103 : decode cX5_at 103 = .ok (.iload_n 2, 1) := by decide +kernel
theorem dX5_at_104 : decode cX5_at 104 = .ok (.iaload, 1) := by decide +kernel
theorem dX5_at_105 : decode cX5_at 105 = .ok (.ireturn, 1) := by decide +kernel
theorem dX5_at_106 : decode cX5_at 106 = .ok (.aload_n 0, 1) := by decide +kernel
theorem dX5_at_107 : decode cX5_at 107 = .ok (.getfield 36, 3) := by decide +kernel
theorem dX5_at_110 : decode cX5_at 110 = .ok (.iload_n 2, 1) := by decide +kernel
theorem dX5_at_111 : decode cX5_at 111 = .ok (.invokevirtual 153, 3) := by decide +kernel
theorem dX5_at_114 : decode cX5_at 114 = .ok (.ireturn, 1) := by decide +kernel
theorem dX5_at_115 : decode cX5_at 115 = .ok (.aload_n 0, 1) := by decide +kernel
theorem dX5_at_116 : decode cX5_at 116 = .ok (.getfield 36, 3) := by decide +kernel
theorem dX5_at_119 : decode cX5_at 119 = .ok (.getfield 156, 3) := by decide +kernel
theorem dX5_at_122 : decode cX5_at 122 = .ok (.iload_n 2, 1) := by decide +kernel
theorem dX5_at_123 : decode cX5_at 123 = .ok (.iaload, 1) := by decide +kernel
theorem dX5_at_124 : decode cX5_at 124 = .ok (.ireturn, 1) := by decide +kernel
theorem dX5_at_125 : decode cX5_at 125 = .ok (.aload_n 0, 1) := by decide +kernel
theorem dX5_at_126 : decode cX5_at 126 = .ok (.getfield 36, 3) := by decide +kernel
theorem dX5_at_129 : decode cX5_at 129 = .ok (.getfield 159, 3) := by decide +kernel
theorem dX5_at_132 : decode cX5_at 132 = .ok (.iload_n 2, 1) := by decide +kernel
theorem dX5_at_133 : decode cX5_at 133 = .ok (.iaload, 1) := by decide +kernel
theorem dX5_at_134 : decode cX5_at 134 = .ok (.ireturn, 1) := by decide +kernel
theorem dX5_at_135 : decode cX5_at 135 = .ok (.aload_n 0, 1) := by decide +kernel
theorem dX5_at_136 : decode cX5_at 136 = .ok (.getfield 36, 3) := by decide +kernel
theorem dX5_at_139 : decode cX5_at 139 = .ok (.aload_n 0, 1) := by decide +kernel
theorem dX5_at_140 : decode cX5_at 140 = .ok (.getfield 36, 3) := by decide +kernel
theorem dX5_at_143 : decode cX5_at 143 = .ok (.getfield 159, 3) := by decide +kernel
theorem dX5_at_146 : decode cX5_at 146 = .ok (.iload_n 2, 1) := by decide +kernel
theorem dX5_at_147 : decode cX5_at 147 = .ok (.iaload, 1) := by decide +kernel
theorem dX5_at_148 : decode cX5_at 148 = .ok (.invokevirtual 162, 3) := by decide +kernel
theorem dX5_at_151 : decode cX5_at 151 = .ok (.ireturn, 1) := by decide +kernel
theorem dX5_at_152 : decode cX5_at 152 = .ok (.aload_n 0, 1) := by decide +kernel
theorem dX5_at_153 : decode cX5_at 153 = .ok (.getfield 36, 3) := by decide +kernel
theorem dX5_at_156 : decode cX5_at 156 = .ok (.getfield 165, 3) := by decide +kernel
theorem dX5_at_159 : decode cX5_at 159 = .ok (.iload_n 2, 1) := by decide +kernel
theorem dX5_at_160 : decode cX5_at 160 = .ok (.iaload, 1) := by decide +kernel
theorem dX5_at_161 : decode cX5_at 161 = .ok (.ireturn, 1) := by decide +kernel
theorem dX5_at_162 : decode cX5_at 162 = .ok (.iconst (-1), 1) := by decide +kernel
theorem dX5_at_163 : decode cX5_at 163 = .ok (.ireturn, 1) := by decide +kernel
theorem dX5_fits_0 : decode cX5_fits 0 = .ok (.iload_n 1, 1) := by decide +kernel
theorem dX5_fits_1 : decode cX5_fits 1 = .ok (.invokestatic 50, 3) := by decide +kernel
theorem dX5_fits_4 : decode cX5_fits 4 = .ok (.ifCond .eq 17, 3) := by decide +kernel
theorem dX5_fits_7 : decode cX5_fits 7 = .ok (.iload_n 2, 1) := by decide +kernel
theorem dX5_fits_8 : decode cX5_fits 8 = .ok (.invokestatic 54, 3) := by decide +kernel
theorem dX5_fits_11 : decode cX5_fits 11 = .ok (.ifCond .eq 10, 3) := by decide +kernel
theorem dX5_fits_14 : decode cX5_fits 14 = .ok (.iload_n 3, 1) := by decide +kernel
theorem dX5_fits_15 : decode cX5_fits 15 = .ok (.invokestatic 57, 3) := by decide +kernel
theorem dX5_fits_18 : decode cX5_fits 18 = .ok (.ifCond .ne 5, 3) := by decide +kernel
theorem dX5_fits_21 : decode cX5_fits 21 = .ok (.iconst (-1), 1) := by decide +kernel
theorem dX5_fits_22 : decode cX5_fits 22 = .ok (.ireturn, 1) := by decide +kernel
theorem dX5_fits_23 : decode cX5_fits 23 = .ok (.aload_n 0, 1) := by decide +kernel
theorem dX5_fits_24 : decode cX5_fits 24 = .ok (.getfield 36, 3) := by decide +kernel
theorem dX5_fits_27 : decode cX5_fits 27 = .ok (.aload_n 0, 1) := by decide +kernel
theorem dX5_fits_28 : decode cX5_fits 28 = .ok (.getfield 12, 3) := by decide +kernel
theorem dX5_fits_31 : decode cX5_fits 31 = .ok (.iload_n 1, 1) := by decide +kernel
theorem dX5_fits_32 : decode cX5_fits 32 = .ok (.invokevirtual 72, 3) := by decide +kernel
theorem dX5_fits_35 : decode cX5_fits 35 = .ok (.aload_n 0, 1) := by decide +kernel
theorem dX5_fits_36 : decode cX5_fits 36 = .ok (.getfield 36, 3) := by decide +kernel
theorem dX5_fits_39 : decode cX5_fits 39 = .ok (.iload_n 2, 1) := by decide +kernel
theorem dX5_fits_40 : decode cX5_fits 40 = .ok (.iload_n 3, 1) := by decide +kernel
theorem dX5_fits_41 : decode cX5_fits 41 = .ok (.invokevirtual 166, 3) := by decide +kernel
theorem dX5_fits_44 : decode cX5_fits 44 = .ok (.ifCond .eq 7, 3) := by decide +kernel
theorem dX5_fits_47 : decode cX5_fits 47 = .ok (.iconst 1, 1) := by decide +kernel
theorem dX5_fits_48 : decode cX5_fits 48 = .ok (.goto 4, 3) := by decide +kernel
theorem dX5_fits_51 : decode cX5_fits 51 = .ok (.iconst 0, 1) := by decide +kernel
theorem dX5_fits_52 : decode cX5_fits 52 = .ok (.ireturn, 1) := by decide +kernel
theorem dX5_row_0 : decode cX5_row 0 = .ok (.iload_n 1, 1) := by decide +kernel
theorem dX5_row_1 : decode cX5_row 1 = .ok (.invokestatic 50, 3) := by decide +kernel
theorem dX5_row_4 : decode cX5_row 4 = .ok (.ifCond .eq 13, 3) := by decide +kernel
theorem dX5_row_7 : decode cX5_row 7 = .ok (.iload_n 2, 1) := by decide +kernel
theorem dX5_row_8 : decode cX5_row 8 = .ok (.ifCond .lt 9, 3) := by decide +kernel
theorem dX5_row_11 : decode cX5_row 11 = .ok (.iload_n 2, 1) := by decide +kernel
theorem dX5_row_12 : decode cX5_row 12 = .ok (.bipush 10, 2) := by decide +kernel
theorem dX5_row_14 : decode cX5_row 14 = .ok (.if_icmp .le 5, 3) := by decide +kernel
theorem dX5_row_17 : decode cX5_row 17 = .ok (.iconst (-1), 1) := by decide +kernel
theorem dX5_row_18 : decode cX5_row 18 = .ok (.ireturn, 1) := by decide +kernel
theorem dX5_row_19 : decode cX5_row 19 = .ok (.aload_n 0, 1) := by decide +kernel
theorem dX5_row_20 : decode cX5_row 20 = .ok (.getfield 36, 3) := by decide +kernel
theorem dX5_row_23 : decode cX5_row 23 = .ok (.aload_n 0, 1) := by decide +kernel
theorem dX5_row_24 : decode cX5_row 24 = .ok (.getfield 12, 3) := by decide +kernel
theorem dX5_row_27 : decode cX5_row 27 = .ok (.iload_n 1, 1) := by decide +kernel
theorem dX5_row_28 : decode cX5_row 28 = .ok (.invokevirtual 146, 3) := by decide +kernel
theorem dX5_row_31 : decode cX5_row 31 = .ok (.iload_n 2, 1) := by decide +kernel
theorem dX5_row_32 : decode cX5_row 32 = .ok (.tableswitch 52 8 10 #[28, 36, 44], 28) := by decide +kernel
theorem dX5_row_60 : decode cX5_row 60 = .ok (.aload_n 0, 1) := by decide +kernel
theorem dX5_row_61 : decode cX5_row 61 = .ok (.getfield 36, 3) := by decide +kernel
theorem dX5_row_64 : decode cX5_row 64 = .ok (.invokevirtual 170, 3) := by decide +kernel
theorem dX5_row_67 : decode cX5_row 67 = .ok (.ireturn, 1) := by decide +kernel
theorem dX5_row_68 : decode cX5_row 68 = .ok (.aload_n 0, 1) := by decide +kernel
theorem dX5_row_69 : decode cX5_row 69 = .ok (.getfield 36, 3) := by decide +kernel
theorem dX5_row_72 : decode cX5_row 72 = .ok (.invokevirtual 173, 3) := by decide +kernel
theorem dX5_row_75 : decode cX5_row 75 = .ok (.ireturn, 1) := by decide +kernel
theorem dX5_row_76 : decode cX5_row 76 = .ok (.aload_n 0, 1) := by decide +kernel
theorem dX5_row_77 : decode cX5_row 77 = .ok (.getfield 36, 3) := by decide +kernel
theorem dX5_row_80 : decode cX5_row 80 = .ok (.invokevirtual 176, 3) := by decide +kernel
theorem dX5_row_83 : decode cX5_row 83 = .ok (.ireturn, 1) := by decide +kernel
theorem dX5_row_84 : decode cX5_row 84 = .ok (.aload_n 0, 1) := by decide +kernel
theorem dX5_row_85 : decode cX5_row 85 = .ok (.getfield 36, 3) := by decide +kernel
theorem dX5_row_88 : decode cX5_row 88 = .ok (.iload_n 2, 1) := by decide +kernel
theorem dX5_row_89 : decode cX5_row 89 = .ok (.invokevirtual 179, 3) := by decide +kernel
theorem dX5_row_92 : decode cX5_row 92 = .ok (.ireturn, 1) := by decide +kernel
theorem dX5_echo_0 : decode cX5_echo 0 = .ok (.iload_n 1, 1) := by decide +kernel
theorem dX5_echo_1 : decode cX5_echo 1 = .ok (.invokestatic 50, 3) := by decide +kernel
theorem dX5_echo_4 : decode cX5_echo 4 = .ok (.ifCond .eq 14, 3) := by decide +kernel
theorem dX5_echo_7 : decode cX5_echo 7 = .ok (.iload_n 2, 1) := by decide +kernel
theorem dX5_echo_8 : decode cX5_echo 8 = .ok (.iconst 2, 1) := by decide +kernel
theorem dX5_echo_9 : decode cX5_echo 9 = .ok (.if_icmp .lt 9, 3) := by decide +kernel
theorem dX5_echo_12 : decode cX5_echo 12 = .ok (.iload_n 2, 1) := by decide +kernel
theorem dX5_echo_13 : decode cX5_echo 13 = .ok (.bipush 24, 2) := by decide +kernel
theorem dX5_echo_15 : decode cX5_echo 15 = .ok (.if_icmp .le 5, 3) := by decide +kernel
theorem dX5_echo_18 : decode cX5_echo 18 = .ok (.iconst (-1), 1) := by decide +kernel
theorem dX5_echo_19 : decode cX5_echo 19 = .ok (.ireturn, 1) := by decide +kernel
theorem dX5_echo_20 : decode cX5_echo 20 = .ok (.aload_n 0, 1) := by decide +kernel
theorem dX5_echo_21 : decode cX5_echo 21 = .ok (.getfield 36, 3) := by decide +kernel
theorem dX5_echo_24 : decode cX5_echo 24 = .ok (.aload_n 0, 1) := by decide +kernel
theorem dX5_echo_25 : decode cX5_echo 25 = .ok (.getfield 12, 3) := by decide +kernel
theorem dX5_echo_28 : decode cX5_echo 28 = .ok (.iload_n 1, 1) := by decide +kernel
theorem dX5_echo_29 : decode cX5_echo 29 = .ok (.invokevirtual 72, 3) := by decide +kernel
theorem dX5_echo_32 : decode cX5_echo 32 = .ok (.aload_n 0, 1) := by decide +kernel
theorem dX5_echo_33 : decode cX5_echo 33 = .ok (.getfield 36, 3) := by decide +kernel
theorem dX5_echo_36 : decode cX5_echo 36 = .ok (.iload_n 2, 1) := by decide +kernel
theorem dX5_echo_37 : decode cX5_echo 37 = .ok (.invokevirtual 182, 3) := by decide +kernel
theorem dX5_echo_40 : decode cX5_echo 40 = .ok (.ireturn, 1) := by decide +kernel
theorem dX5_echoAt_0 : decode cX5_echoAt 0 = .ok (.iload_n 1, 1) := by decide +kernel
theorem dX5_echoAt_1 : decode cX5_echoAt 1 = .ok (.invokestatic 50, 3) := by decide +kernel
theorem dX5_echoAt_4 : decode cX5_echoAt 4 = .ok (.ifCond .eq 13, 3) := by decide +kernel
theorem dX5_echoAt_7 : decode cX5_echoAt 7 = .ok (.iload_n 2, 1) := by decide +kernel
theorem dX5_echoAt_8 : decode cX5_echoAt 8 = .ok (.ifCond .lt 9, 3) := by decide +kernel
theorem dX5_echoAt_11 : decode cX5_echoAt 11 = .ok (.iload_n 2, 1) := by decide +kernel
theorem dX5_echoAt_12 : decode cX5_echoAt 12 = .ok (.bipush 23, 2) := by decide +kernel
theorem dX5_echoAt_14 : decode cX5_echoAt 14 = .ok (.if_icmp .lt 5, 3) := by decide +kernel
theorem dX5_echoAt_17 : decode cX5_echoAt 17 = .ok (.iconst (-1), 1) := by decide +kernel
theorem dX5_echoAt_18 : decode cX5_echoAt 18 = .ok (.ireturn, 1) := by decide +kernel
theorem dX5_echoAt_19 : decode cX5_echoAt 19 = .ok (.aload_n 0, 1) := by decide +kernel
theorem dX5_echoAt_20 : decode cX5_echoAt 20 = .ok (.getfield 36, 3) := by decide +kernel
theorem dX5_echoAt_23 : decode cX5_echoAt 23 = .ok (.aload_n 0, 1) := by decide +kernel
theorem dX5_echoAt_24 : decode cX5_echoAt 24 = .ok (.getfield 12, 3) := by decide +kernel
theorem dX5_echoAt_27 : decode cX5_echoAt 27 = .ok (.iload_n 1, 1) := by decide +kernel
theorem dX5_echoAt_28 : decode cX5_echoAt 28 = .ok (.invokevirtual 72, 3) := by decide +kernel
theorem dX5_echoAt_31 : decode cX5_echoAt 31 = .ok (.iconst 0, 1) := by decide +kernel
theorem dX5_echoAt_32 : decode cX5_echoAt 32 = .ok (.istore_n 3, 1) := by decide +kernel
theorem dX5_echoAt_33 : decode cX5_echoAt 33 = .ok (.iload_n 3, 1) := by decide +kernel
theorem dX5_echoAt_34 : decode cX5_echoAt 34 = .ok (.bipush 23, 2) := by decide +kernel
theorem dX5_echoAt_36 : decode cX5_echoAt 36 = .ok (.if_icmp .ge 25, 3) := by decide +kernel
theorem dX5_echoAt_39 : decode cX5_echoAt 39 = .ok (.aload_n 0, 1) := by decide +kernel
theorem dX5_echoAt_40 : decode cX5_echoAt 40 = .ok (.getfield 47, 3) := by decide +kernel
theorem dX5_echoAt_43 : decode cX5_echoAt 43 = .ok (.iload_n 3, 1) := by decide +kernel
theorem dX5_echoAt_44 : decode cX5_echoAt 44 = .ok (.aload_n 0, 1) := by decide +kernel
theorem dX5_echoAt_45 : decode cX5_echoAt 45 = .ok (.getfield 36, 3) := by decide +kernel
theorem dX5_echoAt_48 : decode cX5_echoAt 48 = .ok (.iconst 2, 1) := by decide +kernel
theorem dX5_echoAt_49 : decode cX5_echoAt 49 = .ok (.iload_n 3, 1) := by decide +kernel
theorem dX5_echoAt_50 : decode cX5_echoAt 50 = .ok (.iadd, 1) := by decide +kernel
theorem dX5_echoAt_51 : decode cX5_echoAt 51 = .ok (.invokevirtual 182, 3) := by decide +kernel
theorem dX5_echoAt_54 : decode cX5_echoAt 54 = .ok (.iastore, 1) := by decide +kernel
theorem dX5_echoAt_55 : decode cX5_echoAt 55 = .ok (.iinc 3 1, 3) := by decide +kernel
theorem dX5_echoAt_58 : decode cX5_echoAt 58 = .ok (.goto (-25), 3) := by decide +kernel
theorem dX5_echoAt_61 : decode cX5_echoAt 61 = .ok (.iconst 2, 1) := by decide +kernel
theorem dX5_echoAt_62 : decode cX5_echoAt 62 = .ok (.aload_n 0, 1) := by decide +kernel
theorem dX5_echoAt_63 : decode cX5_echoAt 63 = .ok (.bipush 23, 2) := by decide +kernel
theorem dX5_echoAt_65 : decode cX5_echoAt 65 = .ok (.iload_n 2, 1) := by decide +kernel
theorem dX5_echoAt_66 : decode cX5_echoAt 66 = .ok (.invokevirtual 185, 3) := by decide +kernel
theorem dX5_echoAt_69 : decode cX5_echoAt 69 = .ok (.iadd, 1) := by decide +kernel
theorem dX5_echoAt_70 : decode cX5_echoAt 70 = .ok (.ireturn, 1) := by decide +kernel
theorem dX5_faulty_0 : decode cX5_faulty 0 = .ok (.iload_n 1, 1) := by decide +kernel
theorem dX5_faulty_1 : decode cX5_faulty 1 = .ok (.invokestatic 50, 3) := by decide +kernel
theorem dX5_faulty_4 : decode cX5_faulty 4 = .ok (.ifCond .ne 5, 3) := by decide +kernel
theorem dX5_faulty_7 : decode cX5_faulty 7 = .ok (.iconst (-1), 1) := by decide +kernel
theorem dX5_faulty_8 : decode cX5_faulty 8 = .ok (.ireturn, 1) := by decide +kernel
theorem dX5_faulty_9 : decode cX5_faulty 9 = .ok (.iconst 0, 1) := by decide +kernel
theorem dX5_faulty_10 : decode cX5_faulty 10 = .ok (.istore_n 2, 1) := by decide +kernel
theorem dX5_faulty_11 : decode cX5_faulty 11 = .ok (.iload_n 2, 1) := by decide +kernel
theorem dX5_faulty_12 : decode cX5_faulty 12 = .ok (.bipush 8, 2) := by decide +kernel
theorem dX5_faulty_14 : decode cX5_faulty 14 = .ok (.if_icmp .ge 56, 3) := by decide +kernel
theorem dX5_faulty_17 : decode cX5_faulty 17 = .ok (.aload_n 0, 1) := by decide +kernel
theorem dX5_faulty_18 : decode cX5_faulty 18 = .ok (.getfield 36, 3) := by decide +kernel
theorem dX5_faulty_21 : decode cX5_faulty 21 = .ok (.aload_n 0, 1) := by decide +kernel
theorem dX5_faulty_22 : decode cX5_faulty 22 = .ok (.getfield 12, 3) := by decide +kernel
theorem dX5_faulty_25 : decode cX5_faulty 25 = .ok (.iload_n 2, 1) := by decide +kernel
theorem dX5_faulty_26 : decode cX5_faulty 26 = .ok (.invokevirtual 146, 3) := by decide +kernel
theorem dX5_faulty_29 : decode cX5_faulty 29 = .ok (.aload_n 0, 1) := by decide +kernel
theorem dX5_faulty_30 : decode cX5_faulty 30 = .ok (.getfield 36, 3) := by decide +kernel
theorem dX5_faulty_33 : decode cX5_faulty 33 = .ok (.bipush 6, 2) := by decide +kernel
theorem dX5_faulty_35 : decode cX5_faulty 35 = .ok (.invokevirtual 179, 3) := by decide +kernel
theorem dX5_faulty_38 : decode cX5_faulty 38 = .ok (.istore_n 3, 1) := by decide +kernel
theorem dX5_faulty_39 : decode cX5_faulty 39 = .ok (.iload_n 3, 1) := by decide +kernel
theorem dX5_faulty_40 : decode cX5_faulty 40 = .ok (.aload_n 0, 1) := by decide +kernel
theorem dX5_faulty_41 : decode cX5_faulty 41 = .ok (.getfield 36, 3) := by decide +kernel
theorem dX5_faulty_44 : decode cX5_faulty 44 = .ok (.iconst 5, 1) := by decide +kernel
theorem dX5_faulty_45 : decode cX5_faulty 45 = .ok (.invokevirtual 179, 3) := by decide +kernel
theorem dX5_faulty_48 : decode cX5_faulty 48 = .ok (.iadd, 1) := by decide +kernel
theorem dX5_faulty_49 : decode cX5_faulty 49 = .ok (.istore 4, 2) := by decide +kernel
theorem dX5_faulty_51 : decode cX5_faulty 51 = .ok (.aload_n 0, 1) := by decide +kernel
theorem dX5_faulty_52 : decode cX5_faulty 52 = .ok (.getfield 47, 3) := by decide +kernel
theorem dX5_faulty_55 : decode cX5_faulty 55 = .ok (.iload_n 2, 1) := by decide +kernel
theorem dX5_faulty_56 : decode cX5_faulty 56 = .ok (.iload 4, 2) := by decide +kernel
theorem dX5_faulty_58 : decode cX5_faulty 58 = .ok (.bipush 33, 2) := by decide +kernel
theorem dX5_faulty_60 : decode cX5_faulty 60 = .ok (.imul, 1) := by decide +kernel
theorem dX5_faulty_61 : decode cX5_faulty 61 = .ok (.iload_n 3, 1) := by decide +kernel
theorem dX5_faulty_62 : decode cX5_faulty 62 = .ok (.iadd, 1) := by decide +kernel
theorem dX5_faulty_63 : decode cX5_faulty 63 = .ok (.iastore, 1) := by decide +kernel
theorem dX5_faulty_64 : decode cX5_faulty 64 = .ok (.iinc 2 1, 3) := by decide +kernel
theorem dX5_faulty_67 : decode cX5_faulty 67 = .ok (.goto (-56), 3) := by decide +kernel
theorem dX5_faulty_70 : decode cX5_faulty 70 = .ok (.aload_n 0, 1) := by decide +kernel
theorem dX5_faulty_71 : decode cX5_faulty 71 = .ok (.bipush 8, 2) := by decide +kernel
theorem dX5_faulty_73 : decode cX5_faulty 73 = .ok (.iload_n 1, 1) := by decide +kernel
theorem dX5_faulty_74 : decode cX5_faulty 74 = .ok (.invokevirtual 185, 3) := by decide +kernel
theorem dX5_faulty_77 : decode cX5_faulty 77 = .ok (.ireturn, 1) := by decide +kernel
theorem dX5_plane_0 : decode cX5_plane 0 = .ok (.iload_n 1, 1) := by decide +kernel
theorem dX5_plane_1 : decode cX5_plane 1 = .ok (.invokestatic 57, 3) := by decide +kernel
theorem dX5_plane_4 : decode cX5_plane 4 = .ok (.ifCond .eq 12, 3) := by decide +kernel
theorem dX5_plane_7 : decode cX5_plane 7 = .ok (.iload_n 2, 1) := by decide +kernel
theorem dX5_plane_8 : decode cX5_plane 8 = .ok (.ifCond .lt 8, 3) := by decide +kernel
theorem dX5_plane_11 : decode cX5_plane 11 = .ok (.iload_n 2, 1) := by decide +kernel
theorem dX5_plane_12 : decode cX5_plane 12 = .ok (.iconst 3, 1) := by decide +kernel
theorem dX5_plane_13 : decode cX5_plane 13 = .ok (.if_icmp .le 5, 3) := by decide +kernel
theorem dX5_plane_16 : decode cX5_plane 16 = .ok (.iconst (-1), 1) := by decide +kernel
theorem dX5_plane_17 : decode cX5_plane 17 = .ok (.ireturn, 1) := by decide +kernel
theorem dX5_plane_18 : decode cX5_plane 18 = .ok (.iconst 0, 1) := by decide +kernel
theorem dX5_plane_19 : decode cX5_plane 19 = .ok (.istore_n 3, 1) := by decide +kernel
theorem dX5_plane_20 : decode cX5_plane 20 = .ok (.iconst 0, 1) := by decide +kernel
theorem dX5_plane_21 : decode cX5_plane 21 = .ok (.istore 4, 2) := by decide +kernel
theorem dX5_plane_23 : decode cX5_plane 23 = .ok (.iload 4, 2) := by decide +kernel
theorem dX5_plane_25 : decode cX5_plane 25 = .ok (.bipush 8, 2) := by decide +kernel
theorem dX5_plane_27 : decode cX5_plane 27 = .ok (.if_icmp .ge 34, 3) := by decide +kernel
theorem dX5_plane_30 : decode cX5_plane 30 = .ok (.aload_n 0, 1) := by decide +kernel
theorem dX5_plane_31 : decode cX5_plane 31 = .ok (.getfield 36, 3) := by decide +kernel
theorem dX5_plane_34 : decode cX5_plane 34 = .ok (.aload_n 0, 1) := by decide +kernel
theorem dX5_plane_35 : decode cX5_plane 35 = .ok (.getfield 12, 3) := by decide +kernel
theorem dX5_plane_38 : decode cX5_plane 38 = .ok (.iload 4, 2) := by decide +kernel
theorem dX5_plane_40 : decode cX5_plane 40 = .ok (.invokevirtual 146, 3) := by decide +kernel
theorem dX5_plane_43 : decode cX5_plane 43 = .ok (.iload_n 3, 1) := by decide +kernel
theorem dX5_plane_44 : decode cX5_plane 44 = .ok (.aload_n 0, 1) := by decide +kernel
theorem dX5_plane_45 : decode cX5_plane 45 = .ok (.getfield 36, 3) := by decide +kernel
theorem dX5_plane_48 : decode cX5_plane 48 = .ok (.iload_n 1, 1) := by decide +kernel
theorem dX5_plane_49 : decode cX5_plane 49 = .ok (.iload_n 2, 1) := by decide +kernel
theorem dX5_plane_50 : decode cX5_plane 50 = .ok (.invokevirtual 188, 3) := by decide +kernel
theorem dX5_plane_53 : decode cX5_plane 53 = .ok (.iadd, 1) := by decide +kernel
theorem dX5_plane_54 : decode cX5_plane 54 = .ok (.istore_n 3, 1) := by decide +kernel
theorem dX5_plane_55 : decode cX5_plane 55 = .ok (.iinc 4 1, 3) := by decide +kernel
theorem dX5_plane_58 : decode cX5_plane 58 = .ok (.goto (-35), 3) := by decide +kernel
theorem dX5_plane_61 : decode cX5_plane 61 = .ok (.iload_n 3, 1) := by decide +kernel
theorem dX5_plane_62 : decode cX5_plane 62 = .ok (.ireturn, 1) := by decide +kernel
theorem dX5_pictures_0 : decode cX5_pictures 0 = .ok (.iconst 0, 1) := by decide +kernel
theorem dX5_pictures_1 : decode cX5_pictures 1 = .ok (.istore_n 1, 1) := by decide +kernel
theorem dX5_pictures_2 : decode cX5_pictures 2 = .ok (.iload_n 1, 1) := by decide +kernel
theorem dX5_pictures_3 : decode cX5_pictures 3 = .ok (.bipush 8, 2) := by decide +kernel
theorem dX5_pictures_5 : decode cX5_pictures 5 = .ok (.if_icmp .ge 43, 3) := by decide +kernel
theorem dX5_pictures_8 : decode cX5_pictures 8 = .ok (.aload_n 0, 1) := by decide +kernel
theorem dX5_pictures_9 : decode cX5_pictures 9 = .ok (.getfield 36, 3) := by decide +kernel
theorem dX5_pictures_12 : decode cX5_pictures 12 = .ok (.aload_n 0, 1) := by decide +kernel
theorem dX5_pictures_13 : decode cX5_pictures 13 = .ok (.getfield 12, 3) := by decide +kernel
theorem dX5_pictures_16 : decode cX5_pictures 16 = .ok (.iload_n 1, 1) := by decide +kernel
theorem dX5_pictures_17 : decode cX5_pictures 17 = .ok (.invokevirtual 146, 3) := by decide +kernel
theorem dX5_pictures_20 : decode cX5_pictures 20 = .ok (.aload_n 0, 1) := by decide +kernel
theorem dX5_pictures_21 : decode cX5_pictures 21 = .ok (.getfield 36, 3) := by decide +kernel
theorem dX5_pictures_24 : decode cX5_pictures 24 = .ok (.getfield 150, 3) := by decide +kernel
theorem dX5_pictures_27 : decode cX5_pictures 27 = .ok (.iconst 0, 1) := by decide +kernel
theorem dX5_pictures_28 : decode cX5_pictures 28 = .ok (.aload_n 0, 1) := by decide +kernel
theorem dX5_pictures_29 : decode cX5_pictures 29 = .ok (.getfield 43, 3) := by decide +kernel
theorem dX5_pictures_32 : decode cX5_pictures 32 = .ok (.iload_n 1, 1) := by decide +kernel
theorem dX5_pictures_33 : decode cX5_pictures 33 = .ok (.iconst 0, 1) := by decide +kernel
theorem dX5_pictures_34 : decode cX5_pictures 34 = .ok (.invokestatic 80, 3) := by decide +kernel
theorem dX5_pictures_37 : decode cX5_pictures 37 = .ok (.bipush 32, 2) := by decide +kernel
theorem dX5_pictures_39 : decode cX5_pictures 39 = .ok (.invokestatic 191, 3) := by decide +kernel
theorem dX5_pictures_42 : decode cX5_pictures 42 = .ok (.iinc 1 1, 3) := by decide +kernel
theorem dX5_pictures_45 : decode cX5_pictures 45 = .ok (.goto (-43), 3) := by decide +kernel
theorem dX5_pictures_48 : decode cX5_pictures 48 = .ok (.iconst 0, 1) := by decide +kernel
theorem dX5_pictures_49 : decode cX5_pictures 49 = .ok (.istore_n 1, 1) := by decide +kernel
theorem dX5_pictures_50 : decode cX5_pictures 50 = .ok (.iconst 0, 1) := by decide +kernel
theorem dX5_pictures_51 : decode cX5_pictures 51 = .ok (.istore_n 2, 1) := by decide +kernel
theorem dX5_pictures_52 : decode cX5_pictures 52 = .ok (.iload_n 2, 1) := by decide +kernel
theorem dX5_pictures_53 : decode cX5_pictures 53 = .ok (.bipush 8, 2) := by decide +kernel
theorem dX5_pictures_55 : decode cX5_pictures 55 = .ok (.if_icmp .ge 20, 3) := by decide +kernel
theorem dX5_pictures_58 : decode cX5_pictures 58 = .ok (.aload_n 0, 1) := by decide +kernel
theorem dX5_pictures_59 : decode cX5_pictures 59 = .ok (.iload_n 2, 1) := by decide +kernel
theorem dX5_pictures_60 : decode cX5_pictures 60 = .ok (.invokevirtual 197, 3) := by decide +kernel
theorem dX5_pictures_63 : decode cX5_pictures 63 = .ok (.ifCond .eq 6, 3) := by decide +kernel
theorem dX5_pictures_66 : decode cX5_pictures 66 = .ok (.iinc 1 1, 3) := by decide +kernel
theorem dX5_pictures_69 : decode cX5_pictures 69 = .ok (.iinc 2 1, 3) := by decide +kernel
theorem dX5_pictures_72 : decode cX5_pictures 72 = .ok (.goto (-20), 3) := by decide +kernel
theorem dX5_pictures_75 : decode cX5_pictures 75 = .ok (.iload_n 1, 1) := by decide +kernel
theorem dX5_pictures_76 : decode cX5_pictures 76 = .ok (.ireturn, 1) := by decide +kernel
theorem dX5_count_0 : decode cX5_count 0 = .ok (.iload_n 1, 1) := by decide +kernel
theorem dX5_count_1 : decode cX5_count 1 = .ok (.ifCond .lt 9, 3) := by decide +kernel
theorem dX5_count_4 : decode cX5_count 4 = .ok (.iload_n 1, 1) := by decide +kernel
theorem dX5_count_5 : decode cX5_count 5 = .ok (.bipush 18, 2) := by decide +kernel
theorem dX5_count_7 : decode cX5_count 7 = .ok (.if_icmp .le 5, 3) := by decide +kernel
theorem dX5_count_10 : decode cX5_count 10 = .ok (.iconst (-1), 1) := by decide +kernel
theorem dX5_count_11 : decode cX5_count 11 = .ok (.ireturn, 1) := by decide +kernel
theorem dX5_count_12 : decode cX5_count 12 = .ok (.iload_n 1, 1) := by decide +kernel
theorem dX5_count_13 : decode cX5_count 13 = .ok (.bipush 13, 2) := by decide +kernel
theorem dX5_count_15 : decode cX5_count 15 = .ok (.if_icmp .lt 16, 3) := by decide +kernel
theorem dX5_count_18 : decode cX5_count 18 = .ok (.aload_n 0, 1) := by decide +kernel
theorem dX5_count_19 : decode cX5_count 19 = .ok (.getfield 12, 3) := by decide +kernel
theorem dX5_count_22 : decode cX5_count 22 = .ok (.getfield 116, 3) := by decide +kernel
theorem dX5_count_25 : decode cX5_count 25 = .ok (.iload_n 1, 1) := by decide +kernel
theorem dX5_count_26 : decode cX5_count 26 = .ok (.bipush 13, 2) := by decide +kernel
theorem dX5_count_28 : decode cX5_count 28 = .ok (.isub, 1) := by decide +kernel
theorem dX5_count_29 : decode cX5_count 29 = .ok (.iaload, 1) := by decide +kernel
theorem dX5_count_30 : decode cX5_count 30 = .ok (.ireturn, 1) := by decide +kernel
theorem dX5_count_31 : decode cX5_count 31 = .ok (.iload_n 1, 1) := by decide +kernel
theorem dX5_count_32 : decode cX5_count 32 = .ok (.tableswitch 108 0 12 #[68, 108, 108, 108, 108, 108, 108, 108, 108, 76, 84, 92, 100], 68) := by decide +kernel
theorem dX5_count_100 : decode cX5_count 100 = .ok (.aload_n 0, 1) := by decide +kernel
theorem dX5_count_101 : decode cX5_count 101 = .ok (.getfield 12, 3) := by decide +kernel
theorem dX5_count_104 : decode cX5_count 104 = .ok (.invokevirtual 200, 3) := by decide +kernel
theorem dX5_count_107 : decode cX5_count 107 = .ok (.ireturn, 1) := by decide +kernel
theorem dX5_count_108 : decode cX5_count 108 = .ok (.aload_n 0, 1) := by decide +kernel
theorem dX5_count_109 : decode cX5_count 109 = .ok (.getfield 12, 3) := by decide +kernel
theorem dX5_count_112 : decode cX5_count 112 = .ok (.getfield 119, 3) := by decide +kernel
theorem dX5_count_115 : decode cX5_count 115 = .ok (.ireturn, 1) := by decide +kernel
theorem dX5_count_116 : decode cX5_count 116 = .ok (.aload_n 0, 1) := by decide +kernel
theorem dX5_count_117 : decode cX5_count 117 = .ok (.getfield 12, 3) := by decide +kernel
theorem dX5_count_120 : decode cX5_count 120 = .ok (.getfield 143, 3) := by decide +kernel
theorem dX5_count_123 : decode cX5_count 123 = .ok (.ireturn, 1) := by decide +kernel
theorem dX5_count_124 : decode cX5_count 124 = .ok (.aload_n 0, 1) := by decide +kernel
theorem dX5_count_125 : decode cX5_count 125 = .ok (.getfield 29, 3) := by decide +kernel
theorem dX5_count_128 : decode cX5_count 128 = .ok (.getfield 126, 3) := by decide +kernel
theorem dX5_count_131 : decode cX5_count 131 = .ok (.ireturn, 1) := by decide +kernel
theorem dX5_count_132 : decode cX5_count 132 = .ok (.aload_n 0, 1) := by decide +kernel
theorem dX5_count_133 : decode cX5_count 133 = .ok (.getfield 22, 3) := by decide +kernel
theorem dX5_count_136 : decode cX5_count 136 = .ok (.getfield 203, 3) := by decide +kernel
theorem dX5_count_139 : decode cX5_count 139 = .ok (.ireturn, 1) := by decide +kernel
theorem dX5_count_140 : decode cX5_count 140 = .ok (.aload_n 0, 1) := by decide +kernel
theorem dX5_count_141 : decode cX5_count 141 = .ok (.iload_n 1, 1) := by decide +kernel
theorem dX5_count_142 : decode cX5_count 142 = .ok (.iconst 1, 1) := by decide +kernel
theorem dX5_count_143 : decode cX5_count 143 = .ok (.isub, 1) := by decide +kernel
theorem dX5_count_144 : decode cX5_count 144 = .ok (.invokevirtual 206, 3) := by decide +kernel
theorem dX5_count_147 : decode cX5_count 147 = .ok (.ireturn, 1) := by decide +kernel
theorem dX5_away_0 : decode cX5_away 0 = .ok (.iload_n 1, 1) := by decide +kernel
theorem dX5_away_1 : decode cX5_away 1 = .ok (.invokestatic 57, 3) := by decide +kernel
theorem dX5_away_4 : decode cX5_away 4 = .ok (.ifCond .ne 6, 3) := by decide +kernel
theorem dX5_away_7 : decode cX5_away 7 = .ok (.ldc 209, 2) := by decide +kernel
theorem dX5_away_9 : decode cX5_away 9 = .ok (.freturn, 1) := by decide +kernel
theorem dX5_away_10 : decode cX5_away 10 = .ok (.aload_n 0, 1) := by decide +kernel
theorem dX5_away_11 : decode cX5_away 11 = .ok (.getfield 12, 3) := by decide +kernel
theorem dX5_away_14 : decode cX5_away 14 = .ok (.getfield 116, 3) := by decide +kernel
theorem dX5_away_17 : decode cX5_away 17 = .ok (.iconst 0, 1) := by decide +kernel
theorem dX5_away_18 : decode cX5_away 18 = .ok (.iaload, 1) := by decide +kernel
theorem dX5_away_19 : decode cX5_away 19 = .ok (.iload_n 1, 1) := by decide +kernel
theorem dX5_away_20 : decode cX5_away 20 = .ok (.isub, 1) := by decide +kernel
theorem dX5_away_21 : decode cX5_away 21 = .ok (.istore_n 2, 1) := by decide +kernel
theorem dX5_away_22 : decode cX5_away 22 = .ok (.aload_n 0, 1) := by decide +kernel
theorem dX5_away_23 : decode cX5_away 23 = .ok (.getfield 12, 3) := by decide +kernel
theorem dX5_away_26 : decode cX5_away 26 = .ok (.getfield 116, 3) := by decide +kernel
theorem dX5_away_29 : decode cX5_away 29 = .ok (.iconst 4, 1) := by decide +kernel
theorem dX5_away_30 : decode cX5_away 30 = .ok (.iaload, 1) := by decide +kernel
theorem dX5_away_31 : decode cX5_away 31 = .ok (.istore_n 3, 1) := by decide +kernel
theorem dX5_away_32 : decode cX5_away 32 = .ok (.aload_n 0, 1) := by decide +kernel
theorem dX5_away_33 : decode cX5_away 33 = .ok (.getfield 12, 3) := by decide +kernel
theorem dX5_away_36 : decode cX5_away 36 = .ok (.getfield 116, 3) := by decide +kernel
theorem dX5_away_39 : decode cX5_away 39 = .ok (.iconst 3, 1) := by decide +kernel
theorem dX5_away_40 : decode cX5_away 40 = .ok (.iaload, 1) := by decide +kernel
theorem dX5_away_41 : decode cX5_away 41 = .ok (.iconst 1, 1) := by decide +kernel
theorem dX5_away_42 : decode cX5_away 42 = .ok (.if_icmp .ne 9, 3) := by decide +kernel
theorem dX5_away_45 : decode cX5_away 45 = .ok (.iload_n 3, 1) := by decide +kernel
theorem dX5_away_46 : decode cX5_away 46 = .ok (.iload_n 2, 1) := by decide +kernel
theorem dX5_away_47 : decode cX5_away 47 = .ok (.iadd, 1) := by decide +kernel
theorem dX5_away_48 : decode cX5_away 48 = .ok (.goto 6, 3) := by decide +kernel
theorem dX5_away_51 : decode cX5_away 51 = .ok (.iload_n 3, 1) := by decide +kernel
theorem dX5_away_52 : decode cX5_away 52 = .ok (.iload_n 2, 1) := by decide +kernel
theorem dX5_away_53 : decode cX5_away 53 = .ok (.isub, 1) := by decide +kernel
theorem dX5_away_54 : decode cX5_away 54 = .ok (.istore 4, 2) := by decide +kernel
theorem dX5_away_56 : decode cX5_away 56 = .ok (.iload 4, 2) := by decide +kernel
theorem dX5_away_58 : decode cX5_away 58 = .ok (.ifCond .le 22, 3) := by decide +kernel
theorem dX5_away_61 : decode cX5_away 61 = .ok (.aload_n 0, 1) := by decide +kernel
theorem dX5_away_62 : decode cX5_away 62 = .ok (.getfield 12, 3) := by decide +kernel
theorem dX5_away_65 : decode cX5_away 65 = .ok (.getfield 116, 3) := by decide +kernel
theorem dX5_away_68 : decode cX5_away 68 = .ok (.iconst 5, 1) := by decide +kernel
theorem dX5_away_69 : decode cX5_away 69 = .ok (.iaload, 1) := by decide +kernel
theorem dX5_away_70 : decode cX5_away 70 = .ok (.iload_n 2, 1) := by decide +kernel
theorem dX5_away_71 : decode cX5_away 71 = .ok (.imul, 1) := by decide +kernel
theorem dX5_away_72 : decode cX5_away 72 = .ok (.i2f, 1) := by decide +kernel
theorem dX5_away_73 : decode cX5_away 73 = .ok (.iload 4, 2) := by decide +kernel
theorem dX5_away_75 : decode cX5_away 75 = .ok (.i2f, 1) := by decide +kernel
theorem dX5_away_76 : decode cX5_away 76 = .ok (.fdiv, 1) := by decide +kernel
theorem dX5_away_77 : decode cX5_away 77 = .ok (.goto 5, 3) := by decide +kernel
theorem dX5_away_80 : decode cX5_away 80 = .ok (.ldc 209, 2) := by decide +kernel
theorem dX5_away_82 : decode cX5_away 82 = .ok (.freturn, 1) := by decide +kernel
theorem dX5_clearness_0 : decode cX5_clearness 0 = .ok (.iload_n 1, 1) := by decide +kernel
theorem dX5_clearness_1 : decode cX5_clearness 1 = .ok (.invokestatic 50, 3) := by decide +kernel
theorem dX5_clearness_4 : decode cX5_clearness 4 = .ok (.ifCond .ne 7, 3) := by decide +kernel
theorem dX5_clearness_7 : decode cX5_clearness 7 = .ok (.ldc2_w 210, 3) := by decide +kernel
theorem dX5_clearness_10 : decode cX5_clearness 10 = .ok (.dreturn, 1) := by decide +kernel
theorem dX5_clearness_11 : decode cX5_clearness 11 = .ok (.aload_n 0, 1) := by decide +kernel
theorem dX5_clearness_12 : decode cX5_clearness 12 = .ok (.iload_n 1, 1) := by decide +kernel
theorem dX5_clearness_13 : decode cX5_clearness 13 = .ok (.invokevirtual 90, 3) := by decide +kernel
theorem dX5_clearness_16 : decode cX5_clearness 16 = .ok (.i2d, 1) := by decide +kernel
theorem dX5_clearness_17 : decode cX5_clearness 17 = .ok (.ldc2_w 212, 3) := by decide +kernel
theorem dX5_clearness_20 : decode cX5_clearness 20 = .ok (.ddiv, 1) := by decide +kernel
theorem dX5_clearness_21 : decode cX5_clearness 21 = .ok (.dreturn, 1) := by decide +kernel
theorem dX5_ifPainted_0 : decode cX5_ifPainted 0 = .ok (.iload_n 1, 1) := by decide +kernel
theorem dX5_ifPainted_1 : decode cX5_ifPainted 1 = .ok (.invokestatic 50, 3) := by decide +kernel
theorem dX5_ifPainted_4 : decode cX5_ifPainted 4 = .ok (.ifCond .eq 17, 3) := by decide +kernel
theorem dX5_ifPainted_7 : decode cX5_ifPainted 7 = .ok (.iload_n 2, 1) := by decide +kernel
theorem dX5_ifPainted_8 : decode cX5_ifPainted 8 = .ok (.invokestatic 54, 3) := by decide +kernel
theorem dX5_ifPainted_11 : decode cX5_ifPainted 11 = .ok (.ifCond .eq 10, 3) := by decide +kernel
theorem dX5_ifPainted_14 : decode cX5_ifPainted 14 = .ok (.iload_n 3, 1) := by decide +kernel
theorem dX5_ifPainted_15 : decode cX5_ifPainted 15 = .ok (.invokestatic 101, 3) := by decide +kernel
theorem dX5_ifPainted_18 : decode cX5_ifPainted 18 = .ok (.ifCond .ne 5, 3) := by decide +kernel
theorem dX5_ifPainted_21 : decode cX5_ifPainted 21 = .ok (.iconst (-1), 1) := by decide +kernel
theorem dX5_ifPainted_22 : decode cX5_ifPainted 22 = .ok (.ireturn, 1) := by decide +kernel
theorem dX5_ifPainted_23 : decode cX5_ifPainted 23 = .ok (.aload_n 0, 1) := by decide +kernel
theorem dX5_ifPainted_24 : decode cX5_ifPainted 24 = .ok (.getfield 36, 3) := by decide +kernel
theorem dX5_ifPainted_27 : decode cX5_ifPainted 27 = .ok (.aload_n 0, 1) := by decide +kernel
theorem dX5_ifPainted_28 : decode cX5_ifPainted 28 = .ok (.getfield 12, 3) := by decide +kernel
theorem dX5_ifPainted_31 : decode cX5_ifPainted 31 = .ok (.iload_n 1, 1) := by decide +kernel
theorem dX5_ifPainted_32 : decode cX5_ifPainted 32 = .ok (.invokevirtual 146, 3) := by decide +kernel
theorem dX5_ifPainted_35 : decode cX5_ifPainted 35 = .ok (.aload_n 0, 1) := by decide +kernel
theorem dX5_ifPainted_36 : decode cX5_ifPainted 36 = .ok (.getfield 40, 3) := by decide +kernel
theorem dX5_ifPainted_39 : decode cX5_ifPainted 39 = .ok (.aload_n 0, 1) := by decide +kernel
theorem dX5_ifPainted_40 : decode cX5_ifPainted 40 = .ok (.getfield 12, 3) := by decide +kernel
theorem dX5_ifPainted_43 : decode cX5_ifPainted 43 = .ok (.iload_n 1, 1) := by decide +kernel
theorem dX5_ifPainted_44 : decode cX5_ifPainted 44 = .ok (.invokevirtual 72, 3) := by decide +kernel
theorem dX5_ifPainted_47 : decode cX5_ifPainted 47 = .ok (.aload_n 0, 1) := by decide +kernel
theorem dX5_ifPainted_48 : decode cX5_ifPainted 48 = .ok (.getfield 40, 3) := by decide +kernel
theorem dX5_ifPainted_51 : decode cX5_ifPainted 51 = .ok (.getfield 149, 3) := by decide +kernel
theorem dX5_ifPainted_54 : decode cX5_ifPainted 54 = .ok (.iload_n 2, 1) := by decide +kernel
theorem dX5_ifPainted_55 : decode cX5_ifPainted 55 = .ok (.iload_n 3, 1) := by decide +kernel
theorem dX5_ifPainted_56 : decode cX5_ifPainted 56 = .ok (.iastore, 1) := by decide +kernel
theorem dX5_ifPainted_57 : decode cX5_ifPainted 57 = .ok (.aload_n 0, 1) := by decide +kernel
theorem dX5_ifPainted_58 : decode cX5_ifPainted 58 = .ok (.getfield 40, 3) := by decide +kernel
theorem dX5_ifPainted_61 : decode cX5_ifPainted 61 = .ok (.invokevirtual 214, 3) := by decide +kernel
theorem dX5_ifPainted_64 : decode cX5_ifPainted 64 = .ok (.iload 4, 2) := by decide +kernel
theorem dX5_ifPainted_66 : decode cX5_ifPainted 66 = .ok (.tableswitch 63 0 2 #[26, 41, 50], 26) := by decide +kernel
theorem dX5_ifPainted_92 : decode cX5_ifPainted 92 = .ok (.bipush 32, 2) := by decide +kernel
theorem dX5_ifPainted_94 : decode cX5_ifPainted 94 = .ok (.aload_n 0, 1) := by decide +kernel
theorem dX5_ifPainted_95 : decode cX5_ifPainted 95 = .ok (.getfield 36, 3) := by decide +kernel
theorem dX5_ifPainted_98 : decode cX5_ifPainted 98 = .ok (.aload_n 0, 1) := by decide +kernel
theorem dX5_ifPainted_99 : decode cX5_ifPainted 99 = .ok (.getfield 40, 3) := by decide +kernel
theorem dX5_ifPainted_102 : decode cX5_ifPainted 102 = .ok (.invokevirtual 217, 3) := by decide +kernel
theorem dX5_ifPainted_105 : decode cX5_ifPainted 105 = .ok (.isub, 1) := by decide +kernel
theorem dX5_ifPainted_106 : decode cX5_ifPainted 106 = .ok (.ireturn, 1) := by decide +kernel
theorem dX5_ifPainted_107 : decode cX5_ifPainted 107 = .ok (.aload_n 0, 1) := by decide +kernel
theorem dX5_ifPainted_108 : decode cX5_ifPainted 108 = .ok (.getfield 40, 3) := by decide +kernel
theorem dX5_ifPainted_111 : decode cX5_ifPainted 111 = .ok (.iconst 4, 1) := by decide +kernel
theorem dX5_ifPainted_112 : decode cX5_ifPainted 112 = .ok (.invokevirtual 179, 3) := by decide +kernel
theorem dX5_ifPainted_115 : decode cX5_ifPainted 115 = .ok (.ireturn, 1) := by decide +kernel
theorem dX5_ifPainted_116 : decode cX5_ifPainted 116 = .ok (.aload_n 0, 1) := by decide +kernel
theorem dX5_ifPainted_117 : decode cX5_ifPainted 117 = .ok (.getfield 36, 3) := by decide +kernel
theorem dX5_ifPainted_120 : decode cX5_ifPainted 120 = .ok (.aload_n 0, 1) := by decide +kernel
theorem dX5_ifPainted_121 : decode cX5_ifPainted 121 = .ok (.getfield 40, 3) := by decide +kernel
theorem dX5_ifPainted_124 : decode cX5_ifPainted 124 = .ok (.iload_n 2, 1) := by decide +kernel
theorem dX5_ifPainted_125 : decode cX5_ifPainted 125 = .ok (.invokevirtual 221, 3) := by decide +kernel
theorem dX5_ifPainted_128 : decode cX5_ifPainted 128 = .ok (.ireturn, 1) := by decide +kernel
theorem dX5_ifPainted_129 : decode cX5_ifPainted 129 = .ok (.iconst (-1), 1) := by decide +kernel
theorem dX5_ifPainted_130 : decode cX5_ifPainted 130 = .ok (.ireturn, 1) := by decide +kernel
theorem dX5_ifPrinted_0 : decode cX5_ifPrinted 0 = .ok (.iload_n 1, 1) := by decide +kernel
theorem dX5_ifPrinted_1 : decode cX5_ifPrinted 1 = .ok (.invokestatic 50, 3) := by decide +kernel
theorem dX5_ifPrinted_4 : decode cX5_ifPrinted 4 = .ok (.ifCond .eq 15, 3) := by decide +kernel
theorem dX5_ifPrinted_7 : decode cX5_ifPrinted 7 = .ok (.iload_n 2, 1) := by decide +kernel
theorem dX5_ifPrinted_8 : decode cX5_ifPrinted 8 = .ok (.bipush 6, 2) := by decide +kernel
theorem dX5_ifPrinted_10 : decode cX5_ifPrinted 10 = .ok (.if_icmp .lt 9, 3) := by decide +kernel
theorem dX5_ifPrinted_13 : decode cX5_ifPrinted 13 = .ok (.iload_n 2, 1) := by decide +kernel
theorem dX5_ifPrinted_14 : decode cX5_ifPrinted 14 = .ok (.bipush 16, 2) := by decide +kernel
theorem dX5_ifPrinted_16 : decode cX5_ifPrinted 16 = .ok (.if_icmp .le 5, 3) := by decide +kernel
theorem dX5_ifPrinted_19 : decode cX5_ifPrinted 19 = .ok (.iconst (-1), 1) := by decide +kernel
theorem dX5_ifPrinted_20 : decode cX5_ifPrinted 20 = .ok (.ireturn, 1) := by decide +kernel
theorem dX5_ifPrinted_21 : decode cX5_ifPrinted 21 = .ok (.aload_n 0, 1) := by decide +kernel
theorem dX5_ifPrinted_22 : decode cX5_ifPrinted 22 = .ok (.iload_n 1, 1) := by decide +kernel
theorem dX5_ifPrinted_23 : decode cX5_ifPrinted 23 = .ok (.iload_n 2, 1) := by decide +kernel
theorem dX5_ifPrinted_24 : decode cX5_ifPrinted 24 = .ok (.invokevirtual 225, 3) := by decide +kernel
theorem dX5_ifPrinted_27 : decode cX5_ifPrinted 27 = .ok (.ireturn, 1) := by decide +kernel
theorem dX5_shortest_0 : decode cX5_shortest 0 = .ok (.iload_n 1, 1) := by decide +kernel
theorem dX5_shortest_1 : decode cX5_shortest 1 = .ok (.invokestatic 50, 3) := by decide +kernel
theorem dX5_shortest_4 : decode cX5_shortest 4 = .ok (.ifCond .ne 5, 3) := by decide +kernel
theorem dX5_shortest_7 : decode cX5_shortest 7 = .ok (.iconst (-1), 1) := by decide +kernel
theorem dX5_shortest_8 : decode cX5_shortest 8 = .ok (.ireturn, 1) := by decide +kernel
theorem dX5_shortest_9 : decode cX5_shortest 9 = .ok (.bipush 6, 2) := by decide +kernel
theorem dX5_shortest_11 : decode cX5_shortest 11 = .ok (.istore_n 2, 1) := by decide +kernel
theorem dX5_shortest_12 : decode cX5_shortest 12 = .ok (.iconst (-1), 1) := by decide +kernel
theorem dX5_shortest_13 : decode cX5_shortest 13 = .ok (.istore_n 3, 1) := by decide +kernel
theorem dX5_shortest_14 : decode cX5_shortest 14 = .ok (.bipush 6, 2) := by decide +kernel
theorem dX5_shortest_16 : decode cX5_shortest 16 = .ok (.istore 4, 2) := by decide +kernel
theorem dX5_shortest_18 : decode cX5_shortest 18 = .ok (.iload 4, 2) := by decide +kernel
theorem dX5_shortest_20 : decode cX5_shortest 20 = .ok (.bipush 16, 2) := by decide +kernel
theorem dX5_shortest_22 : decode cX5_shortest 22 = .ok (.if_icmp .gt 30, 3) := by decide +kernel
theorem dX5_shortest_25 : decode cX5_shortest 25 = .ok (.aload_n 0, 1) := by decide +kernel
theorem dX5_shortest_26 : decode cX5_shortest 26 = .ok (.iload_n 1, 1) := by decide +kernel
theorem dX5_shortest_27 : decode cX5_shortest 27 = .ok (.iload 4, 2) := by decide +kernel
theorem dX5_shortest_29 : decode cX5_shortest 29 = .ok (.invokevirtual 225, 3) := by decide +kernel
theorem dX5_shortest_32 : decode cX5_shortest 32 = .ok (.istore 5, 2) := by decide +kernel
theorem dX5_shortest_34 : decode cX5_shortest 34 = .ok (.iload 5, 2) := by decide +kernel
theorem dX5_shortest_36 : decode cX5_shortest 36 = .ok (.iload_n 3, 1) := by decide +kernel
theorem dX5_shortest_37 : decode cX5_shortest 37 = .ok (.if_icmp .le 9, 3) := by decide +kernel
theorem dX5_shortest_40 : decode cX5_shortest 40 = .ok (.iload 5, 2) := by decide +kernel
theorem dX5_shortest_42 : decode cX5_shortest 42 = .ok (.istore_n 3, 1) := by decide +kernel
theorem dX5_shortest_43 : decode cX5_shortest 43 = .ok (.iload 4, 2) := by decide +kernel
theorem dX5_shortest_45 : decode cX5_shortest 45 = .ok (.istore_n 2, 1) := by decide +kernel
theorem dX5_shortest_46 : decode cX5_shortest 46 = .ok (.iinc 4 1, 3) := by decide +kernel
theorem dX5_shortest_49 : decode cX5_shortest 49 = .ok (.goto (-31), 3) := by decide +kernel
theorem dX5_shortest_52 : decode cX5_shortest 52 = .ok (.iload_n 2, 1) := by decide +kernel
theorem dX5_shortest_53 : decode cX5_shortest 53 = .ok (.ireturn, 1) := by decide +kernel
theorem dX5_bestWindow_0 : decode cX5_bestWindow 0 = .ok (.iload_n 1, 1) := by decide +kernel
theorem dX5_bestWindow_1 : decode cX5_bestWindow 1 = .ok (.invokestatic 50, 3) := by decide +kernel
theorem dX5_bestWindow_4 : decode cX5_bestWindow 4 = .ok (.ifCond .ne 5, 3) := by decide +kernel
theorem dX5_bestWindow_7 : decode cX5_bestWindow 7 = .ok (.iconst (-1), 1) := by decide +kernel
theorem dX5_bestWindow_8 : decode cX5_bestWindow 8 = .ok (.ireturn, 1) := by decide +kernel
theorem dX5_bestWindow_9 : decode cX5_bestWindow 9 = .ok (.aload_n 0, 1) := by decide +kernel
theorem dX5_bestWindow_10 : decode cX5_bestWindow 10 = .ok (.getfield 36, 3) := by decide +kernel
theorem dX5_bestWindow_13 : decode cX5_bestWindow 13 = .ok (.aload_n 0, 1) := by decide +kernel
theorem dX5_bestWindow_14 : decode cX5_bestWindow 14 = .ok (.getfield 12, 3) := by decide +kernel
theorem dX5_bestWindow_17 : decode cX5_bestWindow 17 = .ok (.iload_n 1, 1) := by decide +kernel
theorem dX5_bestWindow_18 : decode cX5_bestWindow 18 = .ok (.invokevirtual 72, 3) := by decide +kernel
theorem dX5_bestWindow_21 : decode cX5_bestWindow 21 = .ok (.iconst 0, 1) := by decide +kernel
theorem dX5_bestWindow_22 : decode cX5_bestWindow 22 = .ok (.istore_n 2, 1) := by decide +kernel
theorem dX5_bestWindow_23 : decode cX5_bestWindow 23 = .ok (.iconst (-1), 1) := by decide +kernel
theorem dX5_bestWindow_24 : decode cX5_bestWindow 24 = .ok (.istore_n 3, 1) := by decide +kernel
theorem dX5_bestWindow_25 : decode cX5_bestWindow 25 = .ok (.iconst 0, 1) := by decide +kernel
theorem dX5_bestWindow_26 : decode cX5_bestWindow 26 = .ok (.istore 4, 2) := by decide +kernel
theorem dX5_bestWindow_28 : decode cX5_bestWindow 28 = .ok (.iload 4, 2) := by decide +kernel
theorem dX5_bestWindow_30 : decode cX5_bestWindow 30 = .ok (.iconst 3, 1) := by decide +kernel
theorem dX5_bestWindow_31 : decode cX5_bestWindow 31 = .ok (.if_icmp .gt 47, 3) := by decide +kernel
theorem dX5_bestWindow_34 : decode cX5_bestWindow 34 = .ok (.aload_n 0, 1) := by decide +kernel
theorem dX5_bestWindow_35 : decode cX5_bestWindow 35 = .ok (.getfield 36, 3) := by decide +kernel
theorem dX5_bestWindow_38 : decode cX5_bestWindow 38 = .ok (.iload 4, 2) := by decide +kernel
theorem dX5_bestWindow_40 : decode cX5_bestWindow 40 = .ok (.putfield 228, 3) := by decide +kernel
theorem dX5_bestWindow_43 : decode cX5_bestWindow 43 = .ok (.aload_n 0, 1) := by decide +kernel
theorem dX5_bestWindow_44 : decode cX5_bestWindow 44 = .ok (.getfield 36, 3) := by decide +kernel
theorem dX5_bestWindow_47 : decode cX5_bestWindow 47 = .ok (.invokevirtual 214, 3) := by decide +kernel
theorem dX5_bestWindow_50 : decode cX5_bestWindow 50 = .ok (.aload_n 0, 1) := by decide +kernel
theorem dX5_bestWindow_51 : decode cX5_bestWindow 51 = .ok (.getfield 36, 3) := by decide +kernel
theorem dX5_bestWindow_54 : decode cX5_bestWindow 54 = .ok (.iconst 4, 1) := by decide +kernel
theorem dX5_bestWindow_55 : decode cX5_bestWindow 55 = .ok (.invokevirtual 179, 3) := by decide +kernel
theorem dX5_bestWindow_58 : decode cX5_bestWindow 58 = .ok (.istore 5, 2) := by decide +kernel
theorem dX5_bestWindow_60 : decode cX5_bestWindow 60 = .ok (.iload 5, 2) := by decide +kernel
theorem dX5_bestWindow_62 : decode cX5_bestWindow 62 = .ok (.iload_n 3, 1) := by decide +kernel
theorem dX5_bestWindow_63 : decode cX5_bestWindow 63 = .ok (.if_icmp .le 9, 3) := by decide +kernel
theorem dX5_bestWindow_66 : decode cX5_bestWindow 66 = .ok (.iload 5, 2) := by decide +kernel
theorem dX5_bestWindow_68 : decode cX5_bestWindow 68 = .ok (.istore_n 3, 1) := by decide +kernel
theorem dX5_bestWindow_69 : decode cX5_bestWindow 69 = .ok (.iload 4, 2) := by decide +kernel
theorem dX5_bestWindow_71 : decode cX5_bestWindow 71 = .ok (.istore_n 2, 1) := by decide +kernel
theorem dX5_bestWindow_72 : decode cX5_bestWindow 72 = .ok (.iinc 4 1, 3) := by decide +kernel
theorem dX5_bestWindow_75 : decode cX5_bestWindow 75 = .ok (.goto (-47), 3) := by decide +kernel
theorem dX5_bestWindow_78 : decode cX5_bestWindow 78 = .ok (.iload_n 2, 1) := by decide +kernel
theorem dX5_bestWindow_79 : decode cX5_bestWindow 79 = .ok (.ireturn, 1) := by decide +kernel
theorem dX5_alike_0 : decode cX5_alike 0 = .ok (.iload_n 1, 1) := by decide +kernel
theorem dX5_alike_1 : decode cX5_alike 1 = .ok (.invokestatic 50, 3) := by decide +kernel
theorem dX5_alike_4 : decode cX5_alike 4 = .ok (.ifCond .eq 10, 3) := by decide +kernel
theorem dX5_alike_7 : decode cX5_alike 7 = .ok (.iload_n 2, 1) := by decide +kernel
theorem dX5_alike_8 : decode cX5_alike 8 = .ok (.invokestatic 50, 3) := by decide +kernel
theorem dX5_alike_11 : decode cX5_alike 11 = .ok (.ifCond .ne 5, 3) := by decide +kernel
theorem dX5_alike_14 : decode cX5_alike 14 = .ok (.iconst (-1), 1) := by decide +kernel
theorem dX5_alike_15 : decode cX5_alike 15 = .ok (.ireturn, 1) := by decide +kernel
theorem dX5_alike_16 : decode cX5_alike 16 = .ok (.aload_n 0, 1) := by decide +kernel
theorem dX5_alike_17 : decode cX5_alike 17 = .ok (.getfield 36, 3) := by decide +kernel
theorem dX5_alike_20 : decode cX5_alike 20 = .ok (.aload_n 0, 1) := by decide +kernel
theorem dX5_alike_21 : decode cX5_alike 21 = .ok (.getfield 12, 3) := by decide +kernel
theorem dX5_alike_24 : decode cX5_alike 24 = .ok (.iload_n 1, 1) := by decide +kernel
theorem dX5_alike_25 : decode cX5_alike 25 = .ok (.invokevirtual 146, 3) := by decide +kernel
theorem dX5_alike_28 : decode cX5_alike 28 = .ok (.aload_n 0, 1) := by decide +kernel
theorem dX5_alike_29 : decode cX5_alike 29 = .ok (.getfield 40, 3) := by decide +kernel
theorem dX5_alike_32 : decode cX5_alike 32 = .ok (.aload_n 0, 1) := by decide +kernel
theorem dX5_alike_33 : decode cX5_alike 33 = .ok (.getfield 12, 3) := by decide +kernel
theorem dX5_alike_36 : decode cX5_alike 36 = .ok (.iload_n 2, 1) := by decide +kernel
theorem dX5_alike_37 : decode cX5_alike 37 = .ok (.invokevirtual 146, 3) := by decide +kernel
theorem dX5_alike_40 : decode cX5_alike 40 = .ok (.aload_n 0, 1) := by decide +kernel
theorem dX5_alike_41 : decode cX5_alike 41 = .ok (.getfield 36, 3) := by decide +kernel
theorem dX5_alike_44 : decode cX5_alike 44 = .ok (.aload_n 0, 1) := by decide +kernel
theorem dX5_alike_45 : decode cX5_alike 45 = .ok (.getfield 40, 3) := by decide +kernel
theorem dX5_alike_48 : decode cX5_alike 48 = .ok (.invokevirtual 217, 3) := by decide +kernel
theorem dX5_alike_51 : decode cX5_alike 51 = .ok (.ireturn, 1) := by decide +kernel
theorem dX5_undo_0 : decode cX5_undo 0 = .ok (.aload_n 0, 1) := by decide +kernel
theorem dX5_undo_1 : decode cX5_undo 1 = .ok (.getfield 22, 3) := by decide +kernel
theorem dX5_undo_4 : decode cX5_undo 4 = .ok (.aload_n 0, 1) := by decide +kernel
theorem dX5_undo_5 : decode cX5_undo 5 = .ok (.getfield 12, 3) := by decide +kernel
theorem dX5_undo_8 : decode cX5_undo 8 = .ok (.invokevirtual 231, 3) := by decide +kernel
theorem dX5_undo_11 : decode cX5_undo 11 = .ok (.ifCond .eq 13, 3) := by decide +kernel
theorem dX5_undo_14 : decode cX5_undo 14 = .ok (.aload_n 0, 1) := by decide +kernel
theorem dX5_undo_15 : decode cX5_undo 15 = .ok (.getfield 22, 3) := by decide +kernel
theorem dX5_undo_18 : decode cX5_undo 18 = .ok (.getfield 203, 3) := by decide +kernel
theorem dX5_undo_21 : decode cX5_undo 21 = .ok (.goto 5, 3) := by decide +kernel
theorem dX5_undo_24 : decode cX5_undo 24 = .ok (.bipush (-2), 2) := by decide +kernel
theorem dX5_undo_26 : decode cX5_undo 26 = .ok (.ireturn, 1) := by decide +kernel
theorem dX5_save_0 : decode cX5_save 0 = .ok (.aload_n 0, 1) := by decide +kernel
theorem dX5_save_1 : decode cX5_save 1 = .ok (.getfield 16, 3) := by decide +kernel
theorem dX5_save_4 : decode cX5_save 4 = .ok (.aload_n 0, 1) := by decide +kernel
theorem dX5_save_5 : decode cX5_save 5 = .ok (.getfield 12, 3) := by decide +kernel
theorem dX5_save_8 : decode cX5_save 8 = .ok (.invokevirtual 235, 3) := by decide +kernel
theorem dX5_save_11 : decode cX5_save 11 = .ok (.aload_n 0, 1) := by decide +kernel
theorem dX5_save_12 : decode cX5_save 12 = .ok (.iconst 1, 1) := by decide +kernel
theorem dX5_save_13 : decode cX5_save 13 = .ok (.putfield 238, 3) := by decide +kernel
theorem dX5_save_16 : decode cX5_save 16 = .ok (.aload_n 0, 1) := by decide +kernel
theorem dX5_save_17 : decode cX5_save 17 = .ok (.iconst 4, 1) := by decide +kernel
theorem dX5_save_18 : decode cX5_save 18 = .ok (.invokevirtual 206, 3) := by decide +kernel
theorem dX5_save_21 : decode cX5_save 21 = .ok (.ireturn, 1) := by decide +kernel
theorem dX5_restore_0 : decode cX5_restore 0 = .ok (.aload_n 0, 1) := by decide +kernel
theorem dX5_restore_1 : decode cX5_restore 1 = .ok (.getfield 238, 3) := by decide +kernel
theorem dX5_restore_4 : decode cX5_restore 4 = .ok (.ifCond .ne 6, 3) := by decide +kernel
theorem dX5_restore_7 : decode cX5_restore 7 = .ok (.bipush (-2), 2) := by decide +kernel
theorem dX5_restore_9 : decode cX5_restore 9 = .ok (.ireturn, 1) := by decide +kernel
theorem dX5_restore_10 : decode cX5_restore 10 = .ok (.aload_n 0, 1) := by decide +kernel
theorem dX5_restore_11 : decode cX5_restore 11 = .ok (.getfield 22, 3) := by decide +kernel
theorem dX5_restore_14 : decode cX5_restore 14 = .ok (.aload_n 0, 1) := by decide +kernel
theorem dX5_restore_15 : decode cX5_restore 15 = .ok (.getfield 12, 3) := by decide +kernel
theorem dX5_restore_18 : decode cX5_restore 18 = .ok (.invokevirtual 60, 3) := by decide +kernel
theorem dX5_restore_21 : decode cX5_restore 21 = .ok (.pop, 1) := by decide +kernel
theorem dX5_restore_22 : decode cX5_restore 22 = .ok (.aload_n 0, 1) := by decide +kernel
theorem dX5_restore_23 : decode cX5_restore 23 = .ok (.getfield 12, 3) := by decide +kernel
theorem dX5_restore_26 : decode cX5_restore 26 = .ok (.aload_n 0, 1) := by decide +kernel
theorem dX5_restore_27 : decode cX5_restore 27 = .ok (.getfield 16, 3) := by decide +kernel
theorem dX5_restore_30 : decode cX5_restore 30 = .ok (.invokevirtual 235, 3) := by decide +kernel
theorem dX5_restore_33 : decode cX5_restore 33 = .ok (.aload_n 0, 1) := by decide +kernel
theorem dX5_restore_34 : decode cX5_restore 34 = .ok (.iconst 4, 1) := by decide +kernel
theorem dX5_restore_35 : decode cX5_restore 35 = .ok (.invokevirtual 206, 3) := by decide +kernel
theorem dX5_restore_38 : decode cX5_restore 38 = .ok (.ireturn, 1) := by decide +kernel
theorem dX5_isRow_0 : decode cX5_isRow 0 = .ok (.iload_n 0, 1) := by decide +kernel
theorem dX5_isRow_1 : decode cX5_isRow 1 = .ok (.ifCond .lt 13, 3) := by decide +kernel
theorem dX5_isRow_4 : decode cX5_isRow 4 = .ok (.iload_n 0, 1) := by decide +kernel
theorem dX5_isRow_5 : decode cX5_isRow 5 = .ok (.bipush 8, 2) := by decide +kernel
theorem dX5_isRow_7 : decode cX5_isRow 7 = .ok (.if_icmp .ge 7, 3) := by decide +kernel
theorem dX5_isRow_10 : decode cX5_isRow 10 = .ok (.iconst 1, 1) := by decide +kernel
theorem dX5_isRow_11 : decode cX5_isRow 11 = .ok (.goto 4, 3) := by decide +kernel
theorem dX5_isRow_14 : decode cX5_isRow 14 = .ok (.iconst 0, 1) := by decide +kernel
theorem dX5_isRow_15 : decode cX5_isRow 15 = .ok (.ireturn, 1) := by decide +kernel
theorem dX5_isColumn_0 : decode cX5_isColumn 0 = .ok (.iload_n 0, 1) := by decide +kernel
theorem dX5_isColumn_1 : decode cX5_isColumn 1 = .ok (.ifCond .lt 13, 3) := by decide +kernel
theorem dX5_isColumn_4 : decode cX5_isColumn 4 = .ok (.iload_n 0, 1) := by decide +kernel
theorem dX5_isColumn_5 : decode cX5_isColumn 5 = .ok (.bipush 32, 2) := by decide +kernel
theorem dX5_isColumn_7 : decode cX5_isColumn 7 = .ok (.if_icmp .ge 7, 3) := by decide +kernel
theorem dX5_isColumn_10 : decode cX5_isColumn 10 = .ok (.iconst 1, 1) := by decide +kernel
theorem dX5_isColumn_11 : decode cX5_isColumn 11 = .ok (.goto 4, 3) := by decide +kernel
theorem dX5_isColumn_14 : decode cX5_isColumn 14 = .ok (.iconst 0, 1) := by decide +kernel
theorem dX5_isColumn_15 : decode cX5_isColumn 15 = .ok (.ireturn, 1) := by decide +kernel
theorem dX5_isPlane_0 : decode cX5_isPlane 0 = .ok (.iload_n 0, 1) := by decide +kernel
theorem dX5_isPlane_1 : decode cX5_isPlane 1 = .ok (.ifCond .lt 12, 3) := by decide +kernel
theorem dX5_isPlane_4 : decode cX5_isPlane 4 = .ok (.iload_n 0, 1) := by decide +kernel
theorem dX5_isPlane_5 : decode cX5_isPlane 5 = .ok (.iconst 5, 1) := by decide +kernel
theorem dX5_isPlane_6 : decode cX5_isPlane 6 = .ok (.if_icmp .ge 7, 3) := by decide +kernel
theorem dX5_isPlane_9 : decode cX5_isPlane 9 = .ok (.iconst 1, 1) := by decide +kernel
theorem dX5_isPlane_10 : decode cX5_isPlane 10 = .ok (.goto 4, 3) := by decide +kernel
theorem dX5_isPlane_13 : decode cX5_isPlane 13 = .ok (.iconst 0, 1) := by decide +kernel
theorem dX5_isPlane_14 : decode cX5_isPlane 14 = .ok (.ireturn, 1) := by decide +kernel
theorem dX5_isDot_0 : decode cX5_isDot 0 = .ok (.iload_n 0, 1) := by decide +kernel
theorem dX5_isDot_1 : decode cX5_isDot 1 = .ok (.ifCond .lt 13, 3) := by decide +kernel
theorem dX5_isDot_4 : decode cX5_isDot 4 = .ok (.iload_n 0, 1) := by decide +kernel
theorem dX5_isDot_5 : decode cX5_isDot 5 = .ok (.bipush 8, 2) := by decide +kernel
theorem dX5_isDot_7 : decode cX5_isDot 7 = .ok (.if_icmp .ge 7, 3) := by decide +kernel
theorem dX5_isDot_10 : decode cX5_isDot 10 = .ok (.iconst 1, 1) := by decide +kernel
theorem dX5_isDot_11 : decode cX5_isDot 11 = .ok (.goto 4, 3) := by decide +kernel
theorem dX5_isDot_14 : decode cX5_isDot 14 = .ok (.iconst 0, 1) := by decide +kernel
theorem dX5_isDot_15 : decode cX5_isDot 15 = .ok (.ireturn, 1) := by decide +kernel
theorem dX5_placeOf_0 : decode cX5_placeOf 0 = .ok (.iload_n 0, 1) := by decide +kernel
theorem dX5_placeOf_1 : decode cX5_placeOf 1 = .ok (.bipush 32, 2) := by decide +kernel
theorem dX5_placeOf_3 : decode cX5_placeOf 3 = .ok (.imul, 1) := by decide +kernel
theorem dX5_placeOf_4 : decode cX5_placeOf 4 = .ok (.iload_n 1, 1) := by decide +kernel
theorem dX5_placeOf_5 : decode cX5_placeOf 5 = .ok (.iadd, 1) := by decide +kernel
theorem dX5_placeOf_6 : decode cX5_placeOf 6 = .ok (.ireturn, 1) := by decide +kernel
theorem dX5_printRow_0 : decode cX5_printRow 0 = .ok (.aload_n 0, 1) := by decide +kernel
theorem dX5_printRow_1 : decode cX5_printRow 1 = .ok (.getfield 36, 3) := by decide +kernel
theorem dX5_printRow_4 : decode cX5_printRow 4 = .ok (.aload_n 0, 1) := by decide +kernel
theorem dX5_printRow_5 : decode cX5_printRow 5 = .ok (.getfield 12, 3) := by decide +kernel
theorem dX5_printRow_8 : decode cX5_printRow 8 = .ok (.iload_n 1, 1) := by decide +kernel
theorem dX5_printRow_9 : decode cX5_printRow 9 = .ok (.invokevirtual 72, 3) := by decide +kernel
theorem dX5_printRow_12 : decode cX5_printRow 12 = .ok (.aload_n 0, 1) := by decide +kernel
theorem dX5_printRow_13 : decode cX5_printRow 13 = .ok (.getfield 12, 3) := by decide +kernel
theorem dX5_printRow_16 : decode cX5_printRow 16 = .ok (.aload_n 0, 1) := by decide +kernel
theorem dX5_printRow_17 : decode cX5_printRow 17 = .ok (.getfield 36, 3) := by decide +kernel
theorem dX5_printRow_20 : decode cX5_printRow 20 = .ok (.aload_n 0, 1) := by decide +kernel
theorem dX5_printRow_21 : decode cX5_printRow 21 = .ok (.getfield 12, 3) := by decide +kernel
theorem dX5_printRow_24 : decode cX5_printRow 24 = .ok (.invokevirtual 242, 3) := by decide +kernel
theorem dX5_printRow_27 : decode cX5_printRow 27 = .ok (.putfield 119, 3) := by decide +kernel
theorem dX5_printRow_30 : decode cX5_printRow 30 = .ok (.aload_n 0, 1) := by decide +kernel
theorem dX5_printRow_31 : decode cX5_printRow 31 = .ok (.getfield 36, 3) := by decide +kernel
theorem dX5_printRow_34 : decode cX5_printRow 34 = .ok (.invokevirtual 245, 3) := by decide +kernel
theorem dX5_printRow_37 : decode cX5_printRow 37 = .ok (.aload_n 0, 1) := by decide +kernel
theorem dX5_printRow_38 : decode cX5_printRow 38 = .ok (.getfield 36, 3) := by decide +kernel
theorem dX5_printRow_41 : decode cX5_printRow 41 = .ok (.aload_n 0, 1) := by decide +kernel
theorem dX5_printRow_42 : decode cX5_printRow 42 = .ok (.getfield 12, 3) := by decide +kernel
theorem dX5_printRow_45 : decode cX5_printRow 45 = .ok (.iload_n 1, 1) := by decide +kernel
theorem dX5_printRow_46 : decode cX5_printRow 46 = .ok (.invokevirtual 84, 3) := by decide +kernel
theorem dX5_printRow_49 : decode cX5_printRow 49 = .ok (.return_, 1) := by decide +kernel
theorem dX5_rightIfPrinted_0 : decode cX5_rightIfPrinted 0 = .ok (.aload_n 0, 1) := by decide +kernel
theorem dX5_rightIfPrinted_1 : decode cX5_rightIfPrinted 1 = .ok (.getfield 36, 3) := by decide +kernel
theorem dX5_rightIfPrinted_4 : decode cX5_rightIfPrinted 4 = .ok (.aload_n 0, 1) := by decide +kernel
theorem dX5_rightIfPrinted_5 : decode cX5_rightIfPrinted 5 = .ok (.getfield 12, 3) := by decide +kernel
theorem dX5_rightIfPrinted_8 : decode cX5_rightIfPrinted 8 = .ok (.iload_n 1, 1) := by decide +kernel
theorem dX5_rightIfPrinted_9 : decode cX5_rightIfPrinted 9 = .ok (.invokevirtual 72, 3) := by decide +kernel
theorem dX5_rightIfPrinted_12 : decode cX5_rightIfPrinted 12 = .ok (.aload_n 0, 1) := by decide +kernel
theorem dX5_rightIfPrinted_13 : decode cX5_rightIfPrinted 13 = .ok (.getfield 36, 3) := by decide +kernel
theorem dX5_rightIfPrinted_16 : decode cX5_rightIfPrinted 16 = .ok (.iload_n 2, 1) := by decide +kernel
theorem dX5_rightIfPrinted_17 : decode cX5_rightIfPrinted 17 = .ok (.putfield 248, 3) := by decide +kernel
theorem dX5_rightIfPrinted_20 : decode cX5_rightIfPrinted 20 = .ok (.aload_n 0, 1) := by decide +kernel
theorem dX5_rightIfPrinted_21 : decode cX5_rightIfPrinted 21 = .ok (.getfield 36, 3) := by decide +kernel
theorem dX5_rightIfPrinted_24 : decode cX5_rightIfPrinted 24 = .ok (.aload_n 0, 1) := by decide +kernel
theorem dX5_rightIfPrinted_25 : decode cX5_rightIfPrinted 25 = .ok (.getfield 12, 3) := by decide +kernel
theorem dX5_rightIfPrinted_28 : decode cX5_rightIfPrinted 28 = .ok (.invokevirtual 242, 3) := by decide +kernel
theorem dX5_rightIfPrinted_31 : decode cX5_rightIfPrinted 31 = .ok (.pop, 1) := by decide +kernel
theorem dX5_rightIfPrinted_32 : decode cX5_rightIfPrinted 32 = .ok (.aload_n 0, 1) := by decide +kernel
theorem dX5_rightIfPrinted_33 : decode cX5_rightIfPrinted 33 = .ok (.getfield 36, 3) := by decide +kernel
theorem dX5_rightIfPrinted_36 : decode cX5_rightIfPrinted 36 = .ok (.invokevirtual 214, 3) := by decide +kernel
theorem dX5_rightIfPrinted_39 : decode cX5_rightIfPrinted 39 = .ok (.aload_n 0, 1) := by decide +kernel
theorem dX5_rightIfPrinted_40 : decode cX5_rightIfPrinted 40 = .ok (.getfield 36, 3) := by decide +kernel
theorem dX5_rightIfPrinted_43 : decode cX5_rightIfPrinted 43 = .ok (.iconst 4, 1) := by decide +kernel
theorem dX5_rightIfPrinted_44 : decode cX5_rightIfPrinted 44 = .ok (.invokevirtual 179, 3) := by decide +kernel
theorem dX5_rightIfPrinted_47 : decode cX5_rightIfPrinted 47 = .ok (.ireturn, 1) := by decide +kernel
theorem dX5_rightPlaces_0 : decode cX5_rightPlaces 0 = .ok (.aload_n 0, 1) := by decide +kernel
theorem dX5_rightPlaces_1 : decode cX5_rightPlaces 1 = .ok (.getfield 36, 3) := by decide +kernel
theorem dX5_rightPlaces_4 : decode cX5_rightPlaces 4 = .ok (.aload_n 0, 1) := by decide +kernel
theorem dX5_rightPlaces_5 : decode cX5_rightPlaces 5 = .ok (.getfield 12, 3) := by decide +kernel
theorem dX5_rightPlaces_8 : decode cX5_rightPlaces 8 = .ok (.iload_n 1, 1) := by decide +kernel
theorem dX5_rightPlaces_9 : decode cX5_rightPlaces 9 = .ok (.invokevirtual 146, 3) := by decide +kernel
theorem dX5_rightPlaces_12 : decode cX5_rightPlaces 12 = .ok (.aload_n 0, 1) := by decide +kernel
theorem dX5_rightPlaces_13 : decode cX5_rightPlaces 13 = .ok (.getfield 36, 3) := by decide +kernel
theorem dX5_rightPlaces_16 : decode cX5_rightPlaces 16 = .ok (.iconst 4, 1) := by decide +kernel
theorem dX5_rightPlaces_17 : decode cX5_rightPlaces 17 = .ok (.invokevirtual 179, 3) := by decide +kernel
theorem dX5_rightPlaces_20 : decode cX5_rightPlaces 20 = .ok (.ireturn, 1) := by decide +kernel
theorem dX5_allPlacesOfKind_0 : decode cX5_allPlacesOfKind 0 = .ok (.iconst 0, 1) := by decide +kernel
theorem dX5_allPlacesOfKind_1 : decode cX5_allPlacesOfKind 1 = .ok (.istore_n 2, 1) := by decide +kernel
theorem dX5_allPlacesOfKind_2 : decode cX5_allPlacesOfKind 2 = .ok (.iconst 0, 1) := by decide +kernel
theorem dX5_allPlacesOfKind_3 : decode cX5_allPlacesOfKind 3 = .ok (.istore_n 3, 1) := by decide +kernel
theorem dX5_allPlacesOfKind_4 : decode cX5_allPlacesOfKind 4 = .ok (.iload_n 3, 1) := by decide +kernel
theorem dX5_allPlacesOfKind_5 : decode cX5_allPlacesOfKind 5 = .ok (.bipush 8, 2) := by decide +kernel
theorem dX5_allPlacesOfKind_7 : decode cX5_allPlacesOfKind 7 = .ok (.if_icmp .ge 32, 3) := by decide +kernel
theorem dX5_allPlacesOfKind_10 : decode cX5_allPlacesOfKind 10 = .ok (.aload_n 0, 1) := by decide +kernel
theorem dX5_allPlacesOfKind_11 : decode cX5_allPlacesOfKind 11 = .ok (.getfield 36, 3) := by decide +kernel
theorem dX5_allPlacesOfKind_14 : decode cX5_allPlacesOfKind 14 = .ok (.aload_n 0, 1) := by decide +kernel
theorem dX5_allPlacesOfKind_15 : decode cX5_allPlacesOfKind 15 = .ok (.getfield 12, 3) := by decide +kernel
theorem dX5_allPlacesOfKind_18 : decode cX5_allPlacesOfKind 18 = .ok (.iload_n 3, 1) := by decide +kernel
theorem dX5_allPlacesOfKind_19 : decode cX5_allPlacesOfKind 19 = .ok (.invokevirtual 146, 3) := by decide +kernel
theorem dX5_allPlacesOfKind_22 : decode cX5_allPlacesOfKind 22 = .ok (.iload_n 2, 1) := by decide +kernel
theorem dX5_allPlacesOfKind_23 : decode cX5_allPlacesOfKind 23 = .ok (.aload_n 0, 1) := by decide +kernel
theorem dX5_allPlacesOfKind_24 : decode cX5_allPlacesOfKind 24 = .ok (.getfield 36, 3) := by decide +kernel
theorem dX5_allPlacesOfKind_27 : decode cX5_allPlacesOfKind 27 = .ok (.iload_n 1, 1) := by decide +kernel
theorem dX5_allPlacesOfKind_28 : decode cX5_allPlacesOfKind 28 = .ok (.invokevirtual 179, 3) := by decide +kernel
theorem dX5_allPlacesOfKind_31 : decode cX5_allPlacesOfKind 31 = .ok (.iadd, 1) := by decide +kernel
theorem dX5_allPlacesOfKind_32 : decode cX5_allPlacesOfKind 32 = .ok (.istore_n 2, 1) := by decide +kernel
theorem dX5_allPlacesOfKind_33 : decode cX5_allPlacesOfKind 33 = .ok (.iinc 3 1, 3) := by decide +kernel
theorem dX5_allPlacesOfKind_36 : decode cX5_allPlacesOfKind 36 = .ok (.goto (-32), 3) := by decide +kernel
theorem dX5_allPlacesOfKind_39 : decode cX5_allPlacesOfKind 39 = .ok (.iload_n 2, 1) := by decide +kernel
theorem dX5_allPlacesOfKind_40 : decode cX5_allPlacesOfKind 40 = .ok (.ireturn, 1) := by decide +kernel
theorem dX5_rankedAt_0 : decode cX5_rankedAt 0 = .ok (.iconst 0, 1) := by decide +kernel
theorem dX5_rankedAt_1 : decode cX5_rankedAt 1 = .ok (.istore_n 3, 1) := by decide +kernel
theorem dX5_rankedAt_2 : decode cX5_rankedAt 2 = .ok (.iload_n 3, 1) := by decide +kernel
theorem dX5_rankedAt_3 : decode cX5_rankedAt 3 = .ok (.iload_n 1, 1) := by decide +kernel
theorem dX5_rankedAt_4 : decode cX5_rankedAt 4 = .ok (.if_icmp .ge 21, 3) := by decide +kernel
theorem dX5_rankedAt_7 : decode cX5_rankedAt 7 = .ok (.aload_n 0, 1) := by decide +kernel
theorem dX5_rankedAt_8 : decode cX5_rankedAt 8 = .ok (.iload_n 3, 1) := by decide +kernel
theorem dX5_rankedAt_9 : decode cX5_rankedAt 9 = .ok (.iload_n 1, 1) := by decide +kernel
theorem dX5_rankedAt_10 : decode cX5_rankedAt 10 = .ok (.invokevirtual 251, 3) := by decide +kernel
theorem dX5_rankedAt_13 : decode cX5_rankedAt 13 = .ok (.iload_n 2, 1) := by decide +kernel
theorem dX5_rankedAt_14 : decode cX5_rankedAt 14 = .ok (.if_icmp .ne 5, 3) := by decide +kernel
theorem dX5_rankedAt_17 : decode cX5_rankedAt 17 = .ok (.iload_n 3, 1) := by decide +kernel
theorem dX5_rankedAt_18 : decode cX5_rankedAt 18 = .ok (.ireturn, 1) := by decide +kernel
theorem dX5_rankedAt_19 : decode cX5_rankedAt 19 = .ok (.iinc 3 1, 3) := by decide +kernel
theorem dX5_rankedAt_22 : decode cX5_rankedAt 22 = .ok (.goto (-20), 3) := by decide +kernel
theorem dX5_rankedAt_25 : decode cX5_rankedAt 25 = .ok (.iconst 0, 1) := by decide +kernel
theorem dX5_rankedAt_26 : decode cX5_rankedAt 26 = .ok (.ireturn, 1) := by decide +kernel
theorem dX5_rankOf_0 : decode cX5_rankOf 0 = .ok (.iconst 0, 1) := by decide +kernel
theorem dX5_rankOf_1 : decode cX5_rankOf 1 = .ok (.istore_n 3, 1) := by decide +kernel
theorem dX5_rankOf_2 : decode cX5_rankOf 2 = .ok (.iconst 0, 1) := by decide +kernel
theorem dX5_rankOf_3 : decode cX5_rankOf 3 = .ok (.istore 4, 2) := by decide +kernel
theorem dX5_rankOf_5 : decode cX5_rankOf 5 = .ok (.iload 4, 2) := by decide +kernel
theorem dX5_rankOf_7 : decode cX5_rankOf 7 = .ok (.iload_n 2, 1) := by decide +kernel
theorem dX5_rankOf_8 : decode cX5_rankOf 8 = .ok (.if_icmp .ge 50, 3) := by decide +kernel
theorem dX5_rankOf_11 : decode cX5_rankOf 11 = .ok (.aload_n 0, 1) := by decide +kernel
theorem dX5_rankOf_12 : decode cX5_rankOf 12 = .ok (.getfield 47, 3) := by decide +kernel
theorem dX5_rankOf_15 : decode cX5_rankOf 15 = .ok (.iload 4, 2) := by decide +kernel
theorem dX5_rankOf_17 : decode cX5_rankOf 17 = .ok (.iaload, 1) := by decide +kernel
theorem dX5_rankOf_18 : decode cX5_rankOf 18 = .ok (.aload_n 0, 1) := by decide +kernel
theorem dX5_rankOf_19 : decode cX5_rankOf 19 = .ok (.getfield 47, 3) := by decide +kernel
theorem dX5_rankOf_22 : decode cX5_rankOf 22 = .ok (.iload_n 1, 1) := by decide +kernel
theorem dX5_rankOf_23 : decode cX5_rankOf 23 = .ok (.iaload, 1) := by decide +kernel
theorem dX5_rankOf_24 : decode cX5_rankOf 24 = .ok (.if_icmp .gt 25, 3) := by decide +kernel
theorem dX5_rankOf_27 : decode cX5_rankOf 27 = .ok (.aload_n 0, 1) := by decide +kernel
theorem dX5_rankOf_28 : decode cX5_rankOf 28 = .ok (.getfield 47, 3) := by decide +kernel
theorem dX5_rankOf_31 : decode cX5_rankOf 31 = .ok (.iload 4, 2) := by decide +kernel
theorem dX5_rankOf_33 : decode cX5_rankOf 33 = .ok (.iaload, 1) := by decide +kernel
theorem dX5_rankOf_34 : decode cX5_rankOf 34 = .ok (.aload_n 0, 1) := by decide +kernel
theorem dX5_rankOf_35 : decode cX5_rankOf 35 = .ok (.getfield 47, 3) := by decide +kernel
theorem dX5_rankOf_38 : decode cX5_rankOf 38 = .ok (.iload_n 1, 1) := by decide +kernel
theorem dX5_rankOf_39 : decode cX5_rankOf 39 = .ok (.iaload, 1) := by decide +kernel
theorem dX5_rankOf_40 : decode cX5_rankOf 40 = .ok (.if_icmp .ne 12, 3) := by decide +kernel
theorem dX5_rankOf_43 : decode cX5_rankOf 43 = .ok (.iload 4, 2) := by decide +kernel
theorem dX5_rankOf_45 : decode cX5_rankOf 45 = .ok (.iload_n 1, 1) := by decide +kernel
theorem dX5_rankOf_46 : decode cX5_rankOf 46 = .ok (.if_icmp .ge 6, 3) := by decide +kernel
theorem dX5_rankOf_49 : decode cX5_rankOf 49 = .ok (.iinc 3 1, 3) := by decide +kernel
theorem dX5_rankOf_52 : decode cX5_rankOf 52 = .ok (.iinc 4 1, 3) := by decide +kernel
theorem dX5_rankOf_55 : decode cX5_rankOf 55 = .ok (.goto (-50), 3) := by decide +kernel
theorem dX5_rankOf_58 : decode cX5_rankOf 58 = .ok (.iload_n 3, 1) := by decide +kernel
theorem dX5_rankOf_59 : decode cX5_rankOf 59 = .ok (.ireturn, 1) := by decide +kernel
theorem dX5_isNewPicture_0 : decode cX5_isNewPicture 0 = .ok (.iconst 0, 1) := by decide +kernel
theorem dX5_isNewPicture_1 : decode cX5_isNewPicture 1 = .ok (.istore_n 2, 1) := by decide +kernel
theorem dX5_isNewPicture_2 : decode cX5_isNewPicture 2 = .ok (.iload_n 2, 1) := by decide +kernel
theorem dX5_isNewPicture_3 : decode cX5_isNewPicture 3 = .ok (.iload_n 1, 1) := by decide +kernel
theorem dX5_isNewPicture_4 : decode cX5_isNewPicture 4 = .ok (.if_icmp .ge 20, 3) := by decide +kernel
theorem dX5_isNewPicture_7 : decode cX5_isNewPicture 7 = .ok (.aload_n 0, 1) := by decide +kernel
theorem dX5_isNewPicture_8 : decode cX5_isNewPicture 8 = .ok (.iload_n 1, 1) := by decide +kernel
theorem dX5_isNewPicture_9 : decode cX5_isNewPicture 9 = .ok (.iload_n 2, 1) := by decide +kernel
theorem dX5_isNewPicture_10 : decode cX5_isNewPicture 10 = .ok (.invokevirtual 254, 3) := by decide +kernel
theorem dX5_isNewPicture_13 : decode cX5_isNewPicture 13 = .ok (.ifCond .eq 5, 3) := by decide +kernel
theorem dX5_isNewPicture_16 : decode cX5_isNewPicture 16 = .ok (.iconst 0, 1) := by decide +kernel
theorem dX5_isNewPicture_17 : decode cX5_isNewPicture 17 = .ok (.ireturn, 1) := by decide +kernel
theorem dX5_isNewPicture_18 : decode cX5_isNewPicture 18 = .ok (.iinc 2 1, 3) := by decide +kernel
theorem dX5_isNewPicture_21 : decode cX5_isNewPicture 21 = .ok (.goto (-19), 3) := by decide +kernel
theorem dX5_isNewPicture_24 : decode cX5_isNewPicture 24 = .ok (.iconst 1, 1) := by decide +kernel
theorem dX5_isNewPicture_25 : decode cX5_isNewPicture 25 = .ok (.ireturn, 1) := by decide +kernel
theorem dX5_isSameView_0 : decode cX5_isSameView 0 = .ok (.iconst 0, 1) := by decide +kernel
theorem dX5_isSameView_1 : decode cX5_isSameView 1 = .ok (.istore_n 3, 1) := by decide +kernel
theorem dX5_isSameView_2 : decode cX5_isSameView 2 = .ok (.iload_n 3, 1) := by decide +kernel
theorem dX5_isSameView_3 : decode cX5_isSameView 3 = .ok (.bipush 32, 2) := by decide +kernel
theorem dX5_isSameView_5 : decode cX5_isSameView 5 = .ok (.if_icmp .ge 34, 3) := by decide +kernel
theorem dX5_isSameView_8 : decode cX5_isSameView 8 = .ok (.aload_n 0, 1) := by decide +kernel
theorem dX5_isSameView_9 : decode cX5_isSameView 9 = .ok (.getfield 43, 3) := by decide +kernel
theorem dX5_isSameView_12 : decode cX5_isSameView 12 = .ok (.iload_n 1, 1) := by decide +kernel
theorem dX5_isSameView_13 : decode cX5_isSameView 13 = .ok (.iload_n 3, 1) := by decide +kernel
theorem dX5_isSameView_14 : decode cX5_isSameView 14 = .ok (.invokestatic 80, 3) := by decide +kernel
theorem dX5_isSameView_17 : decode cX5_isSameView 17 = .ok (.iaload, 1) := by decide +kernel
theorem dX5_isSameView_18 : decode cX5_isSameView 18 = .ok (.aload_n 0, 1) := by decide +kernel
theorem dX5_isSameView_19 : decode cX5_isSameView 19 = .ok (.getfield 43, 3) := by decide +kernel
theorem dX5_isSameView_22 : decode cX5_isSameView 22 = .ok (.iload_n 2, 1) := by decide +kernel
theorem dX5_isSameView_23 : decode cX5_isSameView 23 = .ok (.iload_n 3, 1) := by decide +kernel
theorem dX5_isSameView_24 : decode cX5_isSameView 24 = .ok (.invokestatic 80, 3) := by decide +kernel
theorem dX5_isSameView_27 : decode cX5_isSameView 27 = .ok (.iaload, 1) := by decide +kernel
theorem dX5_isSameView_28 : decode cX5_isSameView 28 = .ok (.if_icmp .eq 5, 3) := by decide +kernel
theorem dX5_isSameView_31 : decode cX5_isSameView 31 = .ok (.iconst 0, 1) := by decide +kernel
theorem dX5_isSameView_32 : decode cX5_isSameView 32 = .ok (.ireturn, 1) := by decide +kernel
theorem dX5_isSameView_33 : decode cX5_isSameView 33 = .ok (.iinc 3 1, 3) := by decide +kernel
theorem dX5_isSameView_36 : decode cX5_isSameView 36 = .ok (.goto (-34), 3) := by decide +kernel
theorem dX5_isSameView_39 : decode cX5_isSameView 39 = .ok (.iconst 1, 1) := by decide +kernel
theorem dX5_isSameView_40 : decode cX5_isSameView 40 = .ok (.ireturn, 1) := by decide +kernel
theorem dX6_init_0 : decode cX6_init 0 = .ok (.aload_n 0, 1) := by decide +kernel
theorem dX6_init_1 : decode cX6_init 1 = .ok (.invokespecial 1, 3) := by decide +kernel
theorem dX6_init_4 : decode cX6_init 4 = .ok (.aload_n 0, 1) := by decide +kernel
theorem dX6_init_5 : decode cX6_init 5 = .ok (.sipush 800, 3) := by decide +kernel
theorem dX6_init_8 : decode cX6_init 8 = .ok (.newarray .int, 2) := by decide +kernel
theorem dX6_init_10 : decode cX6_init 10 = .ok (.putfield 7, 3) := by decide +kernel
theorem dX6_init_13 : decode cX6_init 13 = .ok (.aload_n 0, 1) := by decide +kernel
theorem dX6_init_14 : decode cX6_init 14 = .ok (.sipush 800, 3) := by decide +kernel
theorem dX6_init_17 : decode cX6_init 17 = .ok (.newarray .int, 2) := by decide +kernel
theorem dX6_init_19 : decode cX6_init 19 = .ok (.putfield 13, 3) := by decide +kernel
theorem dX6_init_22 : decode cX6_init 22 = .ok (.aload_n 0, 1) := by decide +kernel
theorem dX6_init_23 : decode cX6_init 23 = .ok (.sipush 3200, 3) := by decide +kernel
theorem dX6_init_26 : decode cX6_init 26 = .ok (.newarray .int, 2) := by decide +kernel
theorem dX6_init_28 : decode cX6_init 28 = .ok (.putfield 16, 3) := by decide +kernel
theorem dX6_init_31 : decode cX6_init 31 = .ok (.aload_n 0, 1) := by decide +kernel
theorem dX6_init_32 : decode cX6_init 32 = .ok (.sipush 800, 3) := by decide +kernel
theorem dX6_init_35 : decode cX6_init 35 = .ok (.newarray .int, 2) := by decide +kernel
theorem dX6_init_37 : decode cX6_init 37 = .ok (.putfield 19, 3) := by decide +kernel
theorem dX6_init_40 : decode cX6_init 40 = .ok (.aload_n 0, 1) := by decide +kernel
theorem dX6_init_41 : decode cX6_init 41 = .ok (.bipush 80, 2) := by decide +kernel
theorem dX6_init_43 : decode cX6_init 43 = .ok (.newarray .int, 2) := by decide +kernel
theorem dX6_init_45 : decode cX6_init 45 = .ok (.putfield 22, 3) := by decide +kernel
theorem dX6_init_48 : decode cX6_init 48 = .ok (.aload_n 0, 1) := by decide +kernel
theorem dX6_init_49 : decode cX6_init 49 = .ok (.bipush 32, 2) := by decide +kernel
theorem dX6_init_51 : decode cX6_init 51 = .ok (.newarray .int, 2) := by decide +kernel
theorem dX6_init_53 : decode cX6_init 53 = .ok (.putfield 25, 3) := by decide +kernel
theorem dX6_init_56 : decode cX6_init 56 = .ok (.aload_n 0, 1) := by decide +kernel
theorem dX6_init_57 : decode cX6_init 57 = .ok (.bipush 32, 2) := by decide +kernel
theorem dX6_init_59 : decode cX6_init 59 = .ok (.newarray .int, 2) := by decide +kernel
theorem dX6_init_61 : decode cX6_init 61 = .ok (.putfield 28, 3) := by decide +kernel
theorem dX6_init_64 : decode cX6_init 64 = .ok (.aload_n 0, 1) := by decide +kernel
theorem dX6_init_65 : decode cX6_init 65 = .ok (.getfield 7, 3) := by decide +kernel
theorem dX6_init_68 : decode cX6_init 68 = .ok (.iconst 0, 1) := by decide +kernel
theorem dX6_init_69 : decode cX6_init 69 = .ok (.bipush 8, 2) := by decide +kernel
theorem dX6_init_71 : decode cX6_init 71 = .ok (.iastore, 1) := by decide +kernel
theorem dX6_init_72 : decode cX6_init 72 = .ok (.aload_n 0, 1) := by decide +kernel
theorem dX6_init_73 : decode cX6_init 73 = .ok (.getfield 7, 3) := by decide +kernel
theorem dX6_init_76 : decode cX6_init 76 = .ok (.iconst 1, 1) := by decide +kernel
theorem dX6_init_77 : decode cX6_init 77 = .ok (.iconst 4, 1) := by decide +kernel
theorem dX6_init_78 : decode cX6_init 78 = .ok (.iastore, 1) := by decide +kernel
theorem dX6_init_79 : decode cX6_init 79 = .ok (.aload_n 0, 1) := by decide +kernel
theorem dX6_init_80 : decode cX6_init 80 = .ok (.getfield 7, 3) := by decide +kernel
theorem dX6_init_83 : decode cX6_init 83 = .ok (.iconst 2, 1) := by decide +kernel
theorem dX6_init_84 : decode cX6_init 84 = .ok (.iconst 1, 1) := by decide +kernel
theorem dX6_init_85 : decode cX6_init 85 = .ok (.iastore, 1) := by decide +kernel
theorem dX6_init_86 : decode cX6_init 86 = .ok (.aload_n 0, 1) := by decide +kernel
theorem dX6_init_87 : decode cX6_init 87 = .ok (.getfield 7, 3) := by decide +kernel
theorem dX6_init_90 : decode cX6_init 90 = .ok (.iconst 4, 1) := by decide +kernel
theorem dX6_init_91 : decode cX6_init 91 = .ok (.bipush 60, 2) := by decide +kernel
theorem dX6_init_93 : decode cX6_init 93 = .ok (.iastore, 1) := by decide +kernel
theorem dX6_init_94 : decode cX6_init 94 = .ok (.aload_n 0, 1) := by decide +kernel
theorem dX6_init_95 : decode cX6_init 95 = .ok (.getfield 7, 3) := by decide +kernel
theorem dX6_init_98 : decode cX6_init 98 = .ok (.iconst 5, 1) := by decide +kernel
theorem dX6_init_99 : decode cX6_init 99 = .ok (.bipush 120, 2) := by decide +kernel
theorem dX6_init_101 : decode cX6_init 101 = .ok (.iastore, 1) := by decide +kernel
theorem dX6_init_102 : decode cX6_init 102 = .ok (.aload_n 0, 1) := by decide +kernel
theorem dX6_init_103 : decode cX6_init 103 = .ok (.getfield 7, 3) := by decide +kernel
theorem dX6_init_106 : decode cX6_init 106 = .ok (.bipush 6, 2) := by decide +kernel
theorem dX6_init_108 : decode cX6_init 108 = .ok (.iconst 1, 1) := by decide +kernel
theorem dX6_init_109 : decode cX6_init 109 = .ok (.iastore, 1) := by decide +kernel
theorem dX6_init_110 : decode cX6_init 110 = .ok (.return_, 1) := by decide +kernel
theorem dX6_in_0 : decode cX6_in 0 = .ok (.iload_n 0, 1) := by decide +kernel
theorem dX6_in_1 : decode cX6_in 1 = .ok (.iload_n 1, 1) := by decide +kernel
theorem dX6_in_2 : decode cX6_in 2 = .ok (.if_icmp .lt 12, 3) := by decide +kernel
theorem dX6_in_5 : decode cX6_in 5 = .ok (.iload_n 0, 1) := by decide +kernel
theorem dX6_in_6 : decode cX6_in 6 = .ok (.iload_n 2, 1) := by decide +kernel
theorem dX6_in_7 : decode cX6_in 7 = .ok (.if_icmp .gt 7, 3) := by decide +kernel
theorem dX6_in_10 : decode cX6_in 10 = .ok (.iconst 1, 1) := by decide +kernel
theorem dX6_in_11 : decode cX6_in 11 = .ok (.goto 4, 3) := by decide +kernel
theorem dX6_in_14 : decode cX6_in 14 = .ok (.iconst 0, 1) := by decide +kernel
theorem dX6_in_15 : decode cX6_in 15 = .ok (.ireturn, 1) := by decide +kernel
theorem dX6_greater_0 : decode cX6_greater 0 = .ok (.iload_n 0, 1) := by decide +kernel
theorem dX6_greater_1 : decode cX6_greater 1 = .ok (.iload_n 1, 1) := by decide +kernel
theorem dX6_greater_2 : decode cX6_greater 2 = .ok (.if_icmp .le 7, 3) := by decide +kernel
theorem dX6_greater_5 : decode cX6_greater 5 = .ok (.iload_n 0, 1) := by decide +kernel
theorem dX6_greater_6 : decode cX6_greater 6 = .ok (.goto 4, 3) := by decide +kernel
theorem dX6_greater_9 : decode cX6_greater 9 = .ok (.iload_n 1, 1) := by decide +kernel
theorem dX6_greater_10 : decode cX6_greater 10 = .ok (.ireturn, 1) := by decide +kernel
theorem dX6_isRow_0 : decode cX6_isRow 0 = .ok (.iload_n 0, 1) := by decide +kernel
theorem dX6_isRow_1 : decode cX6_isRow 1 = .ok (.iconst 0, 1) := by decide +kernel
theorem dX6_isRow_2 : decode cX6_isRow 2 = .ok (.bipush 7, 2) := by decide +kernel
theorem dX6_isRow_4 : decode cX6_isRow 4 = .ok (.invokestatic 31, 3) := by decide +kernel
theorem dX6_isRow_7 : decode cX6_isRow 7 = .ok (.ireturn, 1) := by decide +kernel
theorem dX6_isColumn_0 : decode cX6_isColumn 0 = .ok (.iload_n 0, 1) := by decide +kernel
theorem dX6_isColumn_1 : decode cX6_isColumn 1 = .ok (.iconst 0, 1) := by decide +kernel
theorem dX6_isColumn_2 : decode cX6_isColumn 2 = .ok (.bipush 31, 2) := by decide +kernel
theorem dX6_isColumn_4 : decode cX6_isColumn 4 = .ok (.invokestatic 31, 3) := by decide +kernel
theorem dX6_isColumn_7 : decode cX6_isColumn 7 = .ok (.ireturn, 1) := by decide +kernel
theorem dX6_place_0 : decode cX6_place 0 = .ok (.bipush 32, 2) := by decide +kernel
theorem dX6_place_2 : decode cX6_place 2 = .ok (.iload_n 0, 1) := by decide +kernel
theorem dX6_place_3 : decode cX6_place 3 = .ok (.imul, 1) := by decide +kernel
theorem dX6_place_4 : decode cX6_place 4 = .ok (.iload_n 1, 1) := by decide +kernel
theorem dX6_place_5 : decode cX6_place 5 = .ok (.iadd, 1) := by decide +kernel
theorem dX6_place_6 : decode cX6_place 6 = .ok (.ireturn, 1) := by decide +kernel
theorem dX6_planeOf_0 : decode cX6_planeOf 0 = .ok (.aload_n 0, 1) := by decide +kernel
theorem dX6_planeOf_1 : decode cX6_planeOf 1 = .ok (.getfield 7, 3) := by decide +kernel
theorem dX6_planeOf_4 : decode cX6_planeOf 4 = .ok (.bipush 32, 2) := by decide +kernel
theorem dX6_planeOf_6 : decode cX6_planeOf 6 = .ok (.iload_n 1, 1) := by decide +kernel
theorem dX6_planeOf_7 : decode cX6_planeOf 7 = .ok (.iload_n 2, 1) := by decide +kernel
theorem dX6_planeOf_8 : decode cX6_planeOf 8 = .ok (.invokestatic 35, 3) := by decide +kernel
theorem dX6_planeOf_11 : decode cX6_planeOf 11 = .ok (.iadd, 1) := by decide +kernel
theorem dX6_planeOf_12 : decode cX6_planeOf 12 = .ok (.iaload, 1) := by decide +kernel
theorem dX6_planeOf_13 : decode cX6_planeOf 13 = .ok (.ireturn, 1) := by decide +kernel
theorem dX6_dotOf_0 : decode cX6_dotOf 0 = .ok (.aload_n 0, 1) := by decide +kernel
theorem dX6_dotOf_1 : decode cX6_dotOf 1 = .ok (.getfield 7, 3) := by decide +kernel
theorem dX6_dotOf_4 : decode cX6_dotOf 4 = .ok (.sipush 288, 3) := by decide +kernel
theorem dX6_dotOf_7 : decode cX6_dotOf 7 = .ok (.iload_n 1, 1) := by decide +kernel
theorem dX6_dotOf_8 : decode cX6_dotOf 8 = .ok (.iload_n 2, 1) := by decide +kernel
theorem dX6_dotOf_9 : decode cX6_dotOf 9 = .ok (.invokestatic 35, 3) := by decide +kernel
theorem dX6_dotOf_12 : decode cX6_dotOf 12 = .ok (.iadd, 1) := by decide +kernel
theorem dX6_dotOf_13 : decode cX6_dotOf 13 = .ok (.iaload, 1) := by decide +kernel
theorem dX6_dotOf_14 : decode cX6_dotOf 14 = .ok (.ireturn, 1) := by decide +kernel
theorem dX6_putAside_0 : decode cX6_putAside 0 = .ok (.iconst 0, 1) := by decide +kernel
theorem dX6_putAside_1 : decode cX6_putAside 1 = .ok (.istore_n 1, 1) := by decide +kernel
theorem dX6_putAside_2 : decode cX6_putAside 2 = .ok (.iload_n 1, 1) := by decide +kernel
theorem dX6_putAside_3 : decode cX6_putAside 3 = .ok (.sipush 800, 3) := by decide +kernel
theorem dX6_putAside_6 : decode cX6_putAside 6 = .ok (.if_icmp .ge 21, 3) := by decide +kernel
theorem dX6_putAside_9 : decode cX6_putAside 9 = .ok (.aload_n 0, 1) := by decide +kernel
theorem dX6_putAside_10 : decode cX6_putAside 10 = .ok (.getfield 13, 3) := by decide +kernel
theorem dX6_putAside_13 : decode cX6_putAside 13 = .ok (.iload_n 1, 1) := by decide +kernel
theorem dX6_putAside_14 : decode cX6_putAside 14 = .ok (.aload_n 0, 1) := by decide +kernel
theorem dX6_putAside_15 : decode cX6_putAside 15 = .ok (.getfield 7, 3) := by decide +kernel
theorem dX6_putAside_18 : decode cX6_putAside 18 = .ok (.iload_n 1, 1) := by decide +kernel
theorem dX6_putAside_19 : decode cX6_putAside 19 = .ok (.iaload, 1) := by decide +kernel
theorem dX6_putAside_20 : decode cX6_putAside 20 = .ok (.iastore, 1) := by decide +kernel
theorem dX6_putAside_21 : decode cX6_putAside 21 = .ok (.iinc 1 1, 3) := by decide +kernel
theorem dX6_putAside_24 : decode cX6_putAside 24 = .ok (.goto (-22), 3) := by decide +kernel
theorem dX6_putAside_27 : decode cX6_putAside 27 = .ok (.return_, 1) := by decide +kernel
theorem dX6_putBack_0 : decode cX6_putBack 0 = .ok (.iconst 0, 1) := by decide +kernel
theorem dX6_putBack_1 : decode cX6_putBack 1 = .ok (.istore_n 1, 1) := by decide +kernel
theorem dX6_putBack_2 : decode cX6_putBack 2 = .ok (.iload_n 1, 1) := by decide +kernel
theorem dX6_putBack_3 : decode cX6_putBack 3 = .ok (.sipush 800, 3) := by decide +kernel
theorem dX6_putBack_6 : decode cX6_putBack 6 = .ok (.if_icmp .ge 21, 3) := by decide +kernel
theorem dX6_putBack_9 : decode cX6_putBack 9 = .ok (.aload_n 0, 1) := by decide +kernel
theorem dX6_putBack_10 : decode cX6_putBack 10 = .ok (.getfield 7, 3) := by decide +kernel
theorem dX6_putBack_13 : decode cX6_putBack 13 = .ok (.iload_n 1, 1) := by decide +kernel
theorem dX6_putBack_14 : decode cX6_putBack 14 = .ok (.aload_n 0, 1) := by decide +kernel
theorem dX6_putBack_15 : decode cX6_putBack 15 = .ok (.getfield 13, 3) := by decide +kernel
theorem dX6_putBack_18 : decode cX6_putBack 18 = .ok (.iload_n 1, 1) := by decide +kernel
theorem dX6_putBack_19 : decode cX6_putBack 19 = .ok (.iaload, 1) := by decide +kernel
theorem dX6_putBack_20 : decode cX6_putBack 20 = .ok (.iastore, 1) := by decide +kernel
theorem dX6_putBack_21 : decode cX6_putBack 21 = .ok (.iinc 1 1, 3) := by decide +kernel
theorem dX6_putBack_24 : decode cX6_putBack 24 = .ok (.goto (-22), 3) := by decide +kernel
theorem dX6_putBack_27 : decode cX6_putBack 27 = .ok (.return_, 1) := by decide +kernel
theorem dX6_records_0 : decode cX6_records 0 = .ok (.aload_n 0, 1) := by decide +kernel
theorem dX6_records_1 : decode cX6_records 1 = .ok (.getfield 39, 3) := by decide +kernel
theorem dX6_records_4 : decode cX6_records 4 = .ok (.iconst 4, 1) := by decide +kernel
theorem dX6_records_5 : decode cX6_records 5 = .ok (.if_icmp .ne 44, 3) := by decide +kernel
theorem dX6_records_8 : decode cX6_records 8 = .ok (.iconst 0, 1) := by decide +kernel
theorem dX6_records_9 : decode cX6_records 9 = .ok (.istore_n 1, 1) := by decide +kernel
theorem dX6_records_10 : decode cX6_records 10 = .ok (.iload_n 1, 1) := by decide +kernel
theorem dX6_records_11 : decode cX6_records 11 = .ok (.sipush 2400, 3) := by decide +kernel
theorem dX6_records_14 : decode cX6_records 14 = .ok (.if_icmp .ge 25, 3) := by decide +kernel
theorem dX6_records_17 : decode cX6_records 17 = .ok (.aload_n 0, 1) := by decide +kernel
theorem dX6_records_18 : decode cX6_records 18 = .ok (.getfield 16, 3) := by decide +kernel
theorem dX6_records_21 : decode cX6_records 21 = .ok (.iload_n 1, 1) := by decide +kernel
theorem dX6_records_22 : decode cX6_records 22 = .ok (.aload_n 0, 1) := by decide +kernel
theorem dX6_records_23 : decode cX6_records 23 = .ok (.getfield 16, 3) := by decide +kernel
theorem dX6_records_26 : decode cX6_records 26 = .ok (.sipush 800, 3) := by decide +kernel
theorem dX6_records_29 : decode cX6_records 29 = .ok (.iload_n 1, 1) := by decide +kernel
theorem dX6_records_30 : decode cX6_records 30 = .ok (.iadd, 1) := by decide +kernel
theorem dX6_records_31 : decode cX6_records 31 = .ok (.iaload, 1) := by decide +kernel
theorem dX6_records_32 : decode cX6_records 32 = .ok (.iastore, 1) := by decide +kernel
theorem dX6_records_33 : decode cX6_records 33 = .ok (.iinc 1 1, 3) := by decide +kernel
theorem dX6_records_36 : decode cX6_records 36 = .ok (.goto (-26), 3) := by decide +kernel
theorem dX6_records_39 : decode cX6_records 39 = .ok (.aload_n 0, 1) := by decide +kernel
theorem dX6_records_40 : decode cX6_records 40 = .ok (.dup, 1) := by decide +kernel
theorem dX6_records_41 : decode cX6_records 41 = .ok (.getfield 39, 3) := by decide +kernel
theorem dX6_records_44 : decode cX6_records 44 = .ok (.iconst 1, 1) := by decide +kernel
theorem dX6_records_45 : decode cX6_records 45 = .ok (.isub, 1) := by decide +kernel
theorem dX6_records_46 : decode cX6_records 46 = .ok (.putfield 39, 3) := by decide +kernel
theorem dX6_records_49 : decode cX6_records 49 = .ok (.iconst 0, 1) := by decide +kernel
theorem dX6_records_50 : decode cX6_records 50 = .ok (.istore_n 1, 1) := by decide +kernel
theorem dX6_records_51 : decode cX6_records 51 = .ok (.iload_n 1, 1) := by decide +kernel
theorem dX6_records_52 : decode cX6_records 52 = .ok (.sipush 800, 3) := by decide +kernel
theorem dX6_records_55 : decode cX6_records 55 = .ok (.if_icmp .ge 30, 3) := by decide +kernel
theorem dX6_records_58 : decode cX6_records 58 = .ok (.aload_n 0, 1) := by decide +kernel
theorem dX6_records_59 : decode cX6_records 59 = .ok (.getfield 16, 3) := by decide +kernel
theorem dX6_records_62 : decode cX6_records 62 = .ok (.sipush 800, 3) := by decide +kernel
theorem dX6_records_65 : decode cX6_records 65 = .ok (.aload_n 0, 1) := by decide +kernel
theorem dX6_records_66 : decode cX6_records 66 = .ok (.getfield 39, 3) := by decide +kernel
theorem dX6_records_69 : decode cX6_records 69 = .ok (.imul, 1) := by decide +kernel
theorem dX6_records_70 : decode cX6_records 70 = .ok (.iload_n 1, 1) := by decide +kernel
theorem dX6_records_71 : decode cX6_records 71 = .ok (.iadd, 1) := by decide +kernel
theorem dX6_records_72 : decode cX6_records 72 = .ok (.aload_n 0, 1) := by decide +kernel
theorem dX6_records_73 : decode cX6_records 73 = .ok (.getfield 7, 3) := by decide +kernel
theorem dX6_records_76 : decode cX6_records 76 = .ok (.iload_n 1, 1) := by decide +kernel
theorem dX6_records_77 : decode cX6_records 77 = .ok (.iaload, 1) := by decide +kernel
theorem dX6_records_78 : decode cX6_records 78 = .ok (.iastore, 1) := by decide +kernel
theorem dX6_records_79 : decode cX6_records 79 = .ok (.iinc 1 1, 3) := by decide +kernel
theorem dX6_records_82 : decode cX6_records 82 = .ok (.goto (-31), 3) := by decide +kernel
theorem dX6_records_85 : decode cX6_records 85 = .ok (.aload_n 0, 1) := by decide +kernel
theorem dX6_records_86 : decode cX6_records 86 = .ok (.dup, 1) := by decide +kernel
theorem dX6_records_87 : decode cX6_records 87 = .ok (.getfield 39, 3) := by decide +kernel
theorem dX6_records_90 : decode cX6_records 90 = .ok (.iconst 1, 1) := by decide +kernel
theorem dX6_records_91 : decode cX6_records 91 = .ok (.iadd, 1) := by decide +kernel
theorem dX6_records_92 : decode cX6_records 92 = .ok (.putfield 39, 3) := by decide +kernel
theorem dX6_records_95 : decode cX6_records 95 = .ok (.return_, 1) := by decide +kernel
theorem dX6_boundTo_0 : decode cX6_boundTo 0 = .ok (.iload_n 2, 1) := by decide +kernel
theorem dX6_boundTo_1 : decode cX6_boundTo 1 = .ok (.aload_n 0, 1) := by decide +kernel
theorem dX6_boundTo_2 : decode cX6_boundTo 2 = .ok (.getfield 7, 3) := by decide +kernel
theorem dX6_boundTo_5 : decode cX6_boundTo 5 = .ok (.iconst 0, 1) := by decide +kernel
theorem dX6_boundTo_6 : decode cX6_boundTo 6 = .ok (.iaload, 1) := by decide +kernel
theorem dX6_boundTo_7 : decode cX6_boundTo 7 = .ok (.isub, 1) := by decide +kernel
theorem dX6_boundTo_8 : decode cX6_boundTo 8 = .ok (.aload_n 0, 1) := by decide +kernel
theorem dX6_boundTo_9 : decode cX6_boundTo 9 = .ok (.iload_n 1, 1) := by decide +kernel
theorem dX6_boundTo_10 : decode cX6_boundTo 10 = .ok (.iload_n 2, 1) := by decide +kernel
theorem dX6_boundTo_11 : decode cX6_boundTo 11 = .ok (.invokevirtual 43, 3) := by decide +kernel
theorem dX6_boundTo_14 : decode cX6_boundTo 14 = .ok (.iadd, 1) := by decide +kernel
theorem dX6_boundTo_15 : decode cX6_boundTo 15 = .ok (.istore_n 3, 1) := by decide +kernel
theorem dX6_boundTo_16 : decode cX6_boundTo 16 = .ok (.iload_n 3, 1) := by decide +kernel
theorem dX6_boundTo_17 : decode cX6_boundTo 17 = .ok (.ifCond .ge 7, 3) := by decide +kernel
theorem dX6_boundTo_20 : decode cX6_boundTo 20 = .ok (.iconst (-1), 1) := by decide +kernel
theorem dX6_boundTo_21 : decode cX6_boundTo 21 = .ok (.goto 4, 3) := by decide +kernel
theorem dX6_boundTo_24 : decode cX6_boundTo 24 = .ok (.iload_n 3, 1) := by decide +kernel
theorem dX6_boundTo_25 : decode cX6_boundTo 25 = .ok (.ireturn, 1) := by decide +kernel
theorem dX6_manyBoundTo_0 : decode cX6_manyBoundTo 0 = .ok (.iconst 0, 1) := by decide +kernel
theorem dX6_manyBoundTo_1 : decode cX6_manyBoundTo 1 = .ok (.istore_n 3, 1) := by decide +kernel
theorem dX6_manyBoundTo_2 : decode cX6_manyBoundTo 2 = .ok (.iload_n 2, 1) := by decide +kernel
theorem dX6_manyBoundTo_3 : decode cX6_manyBoundTo 3 = .ok (.iconst 1, 1) := by decide +kernel
theorem dX6_manyBoundTo_4 : decode cX6_manyBoundTo 4 = .ok (.iadd, 1) := by decide +kernel
theorem dX6_manyBoundTo_5 : decode cX6_manyBoundTo 5 = .ok (.istore 4, 2) := by decide +kernel
theorem dX6_manyBoundTo_7 : decode cX6_manyBoundTo 7 = .ok (.iload 4, 2) := by decide +kernel
theorem dX6_manyBoundTo_9 : decode cX6_manyBoundTo 9 = .ok (.bipush 32, 2) := by decide +kernel
theorem dX6_manyBoundTo_11 : decode cX6_manyBoundTo 11 = .ok (.if_icmp .ge 28, 3) := by decide +kernel
theorem dX6_manyBoundTo_14 : decode cX6_manyBoundTo 14 = .ok (.iload_n 3, 1) := by decide +kernel
theorem dX6_manyBoundTo_15 : decode cX6_manyBoundTo 15 = .ok (.aload_n 0, 1) := by decide +kernel
theorem dX6_manyBoundTo_16 : decode cX6_manyBoundTo 16 = .ok (.iload_n 1, 1) := by decide +kernel
theorem dX6_manyBoundTo_17 : decode cX6_manyBoundTo 17 = .ok (.iload 4, 2) := by decide +kernel
theorem dX6_manyBoundTo_19 : decode cX6_manyBoundTo 19 = .ok (.invokevirtual 46, 3) := by decide +kernel
theorem dX6_manyBoundTo_22 : decode cX6_manyBoundTo 22 = .ok (.iload_n 2, 1) := by decide +kernel
theorem dX6_manyBoundTo_23 : decode cX6_manyBoundTo 23 = .ok (.if_icmp .ne 7, 3) := by decide +kernel
theorem dX6_manyBoundTo_26 : decode cX6_manyBoundTo 26 = .ok (.iconst 1, 1) := by decide +kernel
theorem dX6_manyBoundTo_27 : decode cX6_manyBoundTo 27 = .ok (.goto 4, 3) := by decide +kernel
theorem dX6_manyBoundTo_30 : decode cX6_manyBoundTo 30 = .ok (.iconst 0, 1) := by decide +kernel
theorem dX6_manyBoundTo_31 : decode cX6_manyBoundTo 31 = .ok (.iadd, 1) := by decide +kernel
theorem dX6_manyBoundTo_32 : decode cX6_manyBoundTo 32 = .ok (.istore_n 3, 1) := by decide +kernel
theorem dX6_manyBoundTo_33 : decode cX6_manyBoundTo 33 = .ok (.iinc 4 1, 3) := by decide +kernel
theorem dX6_manyBoundTo_36 : decode cX6_manyBoundTo 36 = .ok (.goto (-29), 3) := by decide +kernel
theorem dX6_manyBoundTo_39 : decode cX6_manyBoundTo 39 = .ok (.iload_n 3, 1) := by decide +kernel
theorem dX6_manyBoundTo_40 : decode cX6_manyBoundTo 40 = .ok (.ireturn, 1) := by decide +kernel
theorem dX6_freeOf_0 : decode cX6_freeOf 0 = .ok (.iload_n 2, 1) := by decide +kernel
theorem dX6_freeOf_1 : decode cX6_freeOf 1 = .ok (.istore_n 3, 1) := by decide +kernel
theorem dX6_freeOf_2 : decode cX6_freeOf 2 = .ok (.aload_n 0, 1) := by decide +kernel
theorem dX6_freeOf_3 : decode cX6_freeOf 3 = .ok (.iload_n 1, 1) := by decide +kernel
theorem dX6_freeOf_4 : decode cX6_freeOf 4 = .ok (.iload_n 3, 1) := by decide +kernel
theorem dX6_freeOf_5 : decode cX6_freeOf 5 = .ok (.invokevirtual 46, 3) := by decide +kernel
theorem dX6_freeOf_8 : decode cX6_freeOf 8 = .ok (.iconst (-1), 1) := by decide +kernel
theorem dX6_freeOf_9 : decode cX6_freeOf 9 = .ok (.if_icmp .eq 13, 3) := by decide +kernel
theorem dX6_freeOf_12 : decode cX6_freeOf 12 = .ok (.aload_n 0, 1) := by decide +kernel
theorem dX6_freeOf_13 : decode cX6_freeOf 13 = .ok (.iload_n 1, 1) := by decide +kernel
theorem dX6_freeOf_14 : decode cX6_freeOf 14 = .ok (.iload_n 3, 1) := by decide +kernel
theorem dX6_freeOf_15 : decode cX6_freeOf 15 = .ok (.invokevirtual 46, 3) := by decide +kernel
theorem dX6_freeOf_18 : decode cX6_freeOf 18 = .ok (.istore_n 3, 1) := by decide +kernel
theorem dX6_freeOf_19 : decode cX6_freeOf 19 = .ok (.goto (-17), 3) := by decide +kernel
theorem dX6_freeOf_22 : decode cX6_freeOf 22 = .ok (.iload_n 3, 1) := by decide +kernel
theorem dX6_freeOf_23 : decode cX6_freeOf 23 = .ok (.ireturn, 1) := by decide +kernel
theorem dX6_chain_0 : decode cX6_chain 0 = .ok (.iconst 0, 1) := by decide +kernel
theorem dX6_chain_1 : decode cX6_chain 1 = .ok (.istore_n 3, 1) := by decide +kernel
theorem dX6_chain_2 : decode cX6_chain 2 = .ok (.iconst 0, 1) := by decide +kernel
theorem dX6_chain_3 : decode cX6_chain 3 = .ok (.istore 4, 2) := by decide +kernel
theorem dX6_chain_5 : decode cX6_chain 5 = .ok (.iload 4, 2) := by decide +kernel
theorem dX6_chain_7 : decode cX6_chain 7 = .ok (.bipush 32, 2) := by decide +kernel
theorem dX6_chain_9 : decode cX6_chain 9 = .ok (.if_icmp .ge 33, 3) := by decide +kernel
theorem dX6_chain_12 : decode cX6_chain 12 = .ok (.iload_n 3, 1) := by decide +kernel
theorem dX6_chain_13 : decode cX6_chain 13 = .ok (.aload_n 0, 1) := by decide +kernel
theorem dX6_chain_14 : decode cX6_chain 14 = .ok (.iload_n 1, 1) := by decide +kernel
theorem dX6_chain_15 : decode cX6_chain 15 = .ok (.iload 4, 2) := by decide +kernel
theorem dX6_chain_17 : decode cX6_chain 17 = .ok (.invokevirtual 49, 3) := by decide +kernel
theorem dX6_chain_20 : decode cX6_chain 20 = .ok (.aload_n 0, 1) := by decide +kernel
theorem dX6_chain_21 : decode cX6_chain 21 = .ok (.iload_n 1, 1) := by decide +kernel
theorem dX6_chain_22 : decode cX6_chain 22 = .ok (.iload_n 2, 1) := by decide +kernel
theorem dX6_chain_23 : decode cX6_chain 23 = .ok (.invokevirtual 49, 3) := by decide +kernel
theorem dX6_chain_26 : decode cX6_chain 26 = .ok (.if_icmp .ne 7, 3) := by decide +kernel
theorem dX6_chain_29 : decode cX6_chain 29 = .ok (.iconst 1, 1) := by decide +kernel
theorem dX6_chain_30 : decode cX6_chain 30 = .ok (.goto 4, 3) := by decide +kernel
theorem dX6_chain_33 : decode cX6_chain 33 = .ok (.iconst 0, 1) := by decide +kernel
theorem dX6_chain_34 : decode cX6_chain 34 = .ok (.iadd, 1) := by decide +kernel
theorem dX6_chain_35 : decode cX6_chain 35 = .ok (.istore_n 3, 1) := by decide +kernel
theorem dX6_chain_36 : decode cX6_chain 36 = .ok (.iinc 4 1, 3) := by decide +kernel
theorem dX6_chain_39 : decode cX6_chain 39 = .ok (.goto (-34), 3) := by decide +kernel
theorem dX6_chain_42 : decode cX6_chain 42 = .ok (.iload_n 3, 1) := by decide +kernel
theorem dX6_chain_43 : decode cX6_chain 43 = .ok (.ireturn, 1) := by decide +kernel
theorem dX6_doesFit_0 : decode cX6_doesFit 0 = .ok (.aload_n 0, 1) := by decide +kernel
theorem dX6_doesFit_1 : decode cX6_doesFit 1 = .ok (.getfield 7, 3) := by decide +kernel
theorem dX6_doesFit_4 : decode cX6_doesFit 4 = .ok (.iconst 0, 1) := by decide +kernel
theorem dX6_doesFit_5 : decode cX6_doesFit 5 = .ok (.iaload, 1) := by decide +kernel
theorem dX6_doesFit_6 : decode cX6_doesFit 6 = .ok (.iload_n 3, 1) := by decide +kernel
theorem dX6_doesFit_7 : decode cX6_doesFit 7 = .ok (.isub, 1) := by decide +kernel
theorem dX6_doesFit_8 : decode cX6_doesFit 8 = .ok (.istore 4, 2) := by decide +kernel
theorem dX6_doesFit_10 : decode cX6_doesFit 10 = .ok (.iload_n 2, 1) := by decide +kernel
theorem dX6_doesFit_11 : decode cX6_doesFit 11 = .ok (.iload 4, 2) := by decide +kernel
theorem dX6_doesFit_13 : decode cX6_doesFit 13 = .ok (.if_icmp .ge 5, 3) := by decide +kernel
theorem dX6_doesFit_16 : decode cX6_doesFit 16 = .ok (.iconst 0, 1) := by decide +kernel
theorem dX6_doesFit_17 : decode cX6_doesFit 17 = .ok (.ireturn, 1) := by decide +kernel
theorem dX6_doesFit_18 : decode cX6_doesFit 18 = .ok (.iconst 1, 1) := by decide +kernel
theorem dX6_doesFit_19 : decode cX6_doesFit 19 = .ok (.istore 5, 2) := by decide +kernel
theorem dX6_doesFit_21 : decode cX6_doesFit 21 = .ok (.iload_n 2, 1) := by decide +kernel
theorem dX6_doesFit_22 : decode cX6_doesFit 22 = .ok (.aload_n 0, 1) := by decide +kernel
theorem dX6_doesFit_23 : decode cX6_doesFit 23 = .ok (.getfield 7, 3) := by decide +kernel
theorem dX6_doesFit_26 : decode cX6_doesFit 26 = .ok (.iconst 2, 1) := by decide +kernel
theorem dX6_doesFit_27 : decode cX6_doesFit 27 = .ok (.iaload, 1) := by decide +kernel
theorem dX6_doesFit_28 : decode cX6_doesFit 28 = .ok (.isub, 1) := by decide +kernel
theorem dX6_doesFit_29 : decode cX6_doesFit 29 = .ok (.istore 6, 2) := by decide +kernel
theorem dX6_doesFit_31 : decode cX6_doesFit 31 = .ok (.iload 6, 2) := by decide +kernel
theorem dX6_doesFit_33 : decode cX6_doesFit 33 = .ok (.iload_n 2, 1) := by decide +kernel
theorem dX6_doesFit_34 : decode cX6_doesFit 34 = .ok (.aload_n 0, 1) := by decide +kernel
theorem dX6_doesFit_35 : decode cX6_doesFit 35 = .ok (.getfield 7, 3) := by decide +kernel
theorem dX6_doesFit_38 : decode cX6_doesFit 38 = .ok (.iconst 2, 1) := by decide +kernel
theorem dX6_doesFit_39 : decode cX6_doesFit 39 = .ok (.iaload, 1) := by decide +kernel
theorem dX6_doesFit_40 : decode cX6_doesFit 40 = .ok (.iadd, 1) := by decide +kernel
theorem dX6_doesFit_41 : decode cX6_doesFit 41 = .ok (.if_icmp .gt 72, 3) := by decide +kernel
theorem dX6_doesFit_44 : decode cX6_doesFit 44 = .ok (.iload 6, 2) := by decide +kernel
theorem dX6_doesFit_46 : decode cX6_doesFit 46 = .ok (.invokestatic 52, 3) := by decide +kernel
theorem dX6_doesFit_49 : decode cX6_doesFit 49 = .ok (.ifCond .eq 18, 3) := by decide +kernel
theorem dX6_doesFit_52 : decode cX6_doesFit 52 = .ok (.iload 6, 2) := by decide +kernel
theorem dX6_doesFit_54 : decode cX6_doesFit 54 = .ok (.iload 4, 2) := by decide +kernel
theorem dX6_doesFit_56 : decode cX6_doesFit 56 = .ok (.isub, 1) := by decide +kernel
theorem dX6_doesFit_57 : decode cX6_doesFit 57 = .ok (.invokestatic 52, 3) := by decide +kernel
theorem dX6_doesFit_60 : decode cX6_doesFit 60 = .ok (.ifCond .eq 7, 3) := by decide +kernel
theorem dX6_doesFit_63 : decode cX6_doesFit 63 = .ok (.iconst 1, 1) := by decide +kernel
theorem dX6_doesFit_64 : decode cX6_doesFit 64 = .ok (.goto 4, 3) := by decide +kernel
theorem dX6_doesFit_67 : decode cX6_doesFit 67 = .ok (.iconst 0, 1) := by decide +kernel
theorem dX6_doesFit_68 : decode cX6_doesFit 68 = .ok (.istore 7, 2) := by decide +kernel
theorem dX6_doesFit_70 : decode cX6_doesFit 70 = .ok (.iload 5, 2) := by decide +kernel
theorem dX6_doesFit_72 : decode cX6_doesFit 72 = .ok (.ifCond .eq 32, 3) := by decide +kernel
theorem dX6_doesFit_75 : decode cX6_doesFit 75 = .ok (.iload 7, 2) := by decide +kernel
theorem dX6_doesFit_77 : decode cX6_doesFit 77 = .ok (.ifCond .eq 23, 3) := by decide +kernel
theorem dX6_doesFit_80 : decode cX6_doesFit 80 = .ok (.aload_n 0, 1) := by decide +kernel
theorem dX6_doesFit_81 : decode cX6_doesFit 81 = .ok (.iload_n 1, 1) := by decide +kernel
theorem dX6_doesFit_82 : decode cX6_doesFit 82 = .ok (.iload 6, 2) := by decide +kernel
theorem dX6_doesFit_84 : decode cX6_doesFit 84 = .ok (.invokevirtual 56, 3) := by decide +kernel
theorem dX6_doesFit_87 : decode cX6_doesFit 87 = .ok (.aload_n 0, 1) := by decide +kernel
theorem dX6_doesFit_88 : decode cX6_doesFit 88 = .ok (.iload_n 1, 1) := by decide +kernel
theorem dX6_doesFit_89 : decode cX6_doesFit 89 = .ok (.iload 6, 2) := by decide +kernel
theorem dX6_doesFit_91 : decode cX6_doesFit 91 = .ok (.iload 4, 2) := by decide +kernel
theorem dX6_doesFit_93 : decode cX6_doesFit 93 = .ok (.isub, 1) := by decide +kernel
theorem dX6_doesFit_94 : decode cX6_doesFit 94 = .ok (.invokevirtual 56, 3) := by decide +kernel
theorem dX6_doesFit_97 : decode cX6_doesFit 97 = .ok (.if_icmp .ne 7, 3) := by decide +kernel
theorem dX6_doesFit_100 : decode cX6_doesFit 100 = .ok (.iconst 1, 1) := by decide +kernel
theorem dX6_doesFit_101 : decode cX6_doesFit 101 = .ok (.goto 4, 3) := by decide +kernel

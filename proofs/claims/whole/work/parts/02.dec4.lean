/-! the instructions, decoded -/
theorem dX6_echoes_39 : decode cX6_echoes 39 = .ok (.iinc 4 1, 3) := by decide +kernel
theorem dX6_echoes_42 : decode cX6_echoes 42 = .ok (.goto (-37), 3) := by decide +kernel
theorem dX6_echoes_45 : decode cX6_echoes 45 = .ok (.iload_n 3, 1) := by decide +kernel
theorem dX6_echoes_46 : decode cX6_echoes 46 = .ok (.ireturn, 1) := by decide +kernel
theorem dX6_echo_0 : decode cX6_echo 0 = .ok (.iload_n 1, 1) := by decide +kernel
theorem dX6_echo_1 : decode cX6_echo 1 = .ok (.invokestatic 78, 3) := by decide +kernel
theorem dX6_echo_4 : decode cX6_echo 4 = .ok (.ifCond .eq 22, 3) := by decide +kernel
theorem dX6_echo_7 : decode cX6_echo 7 = .ok (.iload_n 2, 1) := by decide +kernel
theorem dX6_echo_8 : decode cX6_echo 8 = .ok (.iconst 2, 1) := by decide +kernel
theorem dX6_echo_9 : decode cX6_echo 9 = .ok (.bipush 24, 2) := by decide +kernel
theorem dX6_echo_11 : decode cX6_echo 11 = .ok (.invokestatic 31, 3) := by decide +kernel
theorem dX6_echo_14 : decode cX6_echo 14 = .ok (.ifCond .eq 12, 3) := by decide +kernel
theorem dX6_echo_17 : decode cX6_echo 17 = .ok (.aload_n 0, 1) := by decide +kernel
theorem dX6_echo_18 : decode cX6_echo 18 = .ok (.iload_n 1, 1) := by decide +kernel
theorem dX6_echo_19 : decode cX6_echo 19 = .ok (.iload_n 2, 1) := by decide +kernel
theorem dX6_echo_20 : decode cX6_echo 20 = .ok (.invokevirtual 179, 3) := by decide +kernel
theorem dX6_echo_23 : decode cX6_echo 23 = .ok (.goto 4, 3) := by decide +kernel
theorem dX6_echo_26 : decode cX6_echo 26 = .ok (.iconst (-1), 1) := by decide +kernel
theorem dX6_echo_27 : decode cX6_echo 27 = .ok (.ireturn, 1) := by decide +kernel
theorem dX6_echoAt_0 : decode cX6_echoAt 0 = .ok (.iload_n 1, 1) := by decide +kernel
theorem dX6_echoAt_1 : decode cX6_echoAt 1 = .ok (.invokestatic 78, 3) := by decide +kernel
theorem dX6_echoAt_4 : decode cX6_echoAt 4 = .ok (.ifCond .eq 13, 3) := by decide +kernel
theorem dX6_echoAt_7 : decode cX6_echoAt 7 = .ok (.iload_n 2, 1) := by decide +kernel
theorem dX6_echoAt_8 : decode cX6_echoAt 8 = .ok (.iconst 0, 1) := by decide +kernel
theorem dX6_echoAt_9 : decode cX6_echoAt 9 = .ok (.bipush 22, 2) := by decide +kernel
theorem dX6_echoAt_11 : decode cX6_echoAt 11 = .ok (.invokestatic 31, 3) := by decide +kernel
theorem dX6_echoAt_14 : decode cX6_echoAt 14 = .ok (.ifCond .ne 5, 3) := by decide +kernel
theorem dX6_echoAt_17 : decode cX6_echoAt 17 = .ok (.iconst (-1), 1) := by decide +kernel
theorem dX6_echoAt_18 : decode cX6_echoAt 18 = .ok (.ireturn, 1) := by decide +kernel
theorem dX6_echoAt_19 : decode cX6_echoAt 19 = .ok (.iconst 2, 1) := by decide +kernel
theorem dX6_echoAt_20 : decode cX6_echoAt 20 = .ok (.istore_n 3, 1) := by decide +kernel
theorem dX6_echoAt_21 : decode cX6_echoAt 21 = .ok (.iconst 2, 1) := by decide +kernel
theorem dX6_echoAt_22 : decode cX6_echoAt 22 = .ok (.istore 4, 2) := by decide +kernel
theorem dX6_echoAt_24 : decode cX6_echoAt 24 = .ok (.iload 4, 2) := by decide +kernel
theorem dX6_echoAt_26 : decode cX6_echoAt 26 = .ok (.bipush 25, 2) := by decide +kernel
theorem dX6_echoAt_28 : decode cX6_echoAt 28 = .ok (.if_icmp .ge 85, 3) := by decide +kernel
theorem dX6_echoAt_31 : decode cX6_echoAt 31 = .ok (.iconst 0, 1) := by decide +kernel
theorem dX6_echoAt_32 : decode cX6_echoAt 32 = .ok (.istore 5, 2) := by decide +kernel
theorem dX6_echoAt_34 : decode cX6_echoAt 34 = .ok (.iconst 2, 1) := by decide +kernel
theorem dX6_echoAt_35 : decode cX6_echoAt 35 = .ok (.istore 6, 2) := by decide +kernel
theorem dX6_echoAt_37 : decode cX6_echoAt 37 = .ok (.iload 6, 2) := by decide +kernel
theorem dX6_echoAt_39 : decode cX6_echoAt 39 = .ok (.bipush 25, 2) := by decide +kernel
theorem dX6_echoAt_41 : decode cX6_echoAt 41 = .ok (.if_icmp .ge 53, 3) := by decide +kernel
theorem dX6_echoAt_44 : decode cX6_echoAt 44 = .ok (.aload_n 0, 1) := by decide +kernel
theorem dX6_echoAt_45 : decode cX6_echoAt 45 = .ok (.iload_n 1, 1) := by decide +kernel
theorem dX6_echoAt_46 : decode cX6_echoAt 46 = .ok (.iload 6, 2) := by decide +kernel
theorem dX6_echoAt_48 : decode cX6_echoAt 48 = .ok (.invokevirtual 179, 3) := by decide +kernel
theorem dX6_echoAt_51 : decode cX6_echoAt 51 = .ok (.aload_n 0, 1) := by decide +kernel
theorem dX6_echoAt_52 : decode cX6_echoAt 52 = .ok (.iload_n 1, 1) := by decide +kernel
theorem dX6_echoAt_53 : decode cX6_echoAt 53 = .ok (.iload 4, 2) := by decide +kernel
theorem dX6_echoAt_55 : decode cX6_echoAt 55 = .ok (.invokevirtual 179, 3) := by decide +kernel
theorem dX6_echoAt_58 : decode cX6_echoAt 58 = .ok (.isub, 1) := by decide +kernel
theorem dX6_echoAt_59 : decode cX6_echoAt 59 = .ok (.istore 7, 2) := by decide +kernel
theorem dX6_echoAt_61 : decode cX6_echoAt 61 = .ok (.iload 5, 2) := by decide +kernel
theorem dX6_echoAt_63 : decode cX6_echoAt 63 = .ok (.iload 7, 2) := by decide +kernel
theorem dX6_echoAt_65 : decode cX6_echoAt 65 = .ok (.ifCond .gt 15, 3) := by decide +kernel
theorem dX6_echoAt_68 : decode cX6_echoAt 68 = .ok (.iload 7, 2) := by decide +kernel
theorem dX6_echoAt_70 : decode cX6_echoAt 70 = .ok (.ifCond .ne 14, 3) := by decide +kernel
theorem dX6_echoAt_73 : decode cX6_echoAt 73 = .ok (.iload 6, 2) := by decide +kernel
theorem dX6_echoAt_75 : decode cX6_echoAt 75 = .ok (.iload 4, 2) := by decide +kernel
theorem dX6_echoAt_77 : decode cX6_echoAt 77 = .ok (.if_icmp .ge 7, 3) := by decide +kernel
theorem dX6_echoAt_80 : decode cX6_echoAt 80 = .ok (.iconst 1, 1) := by decide +kernel
theorem dX6_echoAt_81 : decode cX6_echoAt 81 = .ok (.goto 4, 3) := by decide +kernel
theorem dX6_echoAt_84 : decode cX6_echoAt 84 = .ok (.iconst 0, 1) := by decide +kernel
theorem dX6_echoAt_85 : decode cX6_echoAt 85 = .ok (.iadd, 1) := by decide +kernel
theorem dX6_echoAt_86 : decode cX6_echoAt 86 = .ok (.istore 5, 2) := by decide +kernel
theorem dX6_echoAt_88 : decode cX6_echoAt 88 = .ok (.iinc 6 1, 3) := by decide +kernel
theorem dX6_echoAt_91 : decode cX6_echoAt 91 = .ok (.goto (-54), 3) := by decide +kernel
theorem dX6_echoAt_94 : decode cX6_echoAt 94 = .ok (.iload 5, 2) := by decide +kernel
theorem dX6_echoAt_96 : decode cX6_echoAt 96 = .ok (.iload_n 2, 1) := by decide +kernel
theorem dX6_echoAt_97 : decode cX6_echoAt 97 = .ok (.if_icmp .ne 8, 3) := by decide +kernel
theorem dX6_echoAt_100 : decode cX6_echoAt 100 = .ok (.iload 4, 2) := by decide +kernel
theorem dX6_echoAt_102 : decode cX6_echoAt 102 = .ok (.goto 4, 3) := by decide +kernel
theorem dX6_echoAt_105 : decode cX6_echoAt 105 = .ok (.iload_n 3, 1) := by decide +kernel
theorem dX6_echoAt_106 : decode cX6_echoAt 106 = .ok (.istore_n 3, 1) := by decide +kernel
theorem dX6_echoAt_107 : decode cX6_echoAt 107 = .ok (.iinc 4 1, 3) := by decide +kernel
theorem dX6_echoAt_110 : decode cX6_echoAt 110 = .ok (.goto (-86), 3) := by decide +kernel
theorem dX6_echoAt_113 : decode cX6_echoAt 113 = .ok (.iload_n 3, 1) := by decide +kernel
theorem dX6_echoAt_114 : decode cX6_echoAt 114 = .ok (.ireturn, 1) := by decide +kernel
theorem dX6_faults_0 : decode cX6_faults 0 = .ok (.aload_n 0, 1) := by decide +kernel
theorem dX6_faults_1 : decode cX6_faults 1 = .ok (.iload_n 1, 1) := by decide +kernel
theorem dX6_faults_2 : decode cX6_faults 2 = .ok (.bipush 6, 2) := by decide +kernel
theorem dX6_faults_4 : decode cX6_faults 4 = .ok (.invokevirtual 167, 3) := by decide +kernel
theorem dX6_faults_7 : decode cX6_faults 7 = .ok (.istore_n 2, 1) := by decide +kernel
theorem dX6_faults_8 : decode cX6_faults 8 = .ok (.bipush 100, 2) := by decide +kernel
theorem dX6_faults_10 : decode cX6_faults 10 = .ok (.iload_n 2, 1) := by decide +kernel
theorem dX6_faults_11 : decode cX6_faults 11 = .ok (.aload_n 0, 1) := by decide +kernel
theorem dX6_faults_12 : decode cX6_faults 12 = .ok (.iload_n 1, 1) := by decide +kernel
theorem dX6_faults_13 : decode cX6_faults 13 = .ok (.iconst 5, 1) := by decide +kernel
theorem dX6_faults_14 : decode cX6_faults 14 = .ok (.invokevirtual 167, 3) := by decide +kernel
theorem dX6_faults_17 : decode cX6_faults 17 = .ok (.iadd, 1) := by decide +kernel
theorem dX6_faults_18 : decode cX6_faults 18 = .ok (.imul, 1) := by decide +kernel
theorem dX6_faults_19 : decode cX6_faults 19 = .ok (.iload_n 2, 1) := by decide +kernel
theorem dX6_faults_20 : decode cX6_faults 20 = .ok (.iadd, 1) := by decide +kernel
theorem dX6_faults_21 : decode cX6_faults 21 = .ok (.ireturn, 1) := by decide +kernel
theorem dX6_faulty_0 : decode cX6_faulty 0 = .ok (.iload_n 1, 1) := by decide +kernel
theorem dX6_faulty_1 : decode cX6_faulty 1 = .ok (.iconst 0, 1) := by decide +kernel
theorem dX6_faulty_2 : decode cX6_faulty 2 = .ok (.bipush 7, 2) := by decide +kernel
theorem dX6_faulty_4 : decode cX6_faulty 4 = .ok (.invokestatic 31, 3) := by decide +kernel
theorem dX6_faulty_7 : decode cX6_faulty 7 = .ok (.ifCond .ne 5, 3) := by decide +kernel
theorem dX6_faulty_10 : decode cX6_faulty 10 = .ok (.iconst (-1), 1) := by decide +kernel
theorem dX6_faulty_11 : decode cX6_faulty 11 = .ok (.ireturn, 1) := by decide +kernel
theorem dX6_faulty_12 : decode cX6_faulty 12 = .ok (.iconst 0, 1) := by decide +kernel
theorem dX6_faulty_13 : decode cX6_faulty 13 = .ok (.istore_n 2, 1) := by decide +kernel
theorem dX6_faulty_14 : decode cX6_faulty 14 = .ok (.iconst 0, 1) := by decide +kernel
theorem dX6_faulty_15 : decode cX6_faulty 15 = .ok (.istore_n 3, 1) := by decide +kernel
theorem dX6_faulty_16 : decode cX6_faulty 16 = .ok (.iload_n 3, 1) := by decide +kernel
theorem dX6_faulty_17 : decode cX6_faulty 17 = .ok (.bipush 8, 2) := by decide +kernel
theorem dX6_faulty_19 : decode cX6_faulty 19 = .ok (.if_icmp .ge 80, 3) := by decide +kernel
theorem dX6_faulty_22 : decode cX6_faulty 22 = .ok (.iconst 0, 1) := by decide +kernel
theorem dX6_faulty_23 : decode cX6_faulty 23 = .ok (.istore 4, 2) := by decide +kernel
theorem dX6_faulty_25 : decode cX6_faulty 25 = .ok (.iconst 0, 1) := by decide +kernel
theorem dX6_faulty_26 : decode cX6_faulty 26 = .ok (.istore 5, 2) := by decide +kernel
theorem dX6_faulty_28 : decode cX6_faulty 28 = .ok (.iload 5, 2) := by decide +kernel
theorem dX6_faulty_30 : decode cX6_faulty 30 = .ok (.bipush 8, 2) := by decide +kernel
theorem dX6_faulty_32 : decode cX6_faulty 32 = .ok (.if_icmp .ge 49, 3) := by decide +kernel
theorem dX6_faulty_35 : decode cX6_faulty 35 = .ok (.aload_n 0, 1) := by decide +kernel
theorem dX6_faulty_36 : decode cX6_faulty 36 = .ok (.iload 5, 2) := by decide +kernel
theorem dX6_faulty_38 : decode cX6_faulty 38 = .ok (.invokevirtual 182, 3) := by decide +kernel
theorem dX6_faulty_41 : decode cX6_faulty 41 = .ok (.aload_n 0, 1) := by decide +kernel
theorem dX6_faulty_42 : decode cX6_faulty 42 = .ok (.iload_n 3, 1) := by decide +kernel
theorem dX6_faulty_43 : decode cX6_faulty 43 = .ok (.invokevirtual 182, 3) := by decide +kernel
theorem dX6_faulty_46 : decode cX6_faulty 46 = .ok (.isub, 1) := by decide +kernel
theorem dX6_faulty_47 : decode cX6_faulty 47 = .ok (.istore 6, 2) := by decide +kernel
theorem dX6_faulty_49 : decode cX6_faulty 49 = .ok (.iload 4, 2) := by decide +kernel
theorem dX6_faulty_51 : decode cX6_faulty 51 = .ok (.iload 6, 2) := by decide +kernel
theorem dX6_faulty_53 : decode cX6_faulty 53 = .ok (.ifCond .gt 14, 3) := by decide +kernel
theorem dX6_faulty_56 : decode cX6_faulty 56 = .ok (.iload 6, 2) := by decide +kernel
theorem dX6_faulty_58 : decode cX6_faulty 58 = .ok (.ifCond .ne 13, 3) := by decide +kernel
theorem dX6_faulty_61 : decode cX6_faulty 61 = .ok (.iload 5, 2) := by decide +kernel
theorem dX6_faulty_63 : decode cX6_faulty 63 = .ok (.iload_n 3, 1) := by decide +kernel
theorem dX6_faulty_64 : decode cX6_faulty 64 = .ok (.if_icmp .ge 7, 3) := by decide +kernel
theorem dX6_faulty_67 : decode cX6_faulty 67 = .ok (.iconst 1, 1) := by decide +kernel
theorem dX6_faulty_68 : decode cX6_faulty 68 = .ok (.goto 4, 3) := by decide +kernel
theorem dX6_faulty_71 : decode cX6_faulty 71 = .ok (.iconst 0, 1) := by decide +kernel
theorem dX6_faulty_72 : decode cX6_faulty 72 = .ok (.iadd, 1) := by decide +kernel
theorem dX6_faulty_73 : decode cX6_faulty 73 = .ok (.istore 4, 2) := by decide +kernel
theorem dX6_faulty_75 : decode cX6_faulty 75 = .ok (.iinc 5 1, 3) := by decide +kernel
theorem dX6_faulty_78 : decode cX6_faulty 78 = .ok (.goto (-50), 3) := by decide +kernel
theorem dX6_faulty_81 : decode cX6_faulty 81 = .ok (.iload 4, 2) := by decide +kernel
theorem dX6_faulty_83 : decode cX6_faulty 83 = .ok (.iload_n 1, 1) := by decide +kernel
theorem dX6_faulty_84 : decode cX6_faulty 84 = .ok (.if_icmp .ne 7, 3) := by decide +kernel
theorem dX6_faulty_87 : decode cX6_faulty 87 = .ok (.iload_n 3, 1) := by decide +kernel
theorem dX6_faulty_88 : decode cX6_faulty 88 = .ok (.goto 4, 3) := by decide +kernel
theorem dX6_faulty_91 : decode cX6_faulty 91 = .ok (.iload_n 2, 1) := by decide +kernel
theorem dX6_faulty_92 : decode cX6_faulty 92 = .ok (.istore_n 2, 1) := by decide +kernel
theorem dX6_faulty_93 : decode cX6_faulty 93 = .ok (.iinc 3 1, 3) := by decide +kernel
theorem dX6_faulty_96 : decode cX6_faulty 96 = .ok (.goto (-80), 3) := by decide +kernel
theorem dX6_faulty_99 : decode cX6_faulty 99 = .ok (.iload_n 2, 1) := by decide +kernel
theorem dX6_faulty_100 : decode cX6_faulty 100 = .ok (.ireturn, 1) := by decide +kernel
theorem dX6_plane_0 : decode cX6_plane 0 = .ok (.iload_n 1, 1) := by decide +kernel
theorem dX6_plane_1 : decode cX6_plane 1 = .ok (.iconst 0, 1) := by decide +kernel
theorem dX6_plane_2 : decode cX6_plane 2 = .ok (.iconst 4, 1) := by decide +kernel
theorem dX6_plane_3 : decode cX6_plane 3 = .ok (.invokestatic 31, 3) := by decide +kernel
theorem dX6_plane_6 : decode cX6_plane 6 = .ok (.ifCond .eq 12, 3) := by decide +kernel
theorem dX6_plane_9 : decode cX6_plane 9 = .ok (.iload_n 2, 1) := by decide +kernel
theorem dX6_plane_10 : decode cX6_plane 10 = .ok (.iconst 0, 1) := by decide +kernel
theorem dX6_plane_11 : decode cX6_plane 11 = .ok (.iconst 3, 1) := by decide +kernel
theorem dX6_plane_12 : decode cX6_plane 12 = .ok (.invokestatic 31, 3) := by decide +kernel
theorem dX6_plane_15 : decode cX6_plane 15 = .ok (.ifCond .ne 5, 3) := by decide +kernel
theorem dX6_plane_18 : decode cX6_plane 18 = .ok (.iconst (-1), 1) := by decide +kernel
theorem dX6_plane_19 : decode cX6_plane 19 = .ok (.ireturn, 1) := by decide +kernel
theorem dX6_plane_20 : decode cX6_plane 20 = .ok (.iconst 0, 1) := by decide +kernel
theorem dX6_plane_21 : decode cX6_plane 21 = .ok (.istore_n 3, 1) := by decide +kernel
theorem dX6_plane_22 : decode cX6_plane 22 = .ok (.iconst 0, 1) := by decide +kernel
theorem dX6_plane_23 : decode cX6_plane 23 = .ok (.istore 4, 2) := by decide +kernel
theorem dX6_plane_25 : decode cX6_plane 25 = .ok (.iconst 0, 1) := by decide +kernel
theorem dX6_plane_26 : decode cX6_plane 26 = .ok (.istore 5, 2) := by decide +kernel
theorem dX6_plane_28 : decode cX6_plane 28 = .ok (.iload 5, 2) := by decide +kernel
theorem dX6_plane_30 : decode cX6_plane 30 = .ok (.bipush 8, 2) := by decide +kernel
theorem dX6_plane_32 : decode cX6_plane 32 = .ok (.if_icmp .ge 135, 3) := by decide +kernel
theorem dX6_plane_35 : decode cX6_plane 35 = .ok (.aload_n 0, 1) := by decide +kernel
theorem dX6_plane_36 : decode cX6_plane 36 = .ok (.iload 5, 2) := by decide +kernel
theorem dX6_plane_38 : decode cX6_plane 38 = .ok (.invokevirtual 66, 3) := by decide +kernel
theorem dX6_plane_41 : decode cX6_plane 41 = .ok (.iconst 0, 1) := by decide +kernel
theorem dX6_plane_42 : decode cX6_plane 42 = .ok (.istore 6, 2) := by decide +kernel
theorem dX6_plane_44 : decode cX6_plane 44 = .ok (.iconst 0, 1) := by decide +kernel
theorem dX6_plane_45 : decode cX6_plane 45 = .ok (.istore 7, 2) := by decide +kernel
theorem dX6_plane_47 : decode cX6_plane 47 = .ok (.iload 7, 2) := by decide +kernel
theorem dX6_plane_49 : decode cX6_plane 49 = .ok (.bipush 32, 2) := by decide +kernel
theorem dX6_plane_51 : decode cX6_plane 51 = .ok (.if_icmp .ge 95, 3) := by decide +kernel
theorem dX6_plane_54 : decode cX6_plane 54 = .ok (.aload_n 0, 1) := by decide +kernel
theorem dX6_plane_55 : decode cX6_plane 55 = .ok (.iload 5, 2) := by decide +kernel
theorem dX6_plane_57 : decode cX6_plane 57 = .ok (.iload 7, 2) := by decide +kernel
theorem dX6_plane_59 : decode cX6_plane 59 = .ok (.invokevirtual 43, 3) := by decide +kernel
theorem dX6_plane_62 : decode cX6_plane 62 = .ok (.iload_n 1, 1) := by decide +kernel
theorem dX6_plane_63 : decode cX6_plane 63 = .ok (.if_icmp .ne 7, 3) := by decide +kernel
theorem dX6_plane_66 : decode cX6_plane 66 = .ok (.iconst 1, 1) := by decide +kernel
theorem dX6_plane_67 : decode cX6_plane 67 = .ok (.goto 4, 3) := by decide +kernel
theorem dX6_plane_70 : decode cX6_plane 70 = .ok (.iconst 0, 1) := by decide +kernel
theorem dX6_plane_71 : decode cX6_plane 71 = .ok (.istore 8, 2) := by decide +kernel
theorem dX6_plane_73 : decode cX6_plane 73 = .ok (.iload_n 2, 1) := by decide +kernel
theorem dX6_plane_74 : decode cX6_plane 74 = .ok (.ifCond .ne 8, 3) := by decide +kernel
theorem dX6_plane_77 : decode cX6_plane 77 = .ok (.iload 8, 2) := by decide +kernel
theorem dX6_plane_79 : decode cX6_plane 79 = .ok (.goto 29, 3) := by decide +kernel
theorem dX6_plane_82 : decode cX6_plane 82 = .ok (.aload_n 0, 1) := by decide +kernel
theorem dX6_plane_83 : decode cX6_plane 83 = .ok (.getfield 25, 3) := by decide +kernel
theorem dX6_plane_86 : decode cX6_plane 86 = .ok (.iload 7, 2) := by decide +kernel
theorem dX6_plane_88 : decode cX6_plane 88 = .ok (.iaload, 1) := by decide +kernel
theorem dX6_plane_89 : decode cX6_plane 89 = .ok (.iload_n 1, 1) := by decide +kernel
theorem dX6_plane_90 : decode cX6_plane 90 = .ok (.if_icmp .ne 17, 3) := by decide +kernel
theorem dX6_plane_93 : decode cX6_plane 93 = .ok (.iload_n 2, 1) := by decide +kernel
theorem dX6_plane_94 : decode cX6_plane 94 = .ok (.iconst 1, 1) := by decide +kernel
theorem dX6_plane_95 : decode cX6_plane 95 = .ok (.if_icmp .eq 8, 3) := by decide +kernel
theorem dX6_plane_98 : decode cX6_plane 98 = .ok (.iload 8, 2) := by decide +kernel
theorem dX6_plane_100 : decode cX6_plane 100 = .ok (.ifCond .eq 7, 3) := by decide +kernel
theorem dX6_plane_103 : decode cX6_plane 103 = .ok (.iconst 1, 1) := by decide +kernel
theorem dX6_plane_104 : decode cX6_plane 104 = .ok (.goto 4, 3) := by decide +kernel
theorem dX6_plane_107 : decode cX6_plane 107 = .ok (.iconst 0, 1) := by decide +kernel
theorem dX6_plane_108 : decode cX6_plane 108 = .ok (.istore 9, 2) := by decide +kernel
theorem dX6_plane_110 : decode cX6_plane 110 = .ok (.iload_n 3, 1) := by decide +kernel
theorem dX6_plane_111 : decode cX6_plane 111 = .ok (.iload 9, 2) := by decide +kernel
theorem dX6_plane_113 : decode cX6_plane 113 = .ok (.ifCond .eq 7, 3) := by decide +kernel
theorem dX6_plane_116 : decode cX6_plane 116 = .ok (.iconst 1, 1) := by decide +kernel
theorem dX6_plane_117 : decode cX6_plane 117 = .ok (.goto 4, 3) := by decide +kernel
theorem dX6_plane_120 : decode cX6_plane 120 = .ok (.iconst 0, 1) := by decide +kernel
theorem dX6_plane_121 : decode cX6_plane 121 = .ok (.iadd, 1) := by decide +kernel
theorem dX6_plane_122 : decode cX6_plane 122 = .ok (.istore_n 3, 1) := by decide +kernel
theorem dX6_plane_123 : decode cX6_plane 123 = .ok (.iload 6, 2) := by decide +kernel
theorem dX6_plane_125 : decode cX6_plane 125 = .ok (.ifCond .ne 8, 3) := by decide +kernel
theorem dX6_plane_128 : decode cX6_plane 128 = .ok (.iload 8, 2) := by decide +kernel
theorem dX6_plane_130 : decode cX6_plane 130 = .ok (.ifCond .eq 7, 3) := by decide +kernel
theorem dX6_plane_133 : decode cX6_plane 133 = .ok (.iconst 1, 1) := by decide +kernel
theorem dX6_plane_134 : decode cX6_plane 134 = .ok (.goto 4, 3) := by decide +kernel
theorem dX6_plane_137 : decode cX6_plane 137 = .ok (.iconst 0, 1) := by decide +kernel
theorem dX6_plane_138 : decode cX6_plane 138 = .ok (.istore 6, 2) := by decide +kernel
theorem dX6_plane_140 : decode cX6_plane 140 = .ok (.iinc 7 1, 3) := by decide +kernel
theorem dX6_plane_143 : decode cX6_plane 143 = .ok (.goto (-96), 3) := by decide +kernel
theorem dX6_plane_146 : decode cX6_plane 146 = .ok (.iload 4, 2) := by decide +kernel
theorem dX6_plane_148 : decode cX6_plane 148 = .ok (.iload 6, 2) := by decide +kernel
theorem dX6_plane_150 : decode cX6_plane 150 = .ok (.ifCond .eq 7, 3) := by decide +kernel
theorem dX6_plane_153 : decode cX6_plane 153 = .ok (.iconst 1, 1) := by decide +kernel
theorem dX6_plane_154 : decode cX6_plane 154 = .ok (.goto 4, 3) := by decide +kernel
theorem dX6_plane_157 : decode cX6_plane 157 = .ok (.iconst 0, 1) := by decide +kernel
theorem dX6_plane_158 : decode cX6_plane 158 = .ok (.iadd, 1) := by decide +kernel
theorem dX6_plane_159 : decode cX6_plane 159 = .ok (.istore 4, 2) := by decide +kernel
theorem dX6_plane_161 : decode cX6_plane 161 = .ok (.iinc 5 1, 3) := by decide +kernel
theorem dX6_plane_164 : decode cX6_plane 164 = .ok (.goto (-136), 3) := by decide +kernel
theorem dX6_plane_167 : decode cX6_plane 167 = .ok (.iload_n 2, 1) := by decide +kernel
theorem dX6_plane_168 : decode cX6_plane 168 = .ok (.iconst 3, 1) := by decide +kernel
theorem dX6_plane_169 : decode cX6_plane 169 = .ok (.if_icmp .ne 8, 3) := by decide +kernel
theorem dX6_plane_172 : decode cX6_plane 172 = .ok (.iload 4, 2) := by decide +kernel
theorem dX6_plane_174 : decode cX6_plane 174 = .ok (.goto 4, 3) := by decide +kernel
theorem dX6_plane_177 : decode cX6_plane 177 = .ok (.iload_n 3, 1) := by decide +kernel
theorem dX6_plane_178 : decode cX6_plane 178 = .ok (.ireturn, 1) := by decide +kernel
theorem dX6_likes_0 : decode cX6_likes 0 = .ok (.aload_n 0, 1) := by decide +kernel
theorem dX6_likes_1 : decode cX6_likes 1 = .ok (.iload_n 2, 1) := by decide +kernel
theorem dX6_likes_2 : decode cX6_likes 2 = .ok (.invokevirtual 185, 3) := by decide +kernel
theorem dX6_likes_5 : decode cX6_likes 5 = .ok (.aload_n 0, 1) := by decide +kernel
theorem dX6_likes_6 : decode cX6_likes 6 = .ok (.iload_n 1, 1) := by decide +kernel
theorem dX6_likes_7 : decode cX6_likes 7 = .ok (.invokevirtual 66, 3) := by decide +kernel
theorem dX6_likes_10 : decode cX6_likes 10 = .ok (.iconst 0, 1) := by decide +kernel
theorem dX6_likes_11 : decode cX6_likes 11 = .ok (.istore_n 3, 1) := by decide +kernel
theorem dX6_likes_12 : decode cX6_likes 12 = .ok (.iconst 0, 1) := by decide +kernel
theorem dX6_likes_13 : decode cX6_likes 13 = .ok (.istore 4, 2) := by decide +kernel
theorem dX6_likes_15 : decode cX6_likes 15 = .ok (.iload 4, 2) := by decide +kernel
theorem dX6_likes_17 : decode cX6_likes 17 = .ok (.bipush 32, 2) := by decide +kernel
theorem dX6_likes_19 : decode cX6_likes 19 = .ok (.if_icmp .ge 34, 3) := by decide +kernel
theorem dX6_likes_22 : decode cX6_likes 22 = .ok (.iload_n 3, 1) := by decide +kernel
theorem dX6_likes_23 : decode cX6_likes 23 = .ok (.aload_n 0, 1) := by decide +kernel
theorem dX6_likes_24 : decode cX6_likes 24 = .ok (.getfield 25, 3) := by decide +kernel
theorem dX6_likes_27 : decode cX6_likes 27 = .ok (.iload 4, 2) := by decide +kernel
theorem dX6_likes_29 : decode cX6_likes 29 = .ok (.iaload, 1) := by decide +kernel
theorem dX6_likes_30 : decode cX6_likes 30 = .ok (.aload_n 0, 1) := by decide +kernel
theorem dX6_likes_31 : decode cX6_likes 31 = .ok (.getfield 28, 3) := by decide +kernel
theorem dX6_likes_34 : decode cX6_likes 34 = .ok (.iload 4, 2) := by decide +kernel
theorem dX6_likes_36 : decode cX6_likes 36 = .ok (.iaload, 1) := by decide +kernel
theorem dX6_likes_37 : decode cX6_likes 37 = .ok (.if_icmp .ne 7, 3) := by decide +kernel
theorem dX6_likes_40 : decode cX6_likes 40 = .ok (.iconst 1, 1) := by decide +kernel
theorem dX6_likes_41 : decode cX6_likes 41 = .ok (.goto 4, 3) := by decide +kernel
theorem dX6_likes_44 : decode cX6_likes 44 = .ok (.iconst 0, 1) := by decide +kernel
theorem dX6_likes_45 : decode cX6_likes 45 = .ok (.iadd, 1) := by decide +kernel
theorem dX6_likes_46 : decode cX6_likes 46 = .ok (.istore_n 3, 1) := by decide +kernel
theorem dX6_likes_47 : decode cX6_likes 47 = .ok (.iinc 4 1, 3) := by decide +kernel
theorem dX6_likes_50 : decode cX6_likes 50 = .ok (.goto (-35), 3) := by decide +kernel
theorem dX6_likes_53 : decode cX6_likes 53 = .ok (.iload_n 3, 1) := by decide +kernel
theorem dX6_likes_54 : decode cX6_likes 54 = .ok (.ireturn, 1) := by decide +kernel
theorem dX6_pictures_0 : decode cX6_pictures 0 = .ok (.iconst 0, 1) := by decide +kernel
theorem dX6_pictures_1 : decode cX6_pictures 1 = .ok (.istore_n 1, 1) := by decide +kernel
theorem dX6_pictures_2 : decode cX6_pictures 2 = .ok (.iconst 0, 1) := by decide +kernel
theorem dX6_pictures_3 : decode cX6_pictures 3 = .ok (.istore_n 2, 1) := by decide +kernel
theorem dX6_pictures_4 : decode cX6_pictures 4 = .ok (.iload_n 2, 1) := by decide +kernel
theorem dX6_pictures_5 : decode cX6_pictures 5 = .ok (.bipush 8, 2) := by decide +kernel
theorem dX6_pictures_7 : decode cX6_pictures 7 = .ok (.if_icmp .ge 60, 3) := by decide +kernel
theorem dX6_pictures_10 : decode cX6_pictures 10 = .ok (.iconst 1, 1) := by decide +kernel
theorem dX6_pictures_11 : decode cX6_pictures 11 = .ok (.istore_n 3, 1) := by decide +kernel
theorem dX6_pictures_12 : decode cX6_pictures 12 = .ok (.iconst 0, 1) := by decide +kernel
theorem dX6_pictures_13 : decode cX6_pictures 13 = .ok (.istore 4, 2) := by decide +kernel
theorem dX6_pictures_15 : decode cX6_pictures 15 = .ok (.iload 4, 2) := by decide +kernel
theorem dX6_pictures_17 : decode cX6_pictures 17 = .ok (.iload_n 2, 1) := by decide +kernel
theorem dX6_pictures_18 : decode cX6_pictures 18 = .ok (.if_icmp .ge 31, 3) := by decide +kernel
theorem dX6_pictures_21 : decode cX6_pictures 21 = .ok (.iload_n 3, 1) := by decide +kernel
theorem dX6_pictures_22 : decode cX6_pictures 22 = .ok (.ifCond .eq 19, 3) := by decide +kernel
theorem dX6_pictures_25 : decode cX6_pictures 25 = .ok (.aload_n 0, 1) := by decide +kernel
theorem dX6_pictures_26 : decode cX6_pictures 26 = .ok (.iload_n 2, 1) := by decide +kernel
theorem dX6_pictures_27 : decode cX6_pictures 27 = .ok (.iload 4, 2) := by decide +kernel
theorem dX6_pictures_29 : decode cX6_pictures 29 = .ok (.invokevirtual 188, 3) := by decide +kernel
theorem dX6_pictures_32 : decode cX6_pictures 32 = .ok (.bipush 32, 2) := by decide +kernel
theorem dX6_pictures_34 : decode cX6_pictures 34 = .ok (.if_icmp .ge 7, 3) := by decide +kernel
theorem dX6_pictures_37 : decode cX6_pictures 37 = .ok (.iconst 1, 1) := by decide +kernel
theorem dX6_pictures_38 : decode cX6_pictures 38 = .ok (.goto 4, 3) := by decide +kernel
theorem dX6_pictures_41 : decode cX6_pictures 41 = .ok (.iconst 0, 1) := by decide +kernel
theorem dX6_pictures_42 : decode cX6_pictures 42 = .ok (.istore_n 3, 1) := by decide +kernel
theorem dX6_pictures_43 : decode cX6_pictures 43 = .ok (.iinc 4 1, 3) := by decide +kernel
theorem dX6_pictures_46 : decode cX6_pictures 46 = .ok (.goto (-31), 3) := by decide +kernel
theorem dX6_pictures_49 : decode cX6_pictures 49 = .ok (.iload_n 1, 1) := by decide +kernel
theorem dX6_pictures_50 : decode cX6_pictures 50 = .ok (.iload_n 3, 1) := by decide +kernel
theorem dX6_pictures_51 : decode cX6_pictures 51 = .ok (.ifCond .eq 7, 3) := by decide +kernel
theorem dX6_pictures_54 : decode cX6_pictures 54 = .ok (.iconst 1, 1) := by decide +kernel
theorem dX6_pictures_55 : decode cX6_pictures 55 = .ok (.goto 4, 3) := by decide +kernel
theorem dX6_pictures_58 : decode cX6_pictures 58 = .ok (.iconst 0, 1) := by decide +kernel
theorem dX6_pictures_59 : decode cX6_pictures 59 = .ok (.iadd, 1) := by decide +kernel
theorem dX6_pictures_60 : decode cX6_pictures 60 = .ok (.istore_n 1, 1) := by decide +kernel
theorem dX6_pictures_61 : decode cX6_pictures 61 = .ok (.iinc 2 1, 3) := by decide +kernel
theorem dX6_pictures_64 : decode cX6_pictures 64 = .ok (.goto (-60), 3) := by decide +kernel
theorem dX6_pictures_67 : decode cX6_pictures 67 = .ok (.iload_n 1, 1) := by decide +kernel
theorem dX6_pictures_68 : decode cX6_pictures 68 = .ok (.ireturn, 1) := by decide +kernel
theorem dX6_overAll_0 : decode cX6_overAll 0 = .ok (.iconst 0, 1) := by decide +kernel
theorem dX6_overAll_1 : decode cX6_overAll 1 = .ok (.istore_n 2, 1) := by decide +kernel
theorem dX6_overAll_2 : decode cX6_overAll 2 = .ok (.iconst 0, 1) := by decide +kernel
theorem dX6_overAll_3 : decode cX6_overAll 3 = .ok (.istore_n 3, 1) := by decide +kernel
theorem dX6_overAll_4 : decode cX6_overAll 4 = .ok (.iload_n 3, 1) := by decide +kernel
theorem dX6_overAll_5 : decode cX6_overAll 5 = .ok (.bipush 8, 2) := by decide +kernel
theorem dX6_overAll_7 : decode cX6_overAll 7 = .ok (.if_icmp .ge 18, 3) := by decide +kernel
theorem dX6_overAll_10 : decode cX6_overAll 10 = .ok (.iload_n 2, 1) := by decide +kernel
theorem dX6_overAll_11 : decode cX6_overAll 11 = .ok (.aload_n 0, 1) := by decide +kernel
theorem dX6_overAll_12 : decode cX6_overAll 12 = .ok (.iload_n 3, 1) := by decide +kernel
theorem dX6_overAll_13 : decode cX6_overAll 13 = .ok (.iload_n 1, 1) := by decide +kernel
theorem dX6_overAll_14 : decode cX6_overAll 14 = .ok (.invokevirtual 167, 3) := by decide +kernel
theorem dX6_overAll_17 : decode cX6_overAll 17 = .ok (.iadd, 1) := by decide +kernel
theorem dX6_overAll_18 : decode cX6_overAll 18 = .ok (.istore_n 2, 1) := by decide +kernel
theorem dX6_overAll_19 : decode cX6_overAll 19 = .ok (.iinc 3 1, 3) := by decide +kernel
theorem dX6_overAll_22 : decode cX6_overAll 22 = .ok (.goto (-18), 3) := by decide +kernel
theorem dX6_overAll_25 : decode cX6_overAll 25 = .ok (.iload_n 2, 1) := by decide +kernel
theorem dX6_overAll_26 : decode cX6_overAll 26 = .ok (.ireturn, 1) := by decide +kernel
theorem dX6_raised_0 : decode cX6_raised 0 = .ok (.iconst 0, 1) := by decide +kernel
theorem dX6_raised_1 : decode cX6_raised 1 = .ok (.istore_n 1, 1) := by decide +kernel
theorem dX6_raised_2 : decode cX6_raised 2 = .ok (.bipush 32, 2) := by decide +kernel
theorem dX6_raised_4 : decode cX6_raised 4 = .ok (.istore_n 2, 1) := by decide +kernel
theorem dX6_raised_5 : decode cX6_raised 5 = .ok (.iload_n 2, 1) := by decide +kernel
theorem dX6_raised_6 : decode cX6_raised 6 = .ok (.sipush 288, 3) := by decide +kernel
theorem dX6_raised_9 : decode cX6_raised 9 = .ok (.if_icmp .ge 26, 3) := by decide +kernel
theorem dX6_raised_12 : decode cX6_raised 12 = .ok (.iload_n 1, 1) := by decide +kernel
theorem dX6_raised_13 : decode cX6_raised 13 = .ok (.aload_n 0, 1) := by decide +kernel
theorem dX6_raised_14 : decode cX6_raised 14 = .ok (.getfield 7, 3) := by decide +kernel
theorem dX6_raised_17 : decode cX6_raised 17 = .ok (.iload_n 2, 1) := by decide +kernel
theorem dX6_raised_18 : decode cX6_raised 18 = .ok (.iaload, 1) := by decide +kernel
theorem dX6_raised_19 : decode cX6_raised 19 = .ok (.ifCond .le 7, 3) := by decide +kernel
theorem dX6_raised_22 : decode cX6_raised 22 = .ok (.iconst 1, 1) := by decide +kernel
theorem dX6_raised_23 : decode cX6_raised 23 = .ok (.goto 4, 3) := by decide +kernel
theorem dX6_raised_26 : decode cX6_raised 26 = .ok (.iconst 0, 1) := by decide +kernel
theorem dX6_raised_27 : decode cX6_raised 27 = .ok (.iadd, 1) := by decide +kernel
theorem dX6_raised_28 : decode cX6_raised 28 = .ok (.istore_n 1, 1) := by decide +kernel
theorem dX6_raised_29 : decode cX6_raised 29 = .ok (.iinc 2 1, 3) := by decide +kernel
theorem dX6_raised_32 : decode cX6_raised 32 = .ok (.goto (-27), 3) := by decide +kernel
theorem dX6_raised_35 : decode cX6_raised 35 = .ok (.iload_n 1, 1) := by decide +kernel
theorem dX6_raised_36 : decode cX6_raised 36 = .ok (.ireturn, 1) := by decide +kernel
theorem dX6_count_0 : decode cX6_count 0 = .ok (.iload_n 1, 1) := by decide +kernel
theorem dX6_count_1 : decode cX6_count 1 = .ok (.iconst 1, 1) := by decide +kernel
theorem dX6_count_2 : decode cX6_count 2 = .ok (.bipush 8, 2) := by decide +kernel
theorem dX6_count_4 : decode cX6_count 4 = .ok (.invokestatic 31, 3) := by decide +kernel
theorem dX6_count_7 : decode cX6_count 7 = .ok (.ifCond .eq 11, 3) := by decide +kernel
theorem dX6_count_10 : decode cX6_count 10 = .ok (.aload_n 0, 1) := by decide +kernel
theorem dX6_count_11 : decode cX6_count 11 = .ok (.iload_n 1, 1) := by decide +kernel
theorem dX6_count_12 : decode cX6_count 12 = .ok (.iconst 1, 1) := by decide +kernel
theorem dX6_count_13 : decode cX6_count 13 = .ok (.isub, 1) := by decide +kernel
theorem dX6_count_14 : decode cX6_count 14 = .ok (.invokevirtual 191, 3) := by decide +kernel
theorem dX6_count_17 : decode cX6_count 17 = .ok (.ireturn, 1) := by decide +kernel
theorem dX6_count_18 : decode cX6_count 18 = .ok (.iload_n 1, 1) := by decide +kernel
theorem dX6_count_19 : decode cX6_count 19 = .ok (.bipush 13, 2) := by decide +kernel
theorem dX6_count_21 : decode cX6_count 21 = .ok (.bipush 18, 2) := by decide +kernel
theorem dX6_count_23 : decode cX6_count 23 = .ok (.invokestatic 31, 3) := by decide +kernel
theorem dX6_count_26 : decode cX6_count 26 = .ok (.ifCond .eq 13, 3) := by decide +kernel
theorem dX6_count_29 : decode cX6_count 29 = .ok (.aload_n 0, 1) := by decide +kernel
theorem dX6_count_30 : decode cX6_count 30 = .ok (.getfield 7, 3) := by decide +kernel
theorem dX6_count_33 : decode cX6_count 33 = .ok (.iload_n 1, 1) := by decide +kernel
theorem dX6_count_34 : decode cX6_count 34 = .ok (.bipush 13, 2) := by decide +kernel
theorem dX6_count_36 : decode cX6_count 36 = .ok (.isub, 1) := by decide +kernel
theorem dX6_count_37 : decode cX6_count 37 = .ok (.iaload, 1) := by decide +kernel
theorem dX6_count_38 : decode cX6_count 38 = .ok (.ireturn, 1) := by decide +kernel
theorem dX6_count_39 : decode cX6_count 39 = .ok (.iload_n 1, 1) := by decide +kernel
theorem dX6_count_40 : decode cX6_count 40 = .ok (.tableswitch 99 0 12 #[68, 99, 99, 99, 99, 99, 99, 99, 99, 73, 81, 89, 94], 68) := by decide +kernel
theorem dX6_count_108 : decode cX6_count 108 = .ok (.aload_n 0, 1) := by decide +kernel
theorem dX6_count_109 : decode cX6_count 109 = .ok (.invokevirtual 194, 3) := by decide +kernel
theorem dX6_count_112 : decode cX6_count 112 = .ok (.ireturn, 1) := by decide +kernel
theorem dX6_count_113 : decode cX6_count 113 = .ok (.aload_n 0, 1) := by decide +kernel
theorem dX6_count_114 : decode cX6_count 114 = .ok (.getfield 7, 3) := by decide +kernel
theorem dX6_count_117 : decode cX6_count 117 = .ok (.bipush 6, 2) := by decide +kernel
theorem dX6_count_119 : decode cX6_count 119 = .ok (.iaload, 1) := by decide +kernel
theorem dX6_count_120 : decode cX6_count 120 = .ok (.ireturn, 1) := by decide +kernel
theorem dX6_count_121 : decode cX6_count 121 = .ok (.aload_n 0, 1) := by decide +kernel
theorem dX6_count_122 : decode cX6_count 122 = .ok (.getfield 7, 3) := by decide +kernel
theorem dX6_count_125 : decode cX6_count 125 = .ok (.bipush 7, 2) := by decide +kernel
theorem dX6_count_127 : decode cX6_count 127 = .ok (.iaload, 1) := by decide +kernel
theorem dX6_count_128 : decode cX6_count 128 = .ok (.ireturn, 1) := by decide +kernel
theorem dX6_count_129 : decode cX6_count 129 = .ok (.aload_n 0, 1) := by decide +kernel
theorem dX6_count_130 : decode cX6_count 130 = .ok (.getfield 103, 3) := by decide +kernel
theorem dX6_count_133 : decode cX6_count 133 = .ok (.ireturn, 1) := by decide +kernel
theorem dX6_count_134 : decode cX6_count 134 = .ok (.aload_n 0, 1) := by decide +kernel
theorem dX6_count_135 : decode cX6_count 135 = .ok (.getfield 39, 3) := by decide +kernel
theorem dX6_count_138 : decode cX6_count 138 = .ok (.ireturn, 1) := by decide +kernel
theorem dX6_count_139 : decode cX6_count 139 = .ok (.iconst (-1), 1) := by decide +kernel
theorem dX6_count_140 : decode cX6_count 140 = .ok (.ireturn, 1) := by decide +kernel
theorem dX6_away_0 : decode cX6_away 0 = .ok (.iload_n 1, 1) := by decide +kernel
theorem dX6_away_1 : decode cX6_away 1 = .ok (.iconst 0, 1) := by decide +kernel
theorem dX6_away_2 : decode cX6_away 2 = .ok (.iconst 4, 1) := by decide +kernel
theorem dX6_away_3 : decode cX6_away 3 = .ok (.invokestatic 31, 3) := by decide +kernel
theorem dX6_away_6 : decode cX6_away 6 = .ok (.ifCond .ne 6, 3) := by decide +kernel
theorem dX6_away_9 : decode cX6_away 9 = .ok (.ldc 197, 2) := by decide +kernel
theorem dX6_away_11 : decode cX6_away 11 = .ok (.freturn, 1) := by decide +kernel
theorem dX6_away_12 : decode cX6_away 12 = .ok (.aload_n 0, 1) := by decide +kernel
theorem dX6_away_13 : decode cX6_away 13 = .ok (.getfield 7, 3) := by decide +kernel
theorem dX6_away_16 : decode cX6_away 16 = .ok (.iconst 0, 1) := by decide +kernel
theorem dX6_away_17 : decode cX6_away 17 = .ok (.iaload, 1) := by decide +kernel
theorem dX6_away_18 : decode cX6_away 18 = .ok (.iload_n 1, 1) := by decide +kernel
theorem dX6_away_19 : decode cX6_away 19 = .ok (.isub, 1) := by decide +kernel
theorem dX6_away_20 : decode cX6_away 20 = .ok (.istore_n 2, 1) := by decide +kernel
theorem dX6_away_21 : decode cX6_away 21 = .ok (.aload_n 0, 1) := by decide +kernel
theorem dX6_away_22 : decode cX6_away 22 = .ok (.getfield 7, 3) := by decide +kernel
theorem dX6_away_25 : decode cX6_away 25 = .ok (.iconst 3, 1) := by decide +kernel
theorem dX6_away_26 : decode cX6_away 26 = .ok (.iaload, 1) := by decide +kernel
theorem dX6_away_27 : decode cX6_away 27 = .ok (.iconst 1, 1) := by decide +kernel
theorem dX6_away_28 : decode cX6_away 28 = .ok (.if_icmp .ne 14, 3) := by decide +kernel
theorem dX6_away_31 : decode cX6_away 31 = .ok (.aload_n 0, 1) := by decide +kernel
theorem dX6_away_32 : decode cX6_away 32 = .ok (.getfield 7, 3) := by decide +kernel
theorem dX6_away_35 : decode cX6_away 35 = .ok (.iconst 4, 1) := by decide +kernel
theorem dX6_away_36 : decode cX6_away 36 = .ok (.iaload, 1) := by decide +kernel
theorem dX6_away_37 : decode cX6_away 37 = .ok (.iload_n 2, 1) := by decide +kernel
theorem dX6_away_38 : decode cX6_away 38 = .ok (.iadd, 1) := by decide +kernel
theorem dX6_away_39 : decode cX6_away 39 = .ok (.goto 11, 3) := by decide +kernel
theorem dX6_away_42 : decode cX6_away 42 = .ok (.aload_n 0, 1) := by decide +kernel
theorem dX6_away_43 : decode cX6_away 43 = .ok (.getfield 7, 3) := by decide +kernel
theorem dX6_away_46 : decode cX6_away 46 = .ok (.iconst 4, 1) := by decide +kernel
theorem dX6_away_47 : decode cX6_away 47 = .ok (.iaload, 1) := by decide +kernel
theorem dX6_away_48 : decode cX6_away 48 = .ok (.iload_n 2, 1) := by decide +kernel
theorem dX6_away_49 : decode cX6_away 49 = .ok (.isub, 1) := by decide +kernel
theorem dX6_away_50 : decode cX6_away 50 = .ok (.istore_n 3, 1) := by decide +kernel
theorem dX6_away_51 : decode cX6_away 51 = .ok (.aload_n 0, 1) := by decide +kernel
theorem dX6_away_52 : decode cX6_away 52 = .ok (.getfield 7, 3) := by decide +kernel
theorem dX6_away_55 : decode cX6_away 55 = .ok (.iconst 5, 1) := by decide +kernel
theorem dX6_away_56 : decode cX6_away 56 = .ok (.iaload, 1) := by decide +kernel
theorem dX6_away_57 : decode cX6_away 57 = .ok (.iload_n 2, 1) := by decide +kernel
theorem dX6_away_58 : decode cX6_away 58 = .ok (.imul, 1) := by decide +kernel
theorem dX6_away_59 : decode cX6_away 59 = .ok (.i2f, 1) := by decide +kernel
theorem dX6_away_60 : decode cX6_away 60 = .ok (.iload_n 3, 1) := by decide +kernel
theorem dX6_away_61 : decode cX6_away 61 = .ok (.i2f, 1) := by decide +kernel
theorem dX6_away_62 : decode cX6_away 62 = .ok (.fdiv, 1) := by decide +kernel
theorem dX6_away_63 : decode cX6_away 63 = .ok (.freturn, 1) := by decide +kernel
theorem dX6_clearness_0 : decode cX6_clearness 0 = .ok (.iload_n 1, 1) := by decide +kernel
theorem dX6_clearness_1 : decode cX6_clearness 1 = .ok (.invokestatic 78, 3) := by decide +kernel
theorem dX6_clearness_4 : decode cX6_clearness 4 = .ok (.ifCond .eq 16, 3) := by decide +kernel
theorem dX6_clearness_7 : decode cX6_clearness 7 = .ok (.aload_n 0, 1) := by decide +kernel
theorem dX6_clearness_8 : decode cX6_clearness 8 = .ok (.iload_n 1, 1) := by decide +kernel
theorem dX6_clearness_9 : decode cX6_clearness 9 = .ok (.invokevirtual 74, 3) := by decide +kernel
theorem dX6_clearness_12 : decode cX6_clearness 12 = .ok (.i2d, 1) := by decide +kernel
theorem dX6_clearness_13 : decode cX6_clearness 13 = .ok (.ldc2_w 198, 3) := by decide +kernel
theorem dX6_clearness_16 : decode cX6_clearness 16 = .ok (.ddiv, 1) := by decide +kernel
theorem dX6_clearness_17 : decode cX6_clearness 17 = .ok (.goto 6, 3) := by decide +kernel
theorem dX6_clearness_20 : decode cX6_clearness 20 = .ok (.ldc2_w 200, 3) := by decide +kernel
theorem dX6_clearness_23 : decode cX6_clearness 23 = .ok (.dreturn, 1) := by decide +kernel
theorem dX6_ifPainted_0 : decode cX6_ifPainted 0 = .ok (.iload_n 1, 1) := by decide +kernel
theorem dX6_ifPainted_1 : decode cX6_ifPainted 1 = .ok (.invokestatic 78, 3) := by decide +kernel
theorem dX6_ifPainted_4 : decode cX6_ifPainted 4 = .ok (.ifCond .eq 30, 3) := by decide +kernel
theorem dX6_ifPainted_7 : decode cX6_ifPainted 7 = .ok (.iload_n 2, 1) := by decide +kernel
theorem dX6_ifPainted_8 : decode cX6_ifPainted 8 = .ok (.invokestatic 52, 3) := by decide +kernel
theorem dX6_ifPainted_11 : decode cX6_ifPainted 11 = .ok (.ifCond .eq 23, 3) := by decide +kernel
theorem dX6_ifPainted_14 : decode cX6_ifPainted 14 = .ok (.iload_n 3, 1) := by decide +kernel
theorem dX6_ifPainted_15 : decode cX6_ifPainted 15 = .ok (.iconst 0, 1) := by decide +kernel
theorem dX6_ifPainted_16 : decode cX6_ifPainted 16 = .ok (.bipush 7, 2) := by decide +kernel
theorem dX6_ifPainted_18 : decode cX6_ifPainted 18 = .ok (.invokestatic 31, 3) := by decide +kernel
theorem dX6_ifPainted_21 : decode cX6_ifPainted 21 = .ok (.ifCond .eq 13, 3) := by decide +kernel
theorem dX6_ifPainted_24 : decode cX6_ifPainted 24 = .ok (.iload 4, 2) := by decide +kernel
theorem dX6_ifPainted_26 : decode cX6_ifPainted 26 = .ok (.iconst 0, 1) := by decide +kernel
theorem dX6_ifPainted_27 : decode cX6_ifPainted 27 = .ok (.iconst 2, 1) := by decide +kernel
theorem dX6_ifPainted_28 : decode cX6_ifPainted 28 = .ok (.invokestatic 31, 3) := by decide +kernel
theorem dX6_ifPainted_31 : decode cX6_ifPainted 31 = .ok (.ifCond .ne 5, 3) := by decide +kernel
theorem dX6_ifPainted_34 : decode cX6_ifPainted 34 = .ok (.iconst (-1), 1) := by decide +kernel
theorem dX6_ifPainted_35 : decode cX6_ifPainted 35 = .ok (.ireturn, 1) := by decide +kernel
theorem dX6_ifPainted_36 : decode cX6_ifPainted 36 = .ok (.aload_n 0, 1) := by decide +kernel
theorem dX6_ifPainted_37 : decode cX6_ifPainted 37 = .ok (.iload_n 1, 1) := by decide +kernel
theorem dX6_ifPainted_38 : decode cX6_ifPainted 38 = .ok (.invokevirtual 185, 3) := by decide +kernel
theorem dX6_ifPainted_41 : decode cX6_ifPainted 41 = .ok (.aload_n 0, 1) := by decide +kernel
theorem dX6_ifPainted_42 : decode cX6_ifPainted 42 = .ok (.iload_n 1, 1) := by decide +kernel
theorem dX6_ifPainted_43 : decode cX6_ifPainted 43 = .ok (.iload_n 2, 1) := by decide +kernel
theorem dX6_ifPainted_44 : decode cX6_ifPainted 44 = .ok (.invokevirtual 56, 3) := by decide +kernel
theorem dX6_ifPainted_47 : decode cX6_ifPainted 47 = .ok (.istore 5, 2) := by decide +kernel
theorem dX6_ifPainted_49 : decode cX6_ifPainted 49 = .ok (.aload_n 0, 1) := by decide +kernel
theorem dX6_ifPainted_50 : decode cX6_ifPainted 50 = .ok (.getfield 7, 3) := by decide +kernel
theorem dX6_ifPainted_53 : decode cX6_ifPainted 53 = .ok (.sipush 288, 3) := by decide +kernel
theorem dX6_ifPainted_56 : decode cX6_ifPainted 56 = .ok (.iload_n 1, 1) := by decide +kernel
theorem dX6_ifPainted_57 : decode cX6_ifPainted 57 = .ok (.iload_n 2, 1) := by decide +kernel
theorem dX6_ifPainted_58 : decode cX6_ifPainted 58 = .ok (.invokestatic 35, 3) := by decide +kernel
theorem dX6_ifPainted_61 : decode cX6_ifPainted 61 = .ok (.iadd, 1) := by decide +kernel
theorem dX6_ifPainted_62 : decode cX6_ifPainted 62 = .ok (.iload_n 3, 1) := by decide +kernel
theorem dX6_ifPainted_63 : decode cX6_ifPainted 63 = .ok (.iastore, 1) := by decide +kernel
theorem dX6_ifPainted_64 : decode cX6_ifPainted 64 = .ok (.aload_n 0, 1) := by decide +kernel
theorem dX6_ifPainted_65 : decode cX6_ifPainted 65 = .ok (.iload_n 1, 1) := by decide +kernel
theorem dX6_ifPainted_66 : decode cX6_ifPainted 66 = .ok (.invokevirtual 74, 3) := by decide +kernel
theorem dX6_ifPainted_69 : decode cX6_ifPainted 69 = .ok (.istore 6, 2) := by decide +kernel
theorem dX6_ifPainted_71 : decode cX6_ifPainted 71 = .ok (.aload_n 0, 1) := by decide +kernel
theorem dX6_ifPainted_72 : decode cX6_ifPainted 72 = .ok (.getfield 7, 3) := by decide +kernel
theorem dX6_ifPainted_75 : decode cX6_ifPainted 75 = .ok (.sipush 288, 3) := by decide +kernel
theorem dX6_ifPainted_78 : decode cX6_ifPainted 78 = .ok (.iload_n 1, 1) := by decide +kernel
theorem dX6_ifPainted_79 : decode cX6_ifPainted 79 = .ok (.iload_n 2, 1) := by decide +kernel
theorem dX6_ifPainted_80 : decode cX6_ifPainted 80 = .ok (.invokestatic 35, 3) := by decide +kernel
theorem dX6_ifPainted_83 : decode cX6_ifPainted 83 = .ok (.iadd, 1) := by decide +kernel
theorem dX6_ifPainted_84 : decode cX6_ifPainted 84 = .ok (.iload 5, 2) := by decide +kernel
theorem dX6_ifPainted_86 : decode cX6_ifPainted 86 = .ok (.iastore, 1) := by decide +kernel
theorem dX6_ifPainted_87 : decode cX6_ifPainted 87 = .ok (.iconst 0, 1) := by decide +kernel
theorem dX6_ifPainted_88 : decode cX6_ifPainted 88 = .ok (.istore 7, 2) := by decide +kernel
theorem dX6_ifPainted_90 : decode cX6_ifPainted 90 = .ok (.bipush (-4), 2) := by decide +kernel
theorem dX6_ifPainted_92 : decode cX6_ifPainted 92 = .ok (.istore 8, 2) := by decide +kernel
theorem dX6_ifPainted_94 : decode cX6_ifPainted 94 = .ok (.iconst 0, 1) := by decide +kernel
theorem dX6_ifPainted_95 : decode cX6_ifPainted 95 = .ok (.istore 9, 2) := by decide +kernel
theorem dX6_ifPainted_97 : decode cX6_ifPainted 97 = .ok (.iload 9, 2) := by decide +kernel
theorem dX6_ifPainted_99 : decode cX6_ifPainted 99 = .ok (.bipush 32, 2) := by decide +kernel
theorem dX6_ifPainted_101 : decode cX6_ifPainted 101 = .ok (.if_icmp .ge 53, 3) := by decide +kernel
theorem dX6_ifPainted_104 : decode cX6_ifPainted 104 = .ok (.aload_n 0, 1) := by decide +kernel
theorem dX6_ifPainted_105 : decode cX6_ifPainted 105 = .ok (.getfield 25, 3) := by decide +kernel
theorem dX6_ifPainted_108 : decode cX6_ifPainted 108 = .ok (.iload 9, 2) := by decide +kernel
theorem dX6_ifPainted_110 : decode cX6_ifPainted 110 = .ok (.iaload, 1) := by decide +kernel
theorem dX6_ifPainted_111 : decode cX6_ifPainted 111 = .ok (.aload_n 0, 1) := by decide +kernel
theorem dX6_ifPainted_112 : decode cX6_ifPainted 112 = .ok (.getfield 28, 3) := by decide +kernel
theorem dX6_ifPainted_115 : decode cX6_ifPainted 115 = .ok (.iload 9, 2) := by decide +kernel
theorem dX6_ifPainted_117 : decode cX6_ifPainted 117 = .ok (.iaload, 1) := by decide +kernel
theorem dX6_ifPainted_118 : decode cX6_ifPainted 118 = .ok (.if_icmp .eq 30, 3) := by decide +kernel
theorem dX6_ifPainted_121 : decode cX6_ifPainted 121 = .ok (.iinc 7 1, 3) := by decide +kernel
theorem dX6_ifPainted_124 : decode cX6_ifPainted 124 = .ok (.iload 8, 2) := by decide +kernel
theorem dX6_ifPainted_126 : decode cX6_ifPainted 126 = .ok (.iload 9, 2) := by decide +kernel
theorem dX6_ifPainted_128 : decode cX6_ifPainted 128 = .ok (.iload_n 2, 1) := by decide +kernel
theorem dX6_ifPainted_129 : decode cX6_ifPainted 129 = .ok (.if_icmp .ge 10, 3) := by decide +kernel
theorem dX6_ifPainted_132 : decode cX6_ifPainted 132 = .ok (.iload_n 2, 1) := by decide +kernel
theorem dX6_ifPainted_133 : decode cX6_ifPainted 133 = .ok (.iload 9, 2) := by decide +kernel
theorem dX6_ifPainted_135 : decode cX6_ifPainted 135 = .ok (.isub, 1) := by decide +kernel
theorem dX6_ifPainted_136 : decode cX6_ifPainted 136 = .ok (.goto 7, 3) := by decide +kernel
theorem dX6_ifPainted_139 : decode cX6_ifPainted 139 = .ok (.iload 9, 2) := by decide +kernel
theorem dX6_ifPainted_141 : decode cX6_ifPainted 141 = .ok (.iload_n 2, 1) := by decide +kernel
theorem dX6_ifPainted_142 : decode cX6_ifPainted 142 = .ok (.isub, 1) := by decide +kernel
theorem dX6_ifPainted_143 : decode cX6_ifPainted 143 = .ok (.invokestatic 164, 3) := by decide +kernel
theorem dX6_ifPainted_146 : decode cX6_ifPainted 146 = .ok (.istore 8, 2) := by decide +kernel
theorem dX6_ifPainted_148 : decode cX6_ifPainted 148 = .ok (.iinc 9 1, 3) := by decide +kernel
theorem dX6_ifPainted_151 : decode cX6_ifPainted 151 = .ok (.goto (-54), 3) := by decide +kernel
theorem dX6_ifPainted_154 : decode cX6_ifPainted 154 = .ok (.iload 4, 2) := by decide +kernel
theorem dX6_ifPainted_156 : decode cX6_ifPainted 156 = .ok (.ifCond .ne 8, 3) := by decide +kernel
theorem dX6_ifPainted_159 : decode cX6_ifPainted 159 = .ok (.iload 7, 2) := by decide +kernel
theorem dX6_ifPainted_161 : decode cX6_ifPainted 161 = .ok (.goto 16, 3) := by decide +kernel
theorem dX6_ifPainted_164 : decode cX6_ifPainted 164 = .ok (.iload 4, 2) := by decide +kernel
theorem dX6_ifPainted_166 : decode cX6_ifPainted 166 = .ok (.iconst 1, 1) := by decide +kernel
theorem dX6_ifPainted_167 : decode cX6_ifPainted 167 = .ok (.if_icmp .ne 8, 3) := by decide +kernel
theorem dX6_ifPainted_170 : decode cX6_ifPainted 170 = .ok (.iload 6, 2) := by decide +kernel
theorem dX6_ifPainted_172 : decode cX6_ifPainted 172 = .ok (.goto 5, 3) := by decide +kernel
theorem dX6_ifPainted_175 : decode cX6_ifPainted 175 = .ok (.iload 8, 2) := by decide +kernel
theorem dX6_ifPainted_177 : decode cX6_ifPainted 177 = .ok (.ireturn, 1) := by decide +kernel
theorem dX6_rightBy_0 : decode cX6_rightBy 0 = .ok (.aload_n 0, 1) := by decide +kernel
theorem dX6_rightBy_1 : decode cX6_rightBy 1 = .ok (.invokevirtual 84, 3) := by decide +kernel
theorem dX6_rightBy_4 : decode cX6_rightBy 4 = .ok (.aload_n 0, 1) := by decide +kernel
theorem dX6_rightBy_5 : decode cX6_rightBy 5 = .ok (.getfield 7, 3) := by decide +kernel
theorem dX6_rightBy_8 : decode cX6_rightBy 8 = .ok (.iconst 0, 1) := by decide +kernel
theorem dX6_rightBy_9 : decode cX6_rightBy 9 = .ok (.iload_n 2, 1) := by decide +kernel
theorem dX6_rightBy_10 : decode cX6_rightBy 10 = .ok (.iastore, 1) := by decide +kernel
theorem dX6_rightBy_11 : decode cX6_rightBy 11 = .ok (.aload_n 0, 1) := by decide +kernel
theorem dX6_rightBy_12 : decode cX6_rightBy 12 = .ok (.iload_n 1, 1) := by decide +kernel
theorem dX6_rightBy_13 : decode cX6_rightBy 13 = .ok (.invokevirtual 94, 3) := by decide +kernel
theorem dX6_rightBy_16 : decode cX6_rightBy 16 = .ok (.aload_n 0, 1) := by decide +kernel
theorem dX6_rightBy_17 : decode cX6_rightBy 17 = .ok (.iload_n 1, 1) := by decide +kernel
theorem dX6_rightBy_18 : decode cX6_rightBy 18 = .ok (.invokevirtual 74, 3) := by decide +kernel
theorem dX6_rightBy_21 : decode cX6_rightBy 21 = .ok (.istore_n 3, 1) := by decide +kernel
theorem dX6_rightBy_22 : decode cX6_rightBy 22 = .ok (.aload_n 0, 1) := by decide +kernel
theorem dX6_rightBy_23 : decode cX6_rightBy 23 = .ok (.invokevirtual 202, 3) := by decide +kernel
theorem dX6_rightBy_26 : decode cX6_rightBy 26 = .ok (.iload_n 3, 1) := by decide +kernel
theorem dX6_rightBy_27 : decode cX6_rightBy 27 = .ok (.ireturn, 1) := by decide +kernel
theorem dX6_ifPrinted_0 : decode cX6_ifPrinted 0 = .ok (.iload_n 1, 1) := by decide +kernel
theorem dX6_ifPrinted_1 : decode cX6_ifPrinted 1 = .ok (.invokestatic 78, 3) := by decide +kernel
theorem dX6_ifPrinted_4 : decode cX6_ifPrinted 4 = .ok (.ifCond .eq 23, 3) := by decide +kernel
theorem dX6_ifPrinted_7 : decode cX6_ifPrinted 7 = .ok (.iload_n 2, 1) := by decide +kernel
theorem dX6_ifPrinted_8 : decode cX6_ifPrinted 8 = .ok (.bipush 6, 2) := by decide +kernel
theorem dX6_ifPrinted_10 : decode cX6_ifPrinted 10 = .ok (.bipush 16, 2) := by decide +kernel
theorem dX6_ifPrinted_12 : decode cX6_ifPrinted 12 = .ok (.invokestatic 31, 3) := by decide +kernel
theorem dX6_ifPrinted_15 : decode cX6_ifPrinted 15 = .ok (.ifCond .eq 12, 3) := by decide +kernel
theorem dX6_ifPrinted_18 : decode cX6_ifPrinted 18 = .ok (.aload_n 0, 1) := by decide +kernel
theorem dX6_ifPrinted_19 : decode cX6_ifPrinted 19 = .ok (.iload_n 1, 1) := by decide +kernel
theorem dX6_ifPrinted_20 : decode cX6_ifPrinted 20 = .ok (.iload_n 2, 1) := by decide +kernel
theorem dX6_ifPrinted_21 : decode cX6_ifPrinted 21 = .ok (.invokevirtual 205, 3) := by decide +kernel
theorem dX6_ifPrinted_24 : decode cX6_ifPrinted 24 = .ok (.goto 4, 3) := by decide +kernel
theorem dX6_ifPrinted_27 : decode cX6_ifPrinted 27 = .ok (.iconst (-1), 1) := by decide +kernel
theorem dX6_ifPrinted_28 : decode cX6_ifPrinted 28 = .ok (.ireturn, 1) := by decide +kernel
theorem dX6_shortest_0 : decode cX6_shortest 0 = .ok (.iload_n 1, 1) := by decide +kernel
theorem dX6_shortest_1 : decode cX6_shortest 1 = .ok (.invokestatic 78, 3) := by decide +kernel
theorem dX6_shortest_4 : decode cX6_shortest 4 = .ok (.ifCond .ne 5, 3) := by decide +kernel
theorem dX6_shortest_7 : decode cX6_shortest 7 = .ok (.iconst (-1), 1) := by decide +kernel
theorem dX6_shortest_8 : decode cX6_shortest 8 = .ok (.ireturn, 1) := by decide +kernel
theorem dX6_shortest_9 : decode cX6_shortest 9 = .ok (.bipush 6, 2) := by decide +kernel
theorem dX6_shortest_11 : decode cX6_shortest 11 = .ok (.istore_n 2, 1) := by decide +kernel
theorem dX6_shortest_12 : decode cX6_shortest 12 = .ok (.bipush 7, 2) := by decide +kernel
theorem dX6_shortest_14 : decode cX6_shortest 14 = .ok (.istore_n 3, 1) := by decide +kernel
theorem dX6_shortest_15 : decode cX6_shortest 15 = .ok (.iload_n 3, 1) := by decide +kernel
theorem dX6_shortest_16 : decode cX6_shortest 16 = .ok (.bipush 17, 2) := by decide +kernel
theorem dX6_shortest_18 : decode cX6_shortest 18 = .ok (.if_icmp .ge 30, 3) := by decide +kernel
theorem dX6_shortest_21 : decode cX6_shortest 21 = .ok (.aload_n 0, 1) := by decide +kernel
theorem dX6_shortest_22 : decode cX6_shortest 22 = .ok (.iload_n 1, 1) := by decide +kernel
theorem dX6_shortest_23 : decode cX6_shortest 23 = .ok (.iload_n 3, 1) := by decide +kernel
theorem dX6_shortest_24 : decode cX6_shortest 24 = .ok (.invokevirtual 205, 3) := by decide +kernel
theorem dX6_shortest_27 : decode cX6_shortest 27 = .ok (.aload_n 0, 1) := by decide +kernel
theorem dX6_shortest_28 : decode cX6_shortest 28 = .ok (.iload_n 1, 1) := by decide +kernel
theorem dX6_shortest_29 : decode cX6_shortest 29 = .ok (.iload_n 2, 1) := by decide +kernel
theorem dX6_shortest_30 : decode cX6_shortest 30 = .ok (.invokevirtual 205, 3) := by decide +kernel
theorem dX6_shortest_33 : decode cX6_shortest 33 = .ok (.if_icmp .le 7, 3) := by decide +kernel
theorem dX6_shortest_36 : decode cX6_shortest 36 = .ok (.iload_n 3, 1) := by decide +kernel
theorem dX6_shortest_37 : decode cX6_shortest 37 = .ok (.goto 4, 3) := by decide +kernel
theorem dX6_shortest_40 : decode cX6_shortest 40 = .ok (.iload_n 2, 1) := by decide +kernel
theorem dX6_shortest_41 : decode cX6_shortest 41 = .ok (.istore_n 2, 1) := by decide +kernel
theorem dX6_shortest_42 : decode cX6_shortest 42 = .ok (.iinc 3 1, 3) := by decide +kernel
theorem dX6_shortest_45 : decode cX6_shortest 45 = .ok (.goto (-30), 3) := by decide +kernel
theorem dX6_shortest_48 : decode cX6_shortest 48 = .ok (.iload_n 2, 1) := by decide +kernel
theorem dX6_shortest_49 : decode cX6_shortest 49 = .ok (.ireturn, 1) := by decide +kernel
theorem dX6_rightThrough_0 : decode cX6_rightThrough 0 = .ok (.aload_n 0, 1) := by decide +kernel
theorem dX6_rightThrough_1 : decode cX6_rightThrough 1 = .ok (.getfield 7, 3) := by decide +kernel
theorem dX6_rightThrough_4 : decode cX6_rightThrough 4 = .ok (.iconst 2, 1) := by decide +kernel
theorem dX6_rightThrough_5 : decode cX6_rightThrough 5 = .ok (.iaload, 1) := by decide +kernel
theorem dX6_rightThrough_6 : decode cX6_rightThrough 6 = .ok (.istore_n 3, 1) := by decide +kernel
theorem dX6_rightThrough_7 : decode cX6_rightThrough 7 = .ok (.aload_n 0, 1) := by decide +kernel
theorem dX6_rightThrough_8 : decode cX6_rightThrough 8 = .ok (.getfield 7, 3) := by decide +kernel
theorem dX6_rightThrough_11 : decode cX6_rightThrough 11 = .ok (.iconst 2, 1) := by decide +kernel
theorem dX6_rightThrough_12 : decode cX6_rightThrough 12 = .ok (.iload_n 2, 1) := by decide +kernel
theorem dX6_rightThrough_13 : decode cX6_rightThrough 13 = .ok (.iastore, 1) := by decide +kernel
theorem dX6_rightThrough_14 : decode cX6_rightThrough 14 = .ok (.aload_n 0, 1) := by decide +kernel
theorem dX6_rightThrough_15 : decode cX6_rightThrough 15 = .ok (.iload_n 1, 1) := by decide +kernel
theorem dX6_rightThrough_16 : decode cX6_rightThrough 16 = .ok (.invokevirtual 74, 3) := by decide +kernel
theorem dX6_rightThrough_19 : decode cX6_rightThrough 19 = .ok (.istore 4, 2) := by decide +kernel
theorem dX6_rightThrough_21 : decode cX6_rightThrough 21 = .ok (.aload_n 0, 1) := by decide +kernel
theorem dX6_rightThrough_22 : decode cX6_rightThrough 22 = .ok (.getfield 7, 3) := by decide +kernel
theorem dX6_rightThrough_25 : decode cX6_rightThrough 25 = .ok (.iconst 2, 1) := by decide +kernel
theorem dX6_rightThrough_26 : decode cX6_rightThrough 26 = .ok (.iload_n 3, 1) := by decide +kernel
theorem dX6_rightThrough_27 : decode cX6_rightThrough 27 = .ok (.iastore, 1) := by decide +kernel
theorem dX6_rightThrough_28 : decode cX6_rightThrough 28 = .ok (.iload 4, 2) := by decide +kernel
theorem dX6_rightThrough_30 : decode cX6_rightThrough 30 = .ok (.ireturn, 1) := by decide +kernel
theorem dX6_bestWindow_0 : decode cX6_bestWindow 0 = .ok (.iload_n 1, 1) := by decide +kernel
theorem dX6_bestWindow_1 : decode cX6_bestWindow 1 = .ok (.invokestatic 78, 3) := by decide +kernel
theorem dX6_bestWindow_4 : decode cX6_bestWindow 4 = .ok (.ifCond .ne 5, 3) := by decide +kernel
theorem dX6_bestWindow_7 : decode cX6_bestWindow 7 = .ok (.iconst (-1), 1) := by decide +kernel
theorem dX6_bestWindow_8 : decode cX6_bestWindow 8 = .ok (.ireturn, 1) := by decide +kernel
theorem dX6_bestWindow_9 : decode cX6_bestWindow 9 = .ok (.iconst 0, 1) := by decide +kernel
theorem dX6_bestWindow_10 : decode cX6_bestWindow 10 = .ok (.istore_n 2, 1) := by decide +kernel
theorem dX6_bestWindow_11 : decode cX6_bestWindow 11 = .ok (.iconst 1, 1) := by decide +kernel
theorem dX6_bestWindow_12 : decode cX6_bestWindow 12 = .ok (.istore_n 3, 1) := by decide +kernel
theorem dX6_bestWindow_13 : decode cX6_bestWindow 13 = .ok (.iload_n 3, 1) := by decide +kernel
theorem dX6_bestWindow_14 : decode cX6_bestWindow 14 = .ok (.iconst 4, 1) := by decide +kernel
theorem dX6_bestWindow_15 : decode cX6_bestWindow 15 = .ok (.if_icmp .ge 30, 3) := by decide +kernel
theorem dX6_bestWindow_18 : decode cX6_bestWindow 18 = .ok (.aload_n 0, 1) := by decide +kernel
theorem dX6_bestWindow_19 : decode cX6_bestWindow 19 = .ok (.iload_n 1, 1) := by decide +kernel
theorem dX6_bestWindow_20 : decode cX6_bestWindow 20 = .ok (.iload_n 3, 1) := by decide +kernel
theorem dX6_bestWindow_21 : decode cX6_bestWindow 21 = .ok (.invokevirtual 208, 3) := by decide +kernel
theorem dX6_bestWindow_24 : decode cX6_bestWindow 24 = .ok (.aload_n 0, 1) := by decide +kernel
theorem dX6_bestWindow_25 : decode cX6_bestWindow 25 = .ok (.iload_n 1, 1) := by decide +kernel
theorem dX6_bestWindow_26 : decode cX6_bestWindow 26 = .ok (.iload_n 2, 1) := by decide +kernel
theorem dX6_bestWindow_27 : decode cX6_bestWindow 27 = .ok (.invokevirtual 208, 3) := by decide +kernel
theorem dX6_bestWindow_30 : decode cX6_bestWindow 30 = .ok (.if_icmp .le 7, 3) := by decide +kernel
theorem dX6_bestWindow_33 : decode cX6_bestWindow 33 = .ok (.iload_n 3, 1) := by decide +kernel
theorem dX6_bestWindow_34 : decode cX6_bestWindow 34 = .ok (.goto 4, 3) := by decide +kernel
theorem dX6_bestWindow_37 : decode cX6_bestWindow 37 = .ok (.iload_n 2, 1) := by decide +kernel
theorem dX6_bestWindow_38 : decode cX6_bestWindow 38 = .ok (.istore_n 2, 1) := by decide +kernel
theorem dX6_bestWindow_39 : decode cX6_bestWindow 39 = .ok (.iinc 3 1, 3) := by decide +kernel
theorem dX6_bestWindow_42 : decode cX6_bestWindow 42 = .ok (.goto (-29), 3) := by decide +kernel
theorem dX6_bestWindow_45 : decode cX6_bestWindow 45 = .ok (.iload_n 2, 1) := by decide +kernel
theorem dX6_bestWindow_46 : decode cX6_bestWindow 46 = .ok (.ireturn, 1) := by decide +kernel
theorem dX6_alike_0 : decode cX6_alike 0 = .ok (.iload_n 1, 1) := by decide +kernel
theorem dX6_alike_1 : decode cX6_alike 1 = .ok (.invokestatic 78, 3) := by decide +kernel
theorem dX6_alike_4 : decode cX6_alike 4 = .ok (.ifCond .eq 19, 3) := by decide +kernel
theorem dX6_alike_7 : decode cX6_alike 7 = .ok (.iload_n 2, 1) := by decide +kernel
theorem dX6_alike_8 : decode cX6_alike 8 = .ok (.invokestatic 78, 3) := by decide +kernel
theorem dX6_alike_11 : decode cX6_alike 11 = .ok (.ifCond .eq 12, 3) := by decide +kernel
theorem dX6_alike_14 : decode cX6_alike 14 = .ok (.aload_n 0, 1) := by decide +kernel
theorem dX6_alike_15 : decode cX6_alike 15 = .ok (.iload_n 1, 1) := by decide +kernel
theorem dX6_alike_16 : decode cX6_alike 16 = .ok (.iload_n 2, 1) := by decide +kernel
theorem dX6_alike_17 : decode cX6_alike 17 = .ok (.invokevirtual 188, 3) := by decide +kernel
theorem dX6_alike_20 : decode cX6_alike 20 = .ok (.goto 4, 3) := by decide +kernel
theorem dX6_alike_23 : decode cX6_alike 23 = .ok (.iconst (-1), 1) := by decide +kernel
theorem dX6_alike_24 : decode cX6_alike 24 = .ok (.ireturn, 1) := by decide +kernel
theorem dX6_undo_0 : decode cX6_undo 0 = .ok (.aload_n 0, 1) := by decide +kernel
theorem dX6_undo_1 : decode cX6_undo 1 = .ok (.getfield 39, 3) := by decide +kernel
theorem dX6_undo_4 : decode cX6_undo 4 = .ok (.ifCond .ne 6, 3) := by decide +kernel
theorem dX6_undo_7 : decode cX6_undo 7 = .ok (.bipush (-2), 2) := by decide +kernel
theorem dX6_undo_9 : decode cX6_undo 9 = .ok (.ireturn, 1) := by decide +kernel
theorem dX6_undo_10 : decode cX6_undo 10 = .ok (.aload_n 0, 1) := by decide +kernel
theorem dX6_undo_11 : decode cX6_undo 11 = .ok (.dup, 1) := by decide +kernel
theorem dX6_undo_12 : decode cX6_undo 12 = .ok (.getfield 39, 3) := by decide +kernel
theorem dX6_undo_15 : decode cX6_undo 15 = .ok (.iconst 1, 1) := by decide +kernel
theorem dX6_undo_16 : decode cX6_undo 16 = .ok (.isub, 1) := by decide +kernel
theorem dX6_undo_17 : decode cX6_undo 17 = .ok (.putfield 39, 3) := by decide +kernel
theorem dX6_undo_20 : decode cX6_undo 20 = .ok (.iconst 0, 1) := by decide +kernel
theorem dX6_undo_21 : decode cX6_undo 21 = .ok (.istore_n 1, 1) := by decide +kernel
theorem dX6_undo_22 : decode cX6_undo 22 = .ok (.iload_n 1, 1) := by decide +kernel
theorem dX6_undo_23 : decode cX6_undo 23 = .ok (.sipush 800, 3) := by decide +kernel
theorem dX6_undo_26 : decode cX6_undo 26 = .ok (.if_icmp .ge 30, 3) := by decide +kernel
theorem dX6_undo_29 : decode cX6_undo 29 = .ok (.aload_n 0, 1) := by decide +kernel
theorem dX6_undo_30 : decode cX6_undo 30 = .ok (.getfield 7, 3) := by decide +kernel
theorem dX6_undo_33 : decode cX6_undo 33 = .ok (.iload_n 1, 1) := by decide +kernel
theorem dX6_undo_34 : decode cX6_undo 34 = .ok (.aload_n 0, 1) := by decide +kernel
theorem dX6_undo_35 : decode cX6_undo 35 = .ok (.getfield 16, 3) := by decide +kernel
theorem dX6_undo_38 : decode cX6_undo 38 = .ok (.sipush 800, 3) := by decide +kernel
theorem dX6_undo_41 : decode cX6_undo 41 = .ok (.aload_n 0, 1) := by decide +kernel
theorem dX6_undo_42 : decode cX6_undo 42 = .ok (.getfield 39, 3) := by decide +kernel
theorem dX6_undo_45 : decode cX6_undo 45 = .ok (.imul, 1) := by decide +kernel
theorem dX6_undo_46 : decode cX6_undo 46 = .ok (.iload_n 1, 1) := by decide +kernel
theorem dX6_undo_47 : decode cX6_undo 47 = .ok (.iadd, 1) := by decide +kernel
theorem dX6_undo_48 : decode cX6_undo 48 = .ok (.iaload, 1) := by decide +kernel
theorem dX6_undo_49 : decode cX6_undo 49 = .ok (.iastore, 1) := by decide +kernel
theorem dX6_undo_50 : decode cX6_undo 50 = .ok (.iinc 1 1, 3) := by decide +kernel
theorem dX6_undo_53 : decode cX6_undo 53 = .ok (.goto (-31), 3) := by decide +kernel
theorem dX6_undo_56 : decode cX6_undo 56 = .ok (.aload_n 0, 1) := by decide +kernel
theorem dX6_undo_57 : decode cX6_undo 57 = .ok (.getfield 39, 3) := by decide +kernel
theorem dX6_undo_60 : decode cX6_undo 60 = .ok (.ireturn, 1) := by decide +kernel
theorem dX6_save_0 : decode cX6_save 0 = .ok (.iconst 0, 1) := by decide +kernel
theorem dX6_save_1 : decode cX6_save 1 = .ok (.istore_n 1, 1) := by decide +kernel
theorem dX6_save_2 : decode cX6_save 2 = .ok (.iload_n 1, 1) := by decide +kernel
theorem dX6_save_3 : decode cX6_save 3 = .ok (.sipush 800, 3) := by decide +kernel
theorem dX6_save_6 : decode cX6_save 6 = .ok (.if_icmp .ge 21, 3) := by decide +kernel
theorem dX6_save_9 : decode cX6_save 9 = .ok (.aload_n 0, 1) := by decide +kernel
theorem dX6_save_10 : decode cX6_save 10 = .ok (.getfield 19, 3) := by decide +kernel
theorem dX6_save_13 : decode cX6_save 13 = .ok (.iload_n 1, 1) := by decide +kernel
theorem dX6_save_14 : decode cX6_save 14 = .ok (.aload_n 0, 1) := by decide +kernel
theorem dX6_save_15 : decode cX6_save 15 = .ok (.getfield 7, 3) := by decide +kernel
theorem dX6_save_18 : decode cX6_save 18 = .ok (.iload_n 1, 1) := by decide +kernel
theorem dX6_save_19 : decode cX6_save 19 = .ok (.iaload, 1) := by decide +kernel
theorem dX6_save_20 : decode cX6_save 20 = .ok (.iastore, 1) := by decide +kernel
theorem dX6_save_21 : decode cX6_save 21 = .ok (.iinc 1 1, 3) := by decide +kernel
theorem dX6_save_24 : decode cX6_save 24 = .ok (.goto (-22), 3) := by decide +kernel
theorem dX6_save_27 : decode cX6_save 27 = .ok (.aload_n 0, 1) := by decide +kernel
theorem dX6_save_28 : decode cX6_save 28 = .ok (.iconst 1, 1) := by decide +kernel
theorem dX6_save_29 : decode cX6_save 29 = .ok (.putfield 211, 3) := by decide +kernel
theorem dX6_save_32 : decode cX6_save 32 = .ok (.aload_n 0, 1) := by decide +kernel
theorem dX6_save_33 : decode cX6_save 33 = .ok (.invokevirtual 214, 3) := by decide +kernel
theorem dX6_save_36 : decode cX6_save 36 = .ok (.ireturn, 1) := by decide +kernel
theorem dX6_restore_0 : decode cX6_restore 0 = .ok (.aload_n 0, 1) := by decide +kernel
theorem dX6_restore_1 : decode cX6_restore 1 = .ok (.getfield 211, 3) := by decide +kernel
theorem dX6_restore_4 : decode cX6_restore 4 = .ok (.ifCond .ne 6, 3) := by decide +kernel
theorem dX6_restore_7 : decode cX6_restore 7 = .ok (.bipush (-2), 2) := by decide +kernel
theorem dX6_restore_9 : decode cX6_restore 9 = .ok (.ireturn, 1) := by decide +kernel
theorem dX6_restore_10 : decode cX6_restore 10 = .ok (.aload_n 0, 1) := by decide +kernel
theorem dX6_restore_11 : decode cX6_restore 11 = .ok (.invokevirtual 81, 3) := by decide +kernel
theorem dX6_restore_14 : decode cX6_restore 14 = .ok (.iconst 0, 1) := by decide +kernel
theorem dX6_restore_15 : decode cX6_restore 15 = .ok (.istore_n 1, 1) := by decide +kernel
theorem dX6_restore_16 : decode cX6_restore 16 = .ok (.iload_n 1, 1) := by decide +kernel
theorem dX6_restore_17 : decode cX6_restore 17 = .ok (.sipush 800, 3) := by decide +kernel
theorem dX6_restore_20 : decode cX6_restore 20 = .ok (.if_icmp .ge 21, 3) := by decide +kernel
theorem dX6_restore_23 : decode cX6_restore 23 = .ok (.aload_n 0, 1) := by decide +kernel
theorem dX6_restore_24 : decode cX6_restore 24 = .ok (.getfield 7, 3) := by decide +kernel
theorem dX6_restore_27 : decode cX6_restore 27 = .ok (.iload_n 1, 1) := by decide +kernel
theorem dX6_restore_28 : decode cX6_restore 28 = .ok (.aload_n 0, 1) := by decide +kernel
theorem dX6_restore_29 : decode cX6_restore 29 = .ok (.getfield 19, 3) := by decide +kernel
theorem dX6_restore_32 : decode cX6_restore 32 = .ok (.iload_n 1, 1) := by decide +kernel
theorem dX6_restore_33 : decode cX6_restore 33 = .ok (.iaload, 1) := by decide +kernel
theorem dX6_restore_34 : decode cX6_restore 34 = .ok (.iastore, 1) := by decide +kernel
theorem dX6_restore_35 : decode cX6_restore 35 = .ok (.iinc 1 1, 3) := by decide +kernel
theorem dX6_restore_38 : decode cX6_restore 38 = .ok (.goto (-22), 3) := by decide +kernel
theorem dX6_restore_41 : decode cX6_restore 41 = .ok (.aload_n 0, 1) := by decide +kernel
theorem dX6_restore_42 : decode cX6_restore 42 = .ok (.invokevirtual 214, 3) := by decide +kernel
theorem dX6_restore_45 : decode cX6_restore 45 = .ok (.ireturn, 1) := by decide +kernel
theorem dJ6_bitCount_0f7a4_0 : decode cJ6_bitCount_0f7a4 0 = .ok (.iload_n 0, 1) := by decide +kernel
theorem dJ6_bitCount_0f7a4_1 : decode cJ6_bitCount_0f7a4 1 = .ok (.iload_n 0, 1) := by decide +kernel
theorem dJ6_bitCount_0f7a4_2 : decode cJ6_bitCount_0f7a4 2 = .ok (.iconst 1, 1) := by decide +kernel
theorem dJ6_bitCount_0f7a4_3 : decode cJ6_bitCount_0f7a4 3 = .ok (.iushr, 1) := by decide +kernel
theorem dJ6_bitCount_0f7a4_4 : decode cJ6_bitCount_0f7a4 4 = .ok (.ldc_w 265, 3) := by decide +kernel
theorem dJ6_bitCount_0f7a4_7 : decode cJ6_bitCount_0f7a4 7 = .ok (.iand, 1) := by decide +kernel
theorem dJ6_bitCount_0f7a4_8 : decode cJ6_bitCount_0f7a4 8 = .ok (.isub, 1) := by decide +kernel
theorem dJ6_bitCount_0f7a4_9 : decode cJ6_bitCount_0f7a4 9 = .ok (.istore_n 0, 1) := by decide +kernel
theorem dJ6_bitCount_0f7a4_10 : decode cJ6_bitCount_0f7a4 10 = .ok (.iload_n 0, 1) := by decide +kernel
theorem dJ6_bitCount_0f7a4_11 : decode cJ6_bitCount_0f7a4 11 = .ok (.ldc_w 266, 3) := by decide +kernel
theorem dJ6_bitCount_0f7a4_14 : decode cJ6_bitCount_0f7a4 14 = .ok (.iand, 1) := by decide +kernel
theorem dJ6_bitCount_0f7a4_15 : decode cJ6_bitCount_0f7a4 15 = .ok (.iload_n 0, 1) := by decide +kernel
theorem dJ6_bitCount_0f7a4_16 : decode cJ6_bitCount_0f7a4 16 = .ok (.iconst 2, 1) := by decide +kernel
theorem dJ6_bitCount_0f7a4_17 : decode cJ6_bitCount_0f7a4 17 = .ok (.iushr, 1) := by decide +kernel
theorem dJ6_bitCount_0f7a4_18 : decode cJ6_bitCount_0f7a4 18 = .ok (.ldc_w 266, 3) := by decide +kernel
theorem dJ6_bitCount_0f7a4_21 : decode cJ6_bitCount_0f7a4 21 = .ok (.iand, 1) := by decide +kernel
theorem dJ6_bitCount_0f7a4_22 : decode cJ6_bitCount_0f7a4 22 = .ok (.iadd, 1) := by decide +kernel
theorem dJ6_bitCount_0f7a4_23 : decode cJ6_bitCount_0f7a4 23 = .ok (.istore_n 0, 1) := by decide +kernel
theorem dJ6_bitCount_0f7a4_24 : decode cJ6_bitCount_0f7a4 24 = .ok (.iload_n 0, 1) := by decide +kernel
theorem dJ6_bitCount_0f7a4_25 : decode cJ6_bitCount_0f7a4 25 = .ok (.iload_n 0, 1) := by decide +kernel
theorem dJ6_bitCount_0f7a4_26 : decode cJ6_bitCount_0f7a4 26 = .ok (.iconst 4, 1) := by decide +kernel
theorem dJ6_bitCount_0f7a4_27 : decode cJ6_bitCount_0f7a4 27 = .ok (.iushr, 1) := by decide +kernel
theorem dJ6_bitCount_0f7a4_28 : decode cJ6_bitCount_0f7a4 28 = .ok (.iadd, 1) := by decide +kernel
theorem dJ6_bitCount_0f7a4_29 : decode cJ6_bitCount_0f7a4 29 = .ok (.ldc_w 267, 3) := by decide +kernel
theorem dJ6_bitCount_0f7a4_32 : decode cJ6_bitCount_0f7a4 32 = .ok (.iand, 1) := by decide +kernel
theorem dJ6_bitCount_0f7a4_33 : decode cJ6_bitCount_0f7a4 33 = .ok (.istore_n 0, 1) := by decide +kernel
theorem dJ6_bitCount_0f7a4_34 : decode cJ6_bitCount_0f7a4 34 = .ok (.iload_n 0, 1) := by decide +kernel
theorem dJ6_bitCount_0f7a4_35 : decode cJ6_bitCount_0f7a4 35 = .ok (.iload_n 0, 1) := by decide +kernel
theorem dJ6_bitCount_0f7a4_36 : decode cJ6_bitCount_0f7a4 36 = .ok (.bipush 8, 2) := by decide +kernel
theorem dJ6_bitCount_0f7a4_38 : decode cJ6_bitCount_0f7a4 38 = .ok (.iushr, 1) := by decide +kernel
theorem dJ6_bitCount_0f7a4_39 : decode cJ6_bitCount_0f7a4 39 = .ok (.iadd, 1) := by decide +kernel
theorem dJ6_bitCount_0f7a4_40 : decode cJ6_bitCount_0f7a4 40 = .ok (.istore_n 0, 1) := by decide +kernel
theorem dJ6_bitCount_0f7a4_41 : decode cJ6_bitCount_0f7a4 41 = .ok (.iload_n 0, 1) := by decide +kernel
theorem dJ6_bitCount_0f7a4_42 : decode cJ6_bitCount_0f7a4 42 = .ok (.iload_n 0, 1) := by decide +kernel
theorem dJ6_bitCount_0f7a4_43 : decode cJ6_bitCount_0f7a4 43 = .ok (.bipush 16, 2) := by decide +kernel
theorem dJ6_bitCount_0f7a4_45 : decode cJ6_bitCount_0f7a4 45 = .ok (.iushr, 1) := by decide +kernel
theorem dJ6_bitCount_0f7a4_46 : decode cJ6_bitCount_0f7a4 46 = .ok (.iadd, 1) := by decide +kernel
theorem dJ6_bitCount_0f7a4_47 : decode cJ6_bitCount_0f7a4 47 = .ok (.istore_n 0, 1) := by decide +kernel
theorem dJ6_bitCount_0f7a4_48 : decode cJ6_bitCount_0f7a4 48 = .ok (.iload_n 0, 1) := by decide +kernel
theorem dJ6_bitCount_0f7a4_49 : decode cJ6_bitCount_0f7a4 49 = .ok (.bipush 63, 2) := by decide +kernel
theorem dJ6_bitCount_0f7a4_51 : decode cJ6_bitCount_0f7a4 51 = .ok (.iand, 1) := by decide +kernel
theorem dJ6_bitCount_0f7a4_52 : decode cJ6_bitCount_0f7a4 52 = .ok (.ireturn, 1) := by decide +kernel
theorem dJ9_abs_0f7a4_0 : decode cJ9_abs_0f7a4 0 = .ok (.iload_n 0, 1) := by decide +kernel
theorem dJ9_abs_0f7a4_1 : decode cJ9_abs_0f7a4 1 = .ok (.ifCond .ge 8, 3) := by decide +kernel
theorem dJ9_abs_0f7a4_4 : decode cJ9_abs_0f7a4 4 = .ok (.iload_n 0, 1) := by decide +kernel
theorem dJ9_abs_0f7a4_5 : decode cJ9_abs_0f7a4 5 = .ok (.ineg, 1) := by decide +kernel
theorem dJ9_abs_0f7a4_6 : decode cJ9_abs_0f7a4 6 = .ok (.goto 4, 3) := by decide +kernel
theorem dJ9_abs_0f7a4_9 : decode cJ9_abs_0f7a4 9 = .ok (.iload_n 0, 1) := by decide +kernel
theorem dJ9_abs_0f7a4_10 : decode cJ9_abs_0f7a4 10 = .ok (.ireturn, 1) := by decide +kernel
theorem dJ9_max_7cf53_0 : decode cJ9_max_7cf53 0 = .ok (.iload_n 0, 1) := by decide +kernel
theorem dJ9_max_7cf53_1 : decode cJ9_max_7cf53 1 = .ok (.iload_n 1, 1) := by decide +kernel
theorem dJ9_max_7cf53_2 : decode cJ9_max_7cf53 2 = .ok (.if_icmp .lt 7, 3) := by decide +kernel
theorem dJ9_max_7cf53_5 : decode cJ9_max_7cf53 5 = .ok (.iload_n 0, 1) := by decide +kernel
theorem dJ9_max_7cf53_6 : decode cJ9_max_7cf53 6 = .ok (.goto 4, 3) := by decide +kernel
theorem dJ9_max_7cf53_9 : decode cJ9_max_7cf53 9 = .ok (.iload_n 1, 1) := by decide +kernel
theorem dJ9_max_7cf53_10 : decode cJ9_max_7cf53 10 = .ok (.ireturn, 1) := by decide +kernel
theorem dJ9_min_7cf53_0 : decode cJ9_min_7cf53 0 = .ok (.iload_n 0, 1) := by decide +kernel
theorem dJ9_min_7cf53_1 : decode cJ9_min_7cf53 1 = .ok (.iload_n 1, 1) := by decide +kernel
theorem dJ9_min_7cf53_2 : decode cJ9_min_7cf53 2 = .ok (.if_icmp .gt 7, 3) := by decide +kernel
theorem dJ9_min_7cf53_5 : decode cJ9_min_7cf53 5 = .ok (.iload_n 0, 1) := by decide +kernel
theorem dJ9_min_7cf53_6 : decode cJ9_min_7cf53 6 = .ok (.goto 4, 3) := by decide +kernel
theorem dJ9_min_7cf53_9 : decode cJ9_min_7cf53 9 = .ok (.iload_n 1, 1) := by decide +kernel
theorem dJ9_min_7cf53_10 : decode cJ9_min_7cf53 10 = .ok (.ireturn, 1) := by decide +kernel
theorem dJ7_fill_53178_0 : decode cJ7_fill_53178 0 = .ok (.iconst 0, 1) := by decide +kernel
theorem dJ7_fill_53178_1 : decode cJ7_fill_53178 1 = .ok (.istore_n 2, 1) := by decide +kernel
theorem dJ7_fill_53178_2 : decode cJ7_fill_53178 2 = .ok (.aload_n 0, 1) := by decide +kernel
theorem dJ7_fill_53178_3 : decode cJ7_fill_53178 3 = .ok (.arraylength, 1) := by decide +kernel
theorem dJ7_fill_53178_4 : decode cJ7_fill_53178 4 = .ok (.istore_n 3, 1) := by decide +kernel
theorem dJ7_fill_53178_5 : decode cJ7_fill_53178 5 = .ok (.iload_n 2, 1) := by decide +kernel
theorem dJ7_fill_53178_6 : decode cJ7_fill_53178 6 = .ok (.iload_n 3, 1) := by decide +kernel
theorem dJ7_fill_53178_7 : decode cJ7_fill_53178 7 = .ok (.if_icmp .ge 13, 3) := by decide +kernel
theorem dJ7_fill_53178_10 : decode cJ7_fill_53178 10 = .ok (.aload_n 0, 1) := by decide +kernel
theorem dJ7_fill_53178_11 : decode cJ7_fill_53178 11 = .ok (.iload_n 2, 1) := by decide +kernel
theorem dJ7_fill_53178_12 : decode cJ7_fill_53178 12 = .ok (.iload_n 1, 1) := by decide +kernel
theorem dJ7_fill_53178_13 : decode cJ7_fill_53178 13 = .ok (.iastore, 1) := by decide +kernel
theorem dJ7_fill_53178_14 : decode cJ7_fill_53178 14 = .ok (.iinc 2 1, 3) := by decide +kernel
theorem dJ7_fill_53178_17 : decode cJ7_fill_53178 17 = .ok (.goto (-12), 3) := by decide +kernel
theorem dJ7_fill_53178_20 : decode cJ7_fill_53178 20 = .ok (.return_, 1) := by decide +kernel
theorem dL_law_0 : decode cL_law 0 = .ok (.new 7, 3) := by decide +kernel
theorem dL_law_3 : decode cL_law 3 = .ok (.dup, 1) := by decide +kernel
theorem dL_law_4 : decode cL_law 4 = .ok (.invokespecial 9, 3) := by decide +kernel
theorem dL_law_7 : decode cL_law 7 = .ok (.astore_n 1, 1) := by decide +kernel
theorem dL_law_8 : decode cL_law 8 = .ok (.new 10, 3) := by decide +kernel
theorem dL_law_11 : decode cL_law 11 = .ok (.dup, 1) := by decide +kernel
theorem dL_law_12 : decode cL_law 12 = .ok (.invokespecial 12, 3) := by decide +kernel
theorem dL_law_15 : decode cL_law 15 = .ok (.astore_n 2, 1) := by decide +kernel
theorem dL_law_16 : decode cL_law 16 = .ok (.iconst 0, 1) := by decide +kernel
theorem dL_law_17 : decode cL_law 17 = .ok (.istore_n 3, 1) := by decide +kernel
theorem dL_law_18 : decode cL_law 18 = .ok (.iload_n 3, 1) := by decide +kernel
theorem dL_law_19 : decode cL_law 19 = .ok (.aload_n 0, 1) := by decide +kernel
theorem dL_law_20 : decode cL_law 20 = .ok (.arraylength, 1) := by decide +kernel
theorem dL_law_21 : decode cL_law 21 = .ok (.bipush 6, 2) := by decide +kernel
theorem dL_law_23 : decode cL_law 23 = .ok (.isub, 1) := by decide +kernel
theorem dL_law_24 : decode cL_law 24 = .ok (.if_icmp .gt 1163, 3) := by decide +kernel
theorem dL_law_27 : decode cL_law 27 = .ok (.aload_n 0, 1) := by decide +kernel
theorem dL_law_28 : decode cL_law 28 = .ok (.iload_n 3, 1) := by decide +kernel
theorem dL_law_29 : decode cL_law 29 = .ok (.iaload, 1) := by decide +kernel
theorem dL_law_30 : decode cL_law 30 = .ok (.bipush 63, 2) := by decide +kernel
theorem dL_law_32 : decode cL_law 32 = .ok (.iand, 1) := by decide +kernel
theorem dL_law_33 : decode cL_law 33 = .ok (.tableswitch 1148 0 34 #[155, 218, 251, 284, 307, 330, 343, 386, 409, 442, 465, 488, 501, 524, 537, 550, 563, 606, 649, 682, 715, 748, 771, 804, 817, 840, 893, 944, 997, 1030, 1053, 1076, 1109, 1122, 1135], 155) := by decide +kernel
theorem dL_law_188 : decode cL_law 188 = .ok (.aload_n 1, 1) := by decide +kernel
theorem dL_law_189 : decode cL_law 189 = .ok (.aload_n 0, 1) := by decide +kernel
theorem dL_law_190 : decode cL_law 190 = .ok (.iload_n 3, 1) := by decide +kernel
theorem dL_law_191 : decode cL_law 191 = .ok (.iconst 1, 1) := by decide +kernel
theorem dL_law_192 : decode cL_law 192 = .ok (.iadd, 1) := by decide +kernel
theorem dL_law_193 : decode cL_law 193 = .ok (.iaload, 1) := by decide +kernel
theorem dL_law_194 : decode cL_law 194 = .ok (.aload_n 0, 1) := by decide +kernel
theorem dL_law_195 : decode cL_law 195 = .ok (.iload_n 3, 1) := by decide +kernel
theorem dL_law_196 : decode cL_law 196 = .ok (.iconst 2, 1) := by decide +kernel
theorem dL_law_197 : decode cL_law 197 = .ok (.iadd, 1) := by decide +kernel
theorem dL_law_198 : decode cL_law 198 = .ok (.iaload, 1) := by decide +kernel
theorem dL_law_199 : decode cL_law 199 = .ok (.aload_n 0, 1) := by decide +kernel
theorem dL_law_200 : decode cL_law 200 = .ok (.iload_n 3, 1) := by decide +kernel
theorem dL_law_201 : decode cL_law 201 = .ok (.iconst 3, 1) := by decide +kernel
theorem dL_law_202 : decode cL_law 202 = .ok (.iadd, 1) := by decide +kernel
theorem dL_law_203 : decode cL_law 203 = .ok (.iaload, 1) := by decide +kernel
theorem dL_law_204 : decode cL_law 204 = .ok (.aload_n 0, 1) := by decide +kernel
theorem dL_law_205 : decode cL_law 205 = .ok (.iload_n 3, 1) := by decide +kernel
theorem dL_law_206 : decode cL_law 206 = .ok (.iconst 4, 1) := by decide +kernel
theorem dL_law_207 : decode cL_law 207 = .ok (.iadd, 1) := by decide +kernel
theorem dL_law_208 : decode cL_law 208 = .ok (.iaload, 1) := by decide +kernel
theorem dL_law_209 : decode cL_law 209 = .ok (.aload_n 0, 1) := by decide +kernel
theorem dL_law_210 : decode cL_law 210 = .ok (.iload_n 3, 1) := by decide +kernel
theorem dL_law_211 : decode cL_law 211 = .ok (.iconst 5, 1) := by decide +kernel
theorem dL_law_212 : decode cL_law 212 = .ok (.iadd, 1) := by decide +kernel
theorem dL_law_213 : decode cL_law 213 = .ok (.iaload, 1) := by decide +kernel
theorem dL_law_214 : decode cL_law 214 = .ok (.invokevirtual 13, 3) := by decide +kernel
theorem dL_law_217 : decode cL_law 217 = .ok (.aload_n 2, 1) := by decide +kernel
theorem dL_law_218 : decode cL_law 218 = .ok (.aload_n 0, 1) := by decide +kernel
theorem dL_law_219 : decode cL_law 219 = .ok (.iload_n 3, 1) := by decide +kernel
theorem dL_law_220 : decode cL_law 220 = .ok (.iconst 1, 1) := by decide +kernel
theorem dL_law_221 : decode cL_law 221 = .ok (.iadd, 1) := by decide +kernel
theorem dL_law_222 : decode cL_law 222 = .ok (.iaload, 1) := by decide +kernel
theorem dL_law_223 : decode cL_law 223 = .ok (.aload_n 0, 1) := by decide +kernel
theorem dL_law_224 : decode cL_law 224 = .ok (.iload_n 3, 1) := by decide +kernel
theorem dL_law_225 : decode cL_law 225 = .ok (.iconst 2, 1) := by decide +kernel
theorem dL_law_226 : decode cL_law 226 = .ok (.iadd, 1) := by decide +kernel
theorem dL_law_227 : decode cL_law 227 = .ok (.iaload, 1) := by decide +kernel
theorem dL_law_228 : decode cL_law 228 = .ok (.aload_n 0, 1) := by decide +kernel
theorem dL_law_229 : decode cL_law 229 = .ok (.iload_n 3, 1) := by decide +kernel
theorem dL_law_230 : decode cL_law 230 = .ok (.iconst 3, 1) := by decide +kernel
theorem dL_law_231 : decode cL_law 231 = .ok (.iadd, 1) := by decide +kernel
theorem dL_law_232 : decode cL_law 232 = .ok (.iaload, 1) := by decide +kernel
theorem dL_law_233 : decode cL_law 233 = .ok (.aload_n 0, 1) := by decide +kernel
theorem dL_law_234 : decode cL_law 234 = .ok (.iload_n 3, 1) := by decide +kernel
theorem dL_law_235 : decode cL_law 235 = .ok (.iconst 4, 1) := by decide +kernel
theorem dL_law_236 : decode cL_law 236 = .ok (.iadd, 1) := by decide +kernel
theorem dL_law_237 : decode cL_law 237 = .ok (.iaload, 1) := by decide +kernel
theorem dL_law_238 : decode cL_law 238 = .ok (.aload_n 0, 1) := by decide +kernel
theorem dL_law_239 : decode cL_law 239 = .ok (.iload_n 3, 1) := by decide +kernel
theorem dL_law_240 : decode cL_law 240 = .ok (.iconst 5, 1) := by decide +kernel
theorem dL_law_241 : decode cL_law 241 = .ok (.iadd, 1) := by decide +kernel
theorem dL_law_242 : decode cL_law 242 = .ok (.iaload, 1) := by decide +kernel
theorem dL_law_243 : decode cL_law 243 = .ok (.invokevirtual 17, 3) := by decide +kernel
theorem dL_law_246 : decode cL_law 246 = .ok (.if_icmp .eq 935, 3) := by decide +kernel
theorem dL_law_249 : decode cL_law 249 = .ok (.iconst 0, 1) := by decide +kernel
theorem dL_law_250 : decode cL_law 250 = .ok (.ireturn, 1) := by decide +kernel
theorem dL_law_251 : decode cL_law 251 = .ok (.aload_n 1, 1) := by decide +kernel
theorem dL_law_252 : decode cL_law 252 = .ok (.aload_n 0, 1) := by decide +kernel
theorem dL_law_253 : decode cL_law 253 = .ok (.iload_n 3, 1) := by decide +kernel
theorem dL_law_254 : decode cL_law 254 = .ok (.iconst 1, 1) := by decide +kernel
theorem dL_law_255 : decode cL_law 255 = .ok (.iadd, 1) := by decide +kernel
theorem dL_law_256 : decode cL_law 256 = .ok (.iaload, 1) := by decide +kernel
theorem dL_law_257 : decode cL_law 257 = .ok (.aload_n 0, 1) := by decide +kernel
theorem dL_law_258 : decode cL_law 258 = .ok (.iload_n 3, 1) := by decide +kernel
theorem dL_law_259 : decode cL_law 259 = .ok (.iconst 2, 1) := by decide +kernel
theorem dL_law_260 : decode cL_law 260 = .ok (.iadd, 1) := by decide +kernel
theorem dL_law_261 : decode cL_law 261 = .ok (.iaload, 1) := by decide +kernel
theorem dL_law_262 : decode cL_law 262 = .ok (.invokevirtual 18, 3) := by decide +kernel
theorem dL_law_265 : decode cL_law 265 = .ok (.aload_n 2, 1) := by decide +kernel
theorem dL_law_266 : decode cL_law 266 = .ok (.aload_n 0, 1) := by decide +kernel
theorem dL_law_267 : decode cL_law 267 = .ok (.iload_n 3, 1) := by decide +kernel
theorem dL_law_268 : decode cL_law 268 = .ok (.iconst 1, 1) := by decide +kernel
theorem dL_law_269 : decode cL_law 269 = .ok (.iadd, 1) := by decide +kernel
theorem dL_law_270 : decode cL_law 270 = .ok (.iaload, 1) := by decide +kernel
theorem dL_law_271 : decode cL_law 271 = .ok (.aload_n 0, 1) := by decide +kernel
theorem dL_law_272 : decode cL_law 272 = .ok (.iload_n 3, 1) := by decide +kernel
theorem dL_law_273 : decode cL_law 273 = .ok (.iconst 2, 1) := by decide +kernel
theorem dL_law_274 : decode cL_law 274 = .ok (.iadd, 1) := by decide +kernel
theorem dL_law_275 : decode cL_law 275 = .ok (.iaload, 1) := by decide +kernel
theorem dL_law_276 : decode cL_law 276 = .ok (.invokevirtual 22, 3) := by decide +kernel
theorem dL_law_279 : decode cL_law 279 = .ok (.if_icmp .eq 902, 3) := by decide +kernel
theorem dL_law_282 : decode cL_law 282 = .ok (.iconst 0, 1) := by decide +kernel
theorem dL_law_283 : decode cL_law 283 = .ok (.ireturn, 1) := by decide +kernel
theorem dL_law_284 : decode cL_law 284 = .ok (.aload_n 1, 1) := by decide +kernel
theorem dL_law_285 : decode cL_law 285 = .ok (.aload_n 0, 1) := by decide +kernel
theorem dL_law_286 : decode cL_law 286 = .ok (.iload_n 3, 1) := by decide +kernel
theorem dL_law_287 : decode cL_law 287 = .ok (.iconst 1, 1) := by decide +kernel
theorem dL_law_288 : decode cL_law 288 = .ok (.iadd, 1) := by decide +kernel
theorem dL_law_289 : decode cL_law 289 = .ok (.iaload, 1) := by decide +kernel
theorem dL_law_290 : decode cL_law 290 = .ok (.aload_n 0, 1) := by decide +kernel
theorem dL_law_291 : decode cL_law 291 = .ok (.iload_n 3, 1) := by decide +kernel
theorem dL_law_292 : decode cL_law 292 = .ok (.iconst 2, 1) := by decide +kernel
theorem dL_law_293 : decode cL_law 293 = .ok (.iadd, 1) := by decide +kernel
theorem dL_law_294 : decode cL_law 294 = .ok (.iaload, 1) := by decide +kernel
theorem dL_law_295 : decode cL_law 295 = .ok (.invokevirtual 23, 3) := by decide +kernel
theorem dL_law_298 : decode cL_law 298 = .ok (.aload_n 2, 1) := by decide +kernel
theorem dL_law_299 : decode cL_law 299 = .ok (.aload_n 0, 1) := by decide +kernel
theorem dL_law_300 : decode cL_law 300 = .ok (.iload_n 3, 1) := by decide +kernel
theorem dL_law_301 : decode cL_law 301 = .ok (.iconst 1, 1) := by decide +kernel
theorem dL_law_302 : decode cL_law 302 = .ok (.iadd, 1) := by decide +kernel
theorem dL_law_303 : decode cL_law 303 = .ok (.iaload, 1) := by decide +kernel
theorem dL_law_304 : decode cL_law 304 = .ok (.aload_n 0, 1) := by decide +kernel
theorem dL_law_305 : decode cL_law 305 = .ok (.iload_n 3, 1) := by decide +kernel
theorem dL_law_306 : decode cL_law 306 = .ok (.iconst 2, 1) := by decide +kernel
theorem dL_law_307 : decode cL_law 307 = .ok (.iadd, 1) := by decide +kernel
theorem dL_law_308 : decode cL_law 308 = .ok (.iaload, 1) := by decide +kernel
theorem dL_law_309 : decode cL_law 309 = .ok (.invokevirtual 26, 3) := by decide +kernel
theorem dL_law_312 : decode cL_law 312 = .ok (.if_icmp .eq 869, 3) := by decide +kernel
theorem dL_law_315 : decode cL_law 315 = .ok (.iconst 0, 1) := by decide +kernel
theorem dL_law_316 : decode cL_law 316 = .ok (.ireturn, 1) := by decide +kernel
theorem dL_law_317 : decode cL_law 317 = .ok (.aload_n 1, 1) := by decide +kernel
theorem dL_law_318 : decode cL_law 318 = .ok (.aload_n 0, 1) := by decide +kernel
theorem dL_law_319 : decode cL_law 319 = .ok (.iload_n 3, 1) := by decide +kernel
theorem dL_law_320 : decode cL_law 320 = .ok (.iconst 1, 1) := by decide +kernel
theorem dL_law_321 : decode cL_law 321 = .ok (.iadd, 1) := by decide +kernel
theorem dL_law_322 : decode cL_law 322 = .ok (.iaload, 1) := by decide +kernel
theorem dL_law_323 : decode cL_law 323 = .ok (.invokevirtual 27, 3) := by decide +kernel
theorem dL_law_326 : decode cL_law 326 = .ok (.aload_n 2, 1) := by decide +kernel
theorem dL_law_327 : decode cL_law 327 = .ok (.aload_n 0, 1) := by decide +kernel
theorem dL_law_328 : decode cL_law 328 = .ok (.iload_n 3, 1) := by decide +kernel
theorem dL_law_329 : decode cL_law 329 = .ok (.iconst 1, 1) := by decide +kernel
theorem dL_law_330 : decode cL_law 330 = .ok (.iadd, 1) := by decide +kernel
theorem dL_law_331 : decode cL_law 331 = .ok (.iaload, 1) := by decide +kernel
theorem dL_law_332 : decode cL_law 332 = .ok (.invokevirtual 31, 3) := by decide +kernel
theorem dL_law_335 : decode cL_law 335 = .ok (.if_icmp .eq 846, 3) := by decide +kernel
theorem dL_law_338 : decode cL_law 338 = .ok (.iconst 0, 1) := by decide +kernel
theorem dL_law_339 : decode cL_law 339 = .ok (.ireturn, 1) := by decide +kernel
theorem dL_law_340 : decode cL_law 340 = .ok (.aload_n 1, 1) := by decide +kernel
theorem dL_law_341 : decode cL_law 341 = .ok (.aload_n 0, 1) := by decide +kernel
theorem dL_law_342 : decode cL_law 342 = .ok (.iload_n 3, 1) := by decide +kernel
theorem dL_law_343 : decode cL_law 343 = .ok (.iconst 1, 1) := by decide +kernel
theorem dL_law_344 : decode cL_law 344 = .ok (.iadd, 1) := by decide +kernel
theorem dL_law_345 : decode cL_law 345 = .ok (.iaload, 1) := by decide +kernel
theorem dL_law_346 : decode cL_law 346 = .ok (.invokevirtual 32, 3) := by decide +kernel
theorem dL_law_349 : decode cL_law 349 = .ok (.aload_n 2, 1) := by decide +kernel
theorem dL_law_350 : decode cL_law 350 = .ok (.aload_n 0, 1) := by decide +kernel
theorem dL_law_351 : decode cL_law 351 = .ok (.iload_n 3, 1) := by decide +kernel
theorem dL_law_352 : decode cL_law 352 = .ok (.iconst 1, 1) := by decide +kernel
theorem dL_law_353 : decode cL_law 353 = .ok (.iadd, 1) := by decide +kernel
theorem dL_law_354 : decode cL_law 354 = .ok (.iaload, 1) := by decide +kernel
theorem dL_law_355 : decode cL_law 355 = .ok (.invokevirtual 35, 3) := by decide +kernel
theorem dL_law_358 : decode cL_law 358 = .ok (.if_icmp .eq 823, 3) := by decide +kernel
theorem dL_law_361 : decode cL_law 361 = .ok (.iconst 0, 1) := by decide +kernel
theorem dL_law_362 : decode cL_law 362 = .ok (.ireturn, 1) := by decide +kernel
theorem dL_law_363 : decode cL_law 363 = .ok (.aload_n 1, 1) := by decide +kernel
theorem dL_law_364 : decode cL_law 364 = .ok (.invokevirtual 36, 3) := by decide +kernel
theorem dL_law_367 : decode cL_law 367 = .ok (.aload_n 2, 1) := by decide +kernel
theorem dL_law_368 : decode cL_law 368 = .ok (.invokevirtual 40, 3) := by decide +kernel
theorem dL_law_371 : decode cL_law 371 = .ok (.if_icmp .eq 810, 3) := by decide +kernel
theorem dL_law_374 : decode cL_law 374 = .ok (.iconst 0, 1) := by decide +kernel
theorem dL_law_375 : decode cL_law 375 = .ok (.ireturn, 1) := by decide +kernel
theorem dL_law_376 : decode cL_law 376 = .ok (.aload_n 1, 1) := by decide +kernel
theorem dL_law_377 : decode cL_law 377 = .ok (.aload_n 0, 1) := by decide +kernel
theorem dL_law_378 : decode cL_law 378 = .ok (.iload_n 3, 1) := by decide +kernel
theorem dL_law_379 : decode cL_law 379 = .ok (.iconst 1, 1) := by decide +kernel
theorem dL_law_380 : decode cL_law 380 = .ok (.iadd, 1) := by decide +kernel
theorem dL_law_381 : decode cL_law 381 = .ok (.iaload, 1) := by decide +kernel
theorem dL_law_382 : decode cL_law 382 = .ok (.aload_n 0, 1) := by decide +kernel
theorem dL_law_383 : decode cL_law 383 = .ok (.iload_n 3, 1) := by decide +kernel
theorem dL_law_384 : decode cL_law 384 = .ok (.iconst 2, 1) := by decide +kernel
theorem dL_law_385 : decode cL_law 385 = .ok (.iadd, 1) := by decide +kernel
theorem dL_law_386 : decode cL_law 386 = .ok (.iaload, 1) := by decide +kernel
theorem dL_law_387 : decode cL_law 387 = .ok (.aload_n 0, 1) := by decide +kernel
theorem dL_law_388 : decode cL_law 388 = .ok (.iload_n 3, 1) := by decide +kernel
theorem dL_law_389 : decode cL_law 389 = .ok (.iconst 3, 1) := by decide +kernel
theorem dL_law_390 : decode cL_law 390 = .ok (.iadd, 1) := by decide +kernel
theorem dL_law_391 : decode cL_law 391 = .ok (.iaload, 1) := by decide +kernel
theorem dL_law_392 : decode cL_law 392 = .ok (.invokevirtual 41, 3) := by decide +kernel
theorem dL_law_395 : decode cL_law 395 = .ok (.aload_n 2, 1) := by decide +kernel
theorem dL_law_396 : decode cL_law 396 = .ok (.aload_n 0, 1) := by decide +kernel
theorem dL_law_397 : decode cL_law 397 = .ok (.iload_n 3, 1) := by decide +kernel
theorem dL_law_398 : decode cL_law 398 = .ok (.iconst 1, 1) := by decide +kernel
theorem dL_law_399 : decode cL_law 399 = .ok (.iadd, 1) := by decide +kernel
theorem dL_law_400 : decode cL_law 400 = .ok (.iaload, 1) := by decide +kernel
theorem dL_law_401 : decode cL_law 401 = .ok (.aload_n 0, 1) := by decide +kernel
theorem dL_law_402 : decode cL_law 402 = .ok (.iload_n 3, 1) := by decide +kernel
theorem dL_law_403 : decode cL_law 403 = .ok (.iconst 2, 1) := by decide +kernel
theorem dL_law_404 : decode cL_law 404 = .ok (.iadd, 1) := by decide +kernel
theorem dL_law_405 : decode cL_law 405 = .ok (.iaload, 1) := by decide +kernel
theorem dL_law_406 : decode cL_law 406 = .ok (.aload_n 0, 1) := by decide +kernel
theorem dL_law_407 : decode cL_law 407 = .ok (.iload_n 3, 1) := by decide +kernel
theorem dL_law_408 : decode cL_law 408 = .ok (.iconst 3, 1) := by decide +kernel
theorem dL_law_409 : decode cL_law 409 = .ok (.iadd, 1) := by decide +kernel
theorem dL_law_410 : decode cL_law 410 = .ok (.iaload, 1) := by decide +kernel
theorem dL_law_411 : decode cL_law 411 = .ok (.invokevirtual 45, 3) := by decide +kernel
theorem dL_law_414 : decode cL_law 414 = .ok (.if_icmp .eq 767, 3) := by decide +kernel
theorem dL_law_417 : decode cL_law 417 = .ok (.iconst 0, 1) := by decide +kernel
theorem dL_law_418 : decode cL_law 418 = .ok (.ireturn, 1) := by decide +kernel
theorem dL_law_419 : decode cL_law 419 = .ok (.aload_n 1, 1) := by decide +kernel
theorem dL_law_420 : decode cL_law 420 = .ok (.aload_n 0, 1) := by decide +kernel
theorem dL_law_421 : decode cL_law 421 = .ok (.iload_n 3, 1) := by decide +kernel
theorem dL_law_422 : decode cL_law 422 = .ok (.iconst 1, 1) := by decide +kernel
theorem dL_law_423 : decode cL_law 423 = .ok (.iadd, 1) := by decide +kernel
theorem dL_law_424 : decode cL_law 424 = .ok (.iaload, 1) := by decide +kernel
theorem dL_law_425 : decode cL_law 425 = .ok (.invokevirtual 46, 3) := by decide +kernel
theorem dL_law_428 : decode cL_law 428 = .ok (.aload_n 2, 1) := by decide +kernel
theorem dL_law_429 : decode cL_law 429 = .ok (.aload_n 0, 1) := by decide +kernel
theorem dL_law_430 : decode cL_law 430 = .ok (.iload_n 3, 1) := by decide +kernel
theorem dL_law_431 : decode cL_law 431 = .ok (.iconst 1, 1) := by decide +kernel
theorem dL_law_432 : decode cL_law 432 = .ok (.iadd, 1) := by decide +kernel
theorem dL_law_433 : decode cL_law 433 = .ok (.iaload, 1) := by decide +kernel
theorem dL_law_434 : decode cL_law 434 = .ok (.invokevirtual 49, 3) := by decide +kernel
theorem dL_law_437 : decode cL_law 437 = .ok (.if_icmp .eq 744, 3) := by decide +kernel
theorem dL_law_440 : decode cL_law 440 = .ok (.iconst 0, 1) := by decide +kernel
theorem dL_law_441 : decode cL_law 441 = .ok (.ireturn, 1) := by decide +kernel
theorem dL_law_442 : decode cL_law 442 = .ok (.aload_n 1, 1) := by decide +kernel
theorem dL_law_443 : decode cL_law 443 = .ok (.aload_n 0, 1) := by decide +kernel
theorem dL_law_444 : decode cL_law 444 = .ok (.iload_n 3, 1) := by decide +kernel
theorem dL_law_445 : decode cL_law 445 = .ok (.iconst 1, 1) := by decide +kernel
theorem dL_law_446 : decode cL_law 446 = .ok (.iadd, 1) := by decide +kernel
theorem dL_law_447 : decode cL_law 447 = .ok (.iaload, 1) := by decide +kernel
theorem dL_law_448 : decode cL_law 448 = .ok (.aload_n 0, 1) := by decide +kernel
theorem dL_law_449 : decode cL_law 449 = .ok (.iload_n 3, 1) := by decide +kernel
theorem dL_law_450 : decode cL_law 450 = .ok (.iconst 2, 1) := by decide +kernel
theorem dL_law_451 : decode cL_law 451 = .ok (.iadd, 1) := by decide +kernel
theorem dL_law_452 : decode cL_law 452 = .ok (.iaload, 1) := by decide +kernel
theorem dL_law_453 : decode cL_law 453 = .ok (.invokevirtual 50, 3) := by decide +kernel
theorem dL_law_456 : decode cL_law 456 = .ok (.aload_n 2, 1) := by decide +kernel
theorem dL_law_457 : decode cL_law 457 = .ok (.aload_n 0, 1) := by decide +kernel
theorem dL_law_458 : decode cL_law 458 = .ok (.iload_n 3, 1) := by decide +kernel
theorem dL_law_459 : decode cL_law 459 = .ok (.iconst 1, 1) := by decide +kernel
theorem dL_law_460 : decode cL_law 460 = .ok (.iadd, 1) := by decide +kernel
theorem dL_law_461 : decode cL_law 461 = .ok (.iaload, 1) := by decide +kernel
theorem dL_law_462 : decode cL_law 462 = .ok (.aload_n 0, 1) := by decide +kernel
theorem dL_law_463 : decode cL_law 463 = .ok (.iload_n 3, 1) := by decide +kernel
theorem dL_law_464 : decode cL_law 464 = .ok (.iconst 2, 1) := by decide +kernel
theorem dL_law_465 : decode cL_law 465 = .ok (.iadd, 1) := by decide +kernel
theorem dL_law_466 : decode cL_law 466 = .ok (.iaload, 1) := by decide +kernel
theorem dL_law_467 : decode cL_law 467 = .ok (.invokevirtual 53, 3) := by decide +kernel
theorem dL_law_470 : decode cL_law 470 = .ok (.if_icmp .eq 711, 3) := by decide +kernel
theorem dL_law_473 : decode cL_law 473 = .ok (.iconst 0, 1) := by decide +kernel
theorem dL_law_474 : decode cL_law 474 = .ok (.ireturn, 1) := by decide +kernel
theorem dL_law_475 : decode cL_law 475 = .ok (.aload_n 1, 1) := by decide +kernel
theorem dL_law_476 : decode cL_law 476 = .ok (.aload_n 0, 1) := by decide +kernel
theorem dL_law_477 : decode cL_law 477 = .ok (.iload_n 3, 1) := by decide +kernel
theorem dL_law_478 : decode cL_law 478 = .ok (.iconst 1, 1) := by decide +kernel
theorem dL_law_479 : decode cL_law 479 = .ok (.iadd, 1) := by decide +kernel
theorem dL_law_480 : decode cL_law 480 = .ok (.iaload, 1) := by decide +kernel
theorem dL_law_481 : decode cL_law 481 = .ok (.invokevirtual 54, 3) := by decide +kernel
theorem dL_law_484 : decode cL_law 484 = .ok (.aload_n 2, 1) := by decide +kernel
theorem dL_law_485 : decode cL_law 485 = .ok (.aload_n 0, 1) := by decide +kernel
theorem dL_law_486 : decode cL_law 486 = .ok (.iload_n 3, 1) := by decide +kernel
theorem dL_law_487 : decode cL_law 487 = .ok (.iconst 1, 1) := by decide +kernel
theorem dL_law_488 : decode cL_law 488 = .ok (.iadd, 1) := by decide +kernel
theorem dL_law_489 : decode cL_law 489 = .ok (.iaload, 1) := by decide +kernel
theorem dL_law_490 : decode cL_law 490 = .ok (.invokevirtual 57, 3) := by decide +kernel
theorem dL_law_493 : decode cL_law 493 = .ok (.if_icmp .eq 688, 3) := by decide +kernel
theorem dL_law_496 : decode cL_law 496 = .ok (.iconst 0, 1) := by decide +kernel
theorem dL_law_497 : decode cL_law 497 = .ok (.ireturn, 1) := by decide +kernel
theorem dL_law_498 : decode cL_law 498 = .ok (.aload_n 1, 1) := by decide +kernel
theorem dL_law_499 : decode cL_law 499 = .ok (.aload_n 0, 1) := by decide +kernel
theorem dL_law_500 : decode cL_law 500 = .ok (.iload_n 3, 1) := by decide +kernel
theorem dL_law_501 : decode cL_law 501 = .ok (.iconst 1, 1) := by decide +kernel
theorem dL_law_502 : decode cL_law 502 = .ok (.iadd, 1) := by decide +kernel
theorem dL_law_503 : decode cL_law 503 = .ok (.iaload, 1) := by decide +kernel
theorem dL_law_504 : decode cL_law 504 = .ok (.invokevirtual 58, 3) := by decide +kernel
theorem dL_law_507 : decode cL_law 507 = .ok (.aload_n 2, 1) := by decide +kernel
theorem dL_law_508 : decode cL_law 508 = .ok (.aload_n 0, 1) := by decide +kernel
theorem dL_law_509 : decode cL_law 509 = .ok (.iload_n 3, 1) := by decide +kernel
theorem dL_law_510 : decode cL_law 510 = .ok (.iconst 1, 1) := by decide +kernel
theorem dL_law_511 : decode cL_law 511 = .ok (.iadd, 1) := by decide +kernel
theorem dL_law_512 : decode cL_law 512 = .ok (.iaload, 1) := by decide +kernel
theorem dL_law_513 : decode cL_law 513 = .ok (.invokevirtual 61, 3) := by decide +kernel
theorem dL_law_516 : decode cL_law 516 = .ok (.if_icmp .eq 665, 3) := by decide +kernel
theorem dL_law_519 : decode cL_law 519 = .ok (.iconst 0, 1) := by decide +kernel
theorem dL_law_520 : decode cL_law 520 = .ok (.ireturn, 1) := by decide +kernel
theorem dL_law_521 : decode cL_law 521 = .ok (.aload_n 1, 1) := by decide +kernel
theorem dL_law_522 : decode cL_law 522 = .ok (.invokevirtual 62, 3) := by decide +kernel
theorem dL_law_525 : decode cL_law 525 = .ok (.aload_n 2, 1) := by decide +kernel
theorem dL_law_526 : decode cL_law 526 = .ok (.invokevirtual 65, 3) := by decide +kernel
theorem dL_law_529 : decode cL_law 529 = .ok (.if_icmp .eq 652, 3) := by decide +kernel
theorem dL_law_532 : decode cL_law 532 = .ok (.iconst 0, 1) := by decide +kernel
theorem dL_law_533 : decode cL_law 533 = .ok (.ireturn, 1) := by decide +kernel
theorem dL_law_534 : decode cL_law 534 = .ok (.aload_n 1, 1) := by decide +kernel
theorem dL_law_535 : decode cL_law 535 = .ok (.aload_n 0, 1) := by decide +kernel
theorem dL_law_536 : decode cL_law 536 = .ok (.iload_n 3, 1) := by decide +kernel
theorem dL_law_537 : decode cL_law 537 = .ok (.iconst 1, 1) := by decide +kernel
theorem dL_law_538 : decode cL_law 538 = .ok (.iadd, 1) := by decide +kernel
theorem dL_law_539 : decode cL_law 539 = .ok (.iaload, 1) := by decide +kernel
theorem dL_law_540 : decode cL_law 540 = .ok (.invokevirtual 66, 3) := by decide +kernel
theorem dL_law_543 : decode cL_law 543 = .ok (.aload_n 2, 1) := by decide +kernel
theorem dL_law_544 : decode cL_law 544 = .ok (.aload_n 0, 1) := by decide +kernel
theorem dL_law_545 : decode cL_law 545 = .ok (.iload_n 3, 1) := by decide +kernel
theorem dL_law_546 : decode cL_law 546 = .ok (.iconst 1, 1) := by decide +kernel
theorem dL_law_547 : decode cL_law 547 = .ok (.iadd, 1) := by decide +kernel
theorem dL_law_548 : decode cL_law 548 = .ok (.iaload, 1) := by decide +kernel
theorem dL_law_549 : decode cL_law 549 = .ok (.invokevirtual 69, 3) := by decide +kernel
theorem dL_law_552 : decode cL_law 552 = .ok (.if_icmp .eq 629, 3) := by decide +kernel
theorem dL_law_555 : decode cL_law 555 = .ok (.iconst 0, 1) := by decide +kernel
theorem dL_law_556 : decode cL_law 556 = .ok (.ireturn, 1) := by decide +kernel
theorem dL_law_557 : decode cL_law 557 = .ok (.aload_n 1, 1) := by decide +kernel
theorem dL_law_558 : decode cL_law 558 = .ok (.invokevirtual 70, 3) := by decide +kernel
theorem dL_law_561 : decode cL_law 561 = .ok (.aload_n 2, 1) := by decide +kernel
theorem dL_law_562 : decode cL_law 562 = .ok (.invokevirtual 73, 3) := by decide +kernel
theorem dL_law_565 : decode cL_law 565 = .ok (.if_icmp .eq 616, 3) := by decide +kernel
theorem dL_law_568 : decode cL_law 568 = .ok (.iconst 0, 1) := by decide +kernel
theorem dL_law_569 : decode cL_law 569 = .ok (.ireturn, 1) := by decide +kernel
theorem dL_law_570 : decode cL_law 570 = .ok (.aload_n 1, 1) := by decide +kernel
theorem dL_law_571 : decode cL_law 571 = .ok (.invokevirtual 74, 3) := by decide +kernel
theorem dL_law_574 : decode cL_law 574 = .ok (.aload_n 2, 1) := by decide +kernel
theorem dL_law_575 : decode cL_law 575 = .ok (.invokevirtual 77, 3) := by decide +kernel
theorem dL_law_578 : decode cL_law 578 = .ok (.if_icmp .eq 603, 3) := by decide +kernel
theorem dL_law_581 : decode cL_law 581 = .ok (.iconst 0, 1) := by decide +kernel
theorem dL_law_582 : decode cL_law 582 = .ok (.ireturn, 1) := by decide +kernel
theorem dL_law_583 : decode cL_law 583 = .ok (.aload_n 1, 1) := by decide +kernel
theorem dL_law_584 : decode cL_law 584 = .ok (.invokevirtual 78, 3) := by decide +kernel
theorem dL_law_587 : decode cL_law 587 = .ok (.aload_n 2, 1) := by decide +kernel
theorem dL_law_588 : decode cL_law 588 = .ok (.invokevirtual 81, 3) := by decide +kernel
theorem dL_law_591 : decode cL_law 591 = .ok (.if_icmp .eq 590, 3) := by decide +kernel
theorem dL_law_594 : decode cL_law 594 = .ok (.iconst 0, 1) := by decide +kernel
theorem dL_law_595 : decode cL_law 595 = .ok (.ireturn, 1) := by decide +kernel
theorem dL_law_596 : decode cL_law 596 = .ok (.aload_n 1, 1) := by decide +kernel
theorem dL_law_597 : decode cL_law 597 = .ok (.aload_n 0, 1) := by decide +kernel
theorem dL_law_598 : decode cL_law 598 = .ok (.iload_n 3, 1) := by decide +kernel
theorem dL_law_599 : decode cL_law 599 = .ok (.iconst 1, 1) := by decide +kernel
theorem dL_law_600 : decode cL_law 600 = .ok (.iadd, 1) := by decide +kernel
theorem dL_law_601 : decode cL_law 601 = .ok (.iaload, 1) := by decide +kernel
theorem dL_law_602 : decode cL_law 602 = .ok (.aload_n 0, 1) := by decide +kernel
theorem dL_law_603 : decode cL_law 603 = .ok (.iload_n 3, 1) := by decide +kernel
theorem dL_law_604 : decode cL_law 604 = .ok (.iconst 2, 1) := by decide +kernel
theorem dL_law_605 : decode cL_law 605 = .ok (.iadd, 1) := by decide +kernel
theorem dL_law_606 : decode cL_law 606 = .ok (.iaload, 1) := by decide +kernel
theorem dL_law_607 : decode cL_law 607 = .ok (.aload_n 0, 1) := by decide +kernel
theorem dL_law_608 : decode cL_law 608 = .ok (.iload_n 3, 1) := by decide +kernel
theorem dL_law_609 : decode cL_law 609 = .ok (.iconst 3, 1) := by decide +kernel
theorem dL_law_610 : decode cL_law 610 = .ok (.iadd, 1) := by decide +kernel
theorem dL_law_611 : decode cL_law 611 = .ok (.iaload, 1) := by decide +kernel
theorem dL_law_612 : decode cL_law 612 = .ok (.invokevirtual 82, 3) := by decide +kernel
theorem dL_law_615 : decode cL_law 615 = .ok (.aload_n 2, 1) := by decide +kernel
theorem dL_law_616 : decode cL_law 616 = .ok (.aload_n 0, 1) := by decide +kernel
theorem dL_law_617 : decode cL_law 617 = .ok (.iload_n 3, 1) := by decide +kernel
theorem dL_law_618 : decode cL_law 618 = .ok (.iconst 1, 1) := by decide +kernel
theorem dL_law_619 : decode cL_law 619 = .ok (.iadd, 1) := by decide +kernel
theorem dL_law_620 : decode cL_law 620 = .ok (.iaload, 1) := by decide +kernel
theorem dL_law_621 : decode cL_law 621 = .ok (.aload_n 0, 1) := by decide +kernel
theorem dL_law_622 : decode cL_law 622 = .ok (.iload_n 3, 1) := by decide +kernel
theorem dL_law_623 : decode cL_law 623 = .ok (.iconst 2, 1) := by decide +kernel
theorem dL_law_624 : decode cL_law 624 = .ok (.iadd, 1) := by decide +kernel
theorem dL_law_625 : decode cL_law 625 = .ok (.iaload, 1) := by decide +kernel
theorem dL_law_626 : decode cL_law 626 = .ok (.aload_n 0, 1) := by decide +kernel
theorem dL_law_627 : decode cL_law 627 = .ok (.iload_n 3, 1) := by decide +kernel
theorem dL_law_628 : decode cL_law 628 = .ok (.iconst 3, 1) := by decide +kernel
theorem dL_law_629 : decode cL_law 629 = .ok (.iadd, 1) := by decide +kernel
theorem dL_law_630 : decode cL_law 630 = .ok (.iaload, 1) := by decide +kernel
theorem dL_law_631 : decode cL_law 631 = .ok (.invokevirtual 85, 3) := by decide +kernel
theorem dL_law_634 : decode cL_law 634 = .ok (.if_icmp .eq 547, 3) := by decide +kernel
theorem dL_law_637 : decode cL_law 637 = .ok (.iconst 0, 1) := by decide +kernel
theorem dL_law_638 : decode cL_law 638 = .ok (.ireturn, 1) := by decide +kernel
theorem dL_law_639 : decode cL_law 639 = .ok (.aload_n 1, 1) := by decide +kernel
theorem dL_law_640 : decode cL_law 640 = .ok (.aload_n 0, 1) := by decide +kernel
theorem dL_law_641 : decode cL_law 641 = .ok (.iload_n 3, 1) := by decide +kernel
theorem dL_law_642 : decode cL_law 642 = .ok (.iconst 1, 1) := by decide +kernel
theorem dL_law_643 : decode cL_law 643 = .ok (.iadd, 1) := by decide +kernel
theorem dL_law_644 : decode cL_law 644 = .ok (.iaload, 1) := by decide +kernel
theorem dL_law_645 : decode cL_law 645 = .ok (.aload_n 0, 1) := by decide +kernel
theorem dL_law_646 : decode cL_law 646 = .ok (.iload_n 3, 1) := by decide +kernel
theorem dL_law_647 : decode cL_law 647 = .ok (.iconst 2, 1) := by decide +kernel
theorem dL_law_648 : decode cL_law 648 = .ok (.iadd, 1) := by decide +kernel
theorem dL_law_649 : decode cL_law 649 = .ok (.iaload, 1) := by decide +kernel
theorem dL_law_650 : decode cL_law 650 = .ok (.aload_n 0, 1) := by decide +kernel
theorem dL_law_651 : decode cL_law 651 = .ok (.iload_n 3, 1) := by decide +kernel
theorem dL_law_652 : decode cL_law 652 = .ok (.iconst 3, 1) := by decide +kernel
theorem dL_law_653 : decode cL_law 653 = .ok (.iadd, 1) := by decide +kernel
theorem dL_law_654 : decode cL_law 654 = .ok (.iaload, 1) := by decide +kernel
theorem dL_law_655 : decode cL_law 655 = .ok (.invokevirtual 86, 3) := by decide +kernel
theorem dL_law_658 : decode cL_law 658 = .ok (.aload_n 2, 1) := by decide +kernel
theorem dL_law_659 : decode cL_law 659 = .ok (.aload_n 0, 1) := by decide +kernel
theorem dL_law_660 : decode cL_law 660 = .ok (.iload_n 3, 1) := by decide +kernel
theorem dL_law_661 : decode cL_law 661 = .ok (.iconst 1, 1) := by decide +kernel
theorem dL_law_662 : decode cL_law 662 = .ok (.iadd, 1) := by decide +kernel
theorem dL_law_663 : decode cL_law 663 = .ok (.iaload, 1) := by decide +kernel
theorem dL_law_664 : decode cL_law 664 = .ok (.aload_n 0, 1) := by decide +kernel
theorem dL_law_665 : decode cL_law 665 = .ok (.iload_n 3, 1) := by decide +kernel
theorem dL_law_666 : decode cL_law 666 = .ok (.iconst 2, 1) := by decide +kernel
theorem dL_law_667 : decode cL_law 667 = .ok (.iadd, 1) := by decide +kernel
theorem dL_law_668 : decode cL_law 668 = .ok (.iaload, 1) := by decide +kernel
theorem dL_law_669 : decode cL_law 669 = .ok (.aload_n 0, 1) := by decide +kernel
theorem dL_law_670 : decode cL_law 670 = .ok (.iload_n 3, 1) := by decide +kernel
theorem dL_law_671 : decode cL_law 671 = .ok (.iconst 3, 1) := by decide +kernel
theorem dL_law_672 : decode cL_law 672 = .ok (.iadd, 1) := by decide +kernel
theorem dL_law_673 : decode cL_law 673 = .ok (.iaload, 1) := by decide +kernel
theorem dL_law_674 : decode cL_law 674 = .ok (.invokevirtual 89, 3) := by decide +kernel
theorem dL_law_677 : decode cL_law 677 = .ok (.if_icmp .eq 504, 3) := by decide +kernel
theorem dL_law_680 : decode cL_law 680 = .ok (.iconst 0, 1) := by decide +kernel
theorem dL_law_681 : decode cL_law 681 = .ok (.ireturn, 1) := by decide +kernel
theorem dL_law_682 : decode cL_law 682 = .ok (.aload_n 1, 1) := by decide +kernel
theorem dL_law_683 : decode cL_law 683 = .ok (.aload_n 0, 1) := by decide +kernel
theorem dL_law_684 : decode cL_law 684 = .ok (.iload_n 3, 1) := by decide +kernel
theorem dL_law_685 : decode cL_law 685 = .ok (.iconst 1, 1) := by decide +kernel
theorem dL_law_686 : decode cL_law 686 = .ok (.iadd, 1) := by decide +kernel
theorem dL_law_687 : decode cL_law 687 = .ok (.iaload, 1) := by decide +kernel
theorem dL_law_688 : decode cL_law 688 = .ok (.aload_n 0, 1) := by decide +kernel
theorem dL_law_689 : decode cL_law 689 = .ok (.iload_n 3, 1) := by decide +kernel
theorem dL_law_690 : decode cL_law 690 = .ok (.iconst 2, 1) := by decide +kernel
theorem dL_law_691 : decode cL_law 691 = .ok (.iadd, 1) := by decide +kernel
theorem dL_law_692 : decode cL_law 692 = .ok (.iaload, 1) := by decide +kernel
theorem dL_law_693 : decode cL_law 693 = .ok (.invokevirtual 90, 3) := by decide +kernel
theorem dL_law_696 : decode cL_law 696 = .ok (.aload_n 2, 1) := by decide +kernel
theorem dL_law_697 : decode cL_law 697 = .ok (.aload_n 0, 1) := by decide +kernel
theorem dL_law_698 : decode cL_law 698 = .ok (.iload_n 3, 1) := by decide +kernel
theorem dL_law_699 : decode cL_law 699 = .ok (.iconst 1, 1) := by decide +kernel
theorem dL_law_700 : decode cL_law 700 = .ok (.iadd, 1) := by decide +kernel
theorem dL_law_701 : decode cL_law 701 = .ok (.iaload, 1) := by decide +kernel
theorem dL_law_702 : decode cL_law 702 = .ok (.aload_n 0, 1) := by decide +kernel
theorem dL_law_703 : decode cL_law 703 = .ok (.iload_n 3, 1) := by decide +kernel
theorem dL_law_704 : decode cL_law 704 = .ok (.iconst 2, 1) := by decide +kernel
theorem dL_law_705 : decode cL_law 705 = .ok (.iadd, 1) := by decide +kernel
theorem dL_law_706 : decode cL_law 706 = .ok (.iaload, 1) := by decide +kernel
theorem dL_law_707 : decode cL_law 707 = .ok (.invokevirtual 93, 3) := by decide +kernel
theorem dL_law_710 : decode cL_law 710 = .ok (.if_icmp .eq 471, 3) := by decide +kernel
theorem dL_law_713 : decode cL_law 713 = .ok (.iconst 0, 1) := by decide +kernel
theorem dL_law_714 : decode cL_law 714 = .ok (.ireturn, 1) := by decide +kernel
theorem dL_law_715 : decode cL_law 715 = .ok (.aload_n 1, 1) := by decide +kernel
theorem dL_law_716 : decode cL_law 716 = .ok (.aload_n 0, 1) := by decide +kernel
theorem dL_law_717 : decode cL_law 717 = .ok (.iload_n 3, 1) := by decide +kernel
theorem dL_law_718 : decode cL_law 718 = .ok (.iconst 1, 1) := by decide +kernel
theorem dL_law_719 : decode cL_law 719 = .ok (.iadd, 1) := by decide +kernel
theorem dL_law_720 : decode cL_law 720 = .ok (.iaload, 1) := by decide +kernel
theorem dL_law_721 : decode cL_law 721 = .ok (.aload_n 0, 1) := by decide +kernel
theorem dL_law_722 : decode cL_law 722 = .ok (.iload_n 3, 1) := by decide +kernel
theorem dL_law_723 : decode cL_law 723 = .ok (.iconst 2, 1) := by decide +kernel
theorem dL_law_724 : decode cL_law 724 = .ok (.iadd, 1) := by decide +kernel
theorem dL_law_725 : decode cL_law 725 = .ok (.iaload, 1) := by decide +kernel
theorem dL_law_726 : decode cL_law 726 = .ok (.invokevirtual 94, 3) := by decide +kernel
theorem dL_law_729 : decode cL_law 729 = .ok (.aload_n 2, 1) := by decide +kernel
theorem dL_law_730 : decode cL_law 730 = .ok (.aload_n 0, 1) := by decide +kernel
theorem dL_law_731 : decode cL_law 731 = .ok (.iload_n 3, 1) := by decide +kernel
theorem dL_law_732 : decode cL_law 732 = .ok (.iconst 1, 1) := by decide +kernel
theorem dL_law_733 : decode cL_law 733 = .ok (.iadd, 1) := by decide +kernel
theorem dL_law_734 : decode cL_law 734 = .ok (.iaload, 1) := by decide +kernel
theorem dL_law_735 : decode cL_law 735 = .ok (.aload_n 0, 1) := by decide +kernel
theorem dL_law_736 : decode cL_law 736 = .ok (.iload_n 3, 1) := by decide +kernel
theorem dL_law_737 : decode cL_law 737 = .ok (.iconst 2, 1) := by decide +kernel
theorem dL_law_738 : decode cL_law 738 = .ok (.iadd, 1) := by decide +kernel
theorem dL_law_739 : decode cL_law 739 = .ok (.iaload, 1) := by decide +kernel
theorem dL_law_740 : decode cL_law 740 = .ok (.invokevirtual 97, 3) := by decide +kernel
theorem dL_law_743 : decode cL_law 743 = .ok (.if_icmp .eq 438, 3) := by decide +kernel
theorem dL_law_746 : decode cL_law 746 = .ok (.iconst 0, 1) := by decide +kernel
theorem dL_law_747 : decode cL_law 747 = .ok (.ireturn, 1) := by decide +kernel
theorem dL_law_748 : decode cL_law 748 = .ok (.aload_n 1, 1) := by decide +kernel
theorem dL_law_749 : decode cL_law 749 = .ok (.aload_n 0, 1) := by decide +kernel
theorem dL_law_750 : decode cL_law 750 = .ok (.iload_n 3, 1) := by decide +kernel
theorem dL_law_751 : decode cL_law 751 = .ok (.iconst 1, 1) := by decide +kernel
theorem dL_law_752 : decode cL_law 752 = .ok (.iadd, 1) := by decide +kernel
theorem dL_law_753 : decode cL_law 753 = .ok (.iaload, 1) := by decide +kernel
theorem dL_law_754 : decode cL_law 754 = .ok (.aload_n 0, 1) := by decide +kernel
theorem dL_law_755 : decode cL_law 755 = .ok (.iload_n 3, 1) := by decide +kernel
theorem dL_law_756 : decode cL_law 756 = .ok (.iconst 2, 1) := by decide +kernel
theorem dL_law_757 : decode cL_law 757 = .ok (.iadd, 1) := by decide +kernel
theorem dL_law_758 : decode cL_law 758 = .ok (.iaload, 1) := by decide +kernel
theorem dL_law_759 : decode cL_law 759 = .ok (.invokevirtual 98, 3) := by decide +kernel
theorem dL_law_762 : decode cL_law 762 = .ok (.aload_n 2, 1) := by decide +kernel
theorem dL_law_763 : decode cL_law 763 = .ok (.aload_n 0, 1) := by decide +kernel
theorem dL_law_764 : decode cL_law 764 = .ok (.iload_n 3, 1) := by decide +kernel
theorem dL_law_765 : decode cL_law 765 = .ok (.iconst 1, 1) := by decide +kernel
theorem dL_law_766 : decode cL_law 766 = .ok (.iadd, 1) := by decide +kernel
theorem dL_law_767 : decode cL_law 767 = .ok (.iaload, 1) := by decide +kernel
theorem dL_law_768 : decode cL_law 768 = .ok (.aload_n 0, 1) := by decide +kernel
theorem dL_law_769 : decode cL_law 769 = .ok (.iload_n 3, 1) := by decide +kernel
theorem dL_law_770 : decode cL_law 770 = .ok (.iconst 2, 1) := by decide +kernel
theorem dL_law_771 : decode cL_law 771 = .ok (.iadd, 1) := by decide +kernel
theorem dL_law_772 : decode cL_law 772 = .ok (.iaload, 1) := by decide +kernel
theorem dL_law_773 : decode cL_law 773 = .ok (.invokevirtual 101, 3) := by decide +kernel
theorem dL_law_776 : decode cL_law 776 = .ok (.if_icmp .eq 405, 3) := by decide +kernel
theorem dL_law_779 : decode cL_law 779 = .ok (.iconst 0, 1) := by decide +kernel
theorem dL_law_780 : decode cL_law 780 = .ok (.ireturn, 1) := by decide +kernel
theorem dL_law_781 : decode cL_law 781 = .ok (.aload_n 1, 1) := by decide +kernel
theorem dL_law_782 : decode cL_law 782 = .ok (.aload_n 0, 1) := by decide +kernel
theorem dL_law_783 : decode cL_law 783 = .ok (.iload_n 3, 1) := by decide +kernel
theorem dL_law_784 : decode cL_law 784 = .ok (.iconst 1, 1) := by decide +kernel
theorem dL_law_785 : decode cL_law 785 = .ok (.iadd, 1) := by decide +kernel
theorem dL_law_786 : decode cL_law 786 = .ok (.iaload, 1) := by decide +kernel
theorem dL_law_787 : decode cL_law 787 = .ok (.invokevirtual 102, 3) := by decide +kernel
theorem dL_law_790 : decode cL_law 790 = .ok (.aload_n 2, 1) := by decide +kernel
theorem dL_law_791 : decode cL_law 791 = .ok (.aload_n 0, 1) := by decide +kernel
theorem dL_law_792 : decode cL_law 792 = .ok (.iload_n 3, 1) := by decide +kernel
theorem dL_law_793 : decode cL_law 793 = .ok (.iconst 1, 1) := by decide +kernel
theorem dL_law_794 : decode cL_law 794 = .ok (.iadd, 1) := by decide +kernel
theorem dL_law_795 : decode cL_law 795 = .ok (.iaload, 1) := by decide +kernel
theorem dL_law_796 : decode cL_law 796 = .ok (.invokevirtual 105, 3) := by decide +kernel
theorem dL_law_799 : decode cL_law 799 = .ok (.if_icmp .eq 382, 3) := by decide +kernel
theorem dL_law_802 : decode cL_law 802 = .ok (.iconst 0, 1) := by decide +kernel
theorem dL_law_803 : decode cL_law 803 = .ok (.ireturn, 1) := by decide +kernel
theorem dL_law_804 : decode cL_law 804 = .ok (.aload_n 1, 1) := by decide +kernel
theorem dL_law_805 : decode cL_law 805 = .ok (.aload_n 0, 1) := by decide +kernel
theorem dL_law_806 : decode cL_law 806 = .ok (.iload_n 3, 1) := by decide +kernel
theorem dL_law_807 : decode cL_law 807 = .ok (.iconst 1, 1) := by decide +kernel
theorem dL_law_808 : decode cL_law 808 = .ok (.iadd, 1) := by decide +kernel
theorem dL_law_809 : decode cL_law 809 = .ok (.iaload, 1) := by decide +kernel
theorem dL_law_810 : decode cL_law 810 = .ok (.aload_n 0, 1) := by decide +kernel
theorem dL_law_811 : decode cL_law 811 = .ok (.iload_n 3, 1) := by decide +kernel
theorem dL_law_812 : decode cL_law 812 = .ok (.iconst 2, 1) := by decide +kernel
theorem dL_law_813 : decode cL_law 813 = .ok (.iadd, 1) := by decide +kernel
theorem dL_law_814 : decode cL_law 814 = .ok (.iaload, 1) := by decide +kernel
theorem dL_law_815 : decode cL_law 815 = .ok (.invokevirtual 106, 3) := by decide +kernel
theorem dL_law_818 : decode cL_law 818 = .ok (.aload_n 2, 1) := by decide +kernel
theorem dL_law_819 : decode cL_law 819 = .ok (.aload_n 0, 1) := by decide +kernel
theorem dL_law_820 : decode cL_law 820 = .ok (.iload_n 3, 1) := by decide +kernel
theorem dL_law_821 : decode cL_law 821 = .ok (.iconst 1, 1) := by decide +kernel
theorem dL_law_822 : decode cL_law 822 = .ok (.iadd, 1) := by decide +kernel
theorem dL_law_823 : decode cL_law 823 = .ok (.iaload, 1) := by decide +kernel
theorem dL_law_824 : decode cL_law 824 = .ok (.aload_n 0, 1) := by decide +kernel
theorem dL_law_825 : decode cL_law 825 = .ok (.iload_n 3, 1) := by decide +kernel
theorem dL_law_826 : decode cL_law 826 = .ok (.iconst 2, 1) := by decide +kernel
theorem dL_law_827 : decode cL_law 827 = .ok (.iadd, 1) := by decide +kernel
theorem dL_law_828 : decode cL_law 828 = .ok (.iaload, 1) := by decide +kernel
theorem dL_law_829 : decode cL_law 829 = .ok (.invokevirtual 109, 3) := by decide +kernel
theorem dL_law_832 : decode cL_law 832 = .ok (.if_icmp .eq 349, 3) := by decide +kernel
theorem dL_law_835 : decode cL_law 835 = .ok (.iconst 0, 1) := by decide +kernel
theorem dL_law_836 : decode cL_law 836 = .ok (.ireturn, 1) := by decide +kernel
theorem dL_law_837 : decode cL_law 837 = .ok (.aload_n 1, 1) := by decide +kernel
theorem dL_law_838 : decode cL_law 838 = .ok (.invokevirtual 110, 3) := by decide +kernel
theorem dL_law_841 : decode cL_law 841 = .ok (.aload_n 2, 1) := by decide +kernel
theorem dL_law_842 : decode cL_law 842 = .ok (.invokevirtual 113, 3) := by decide +kernel
theorem dL_law_845 : decode cL_law 845 = .ok (.if_icmp .eq 336, 3) := by decide +kernel
theorem dL_law_848 : decode cL_law 848 = .ok (.iconst 0, 1) := by decide +kernel
theorem dL_law_849 : decode cL_law 849 = .ok (.ireturn, 1) := by decide +kernel
theorem dL_law_850 : decode cL_law 850 = .ok (.aload_n 1, 1) := by decide +kernel
theorem dL_law_851 : decode cL_law 851 = .ok (.aload_n 0, 1) := by decide +kernel
theorem dL_law_852 : decode cL_law 852 = .ok (.iload_n 3, 1) := by decide +kernel
theorem dL_law_853 : decode cL_law 853 = .ok (.iconst 1, 1) := by decide +kernel
theorem dL_law_854 : decode cL_law 854 = .ok (.iadd, 1) := by decide +kernel
theorem dL_law_855 : decode cL_law 855 = .ok (.iaload, 1) := by decide +kernel
theorem dL_law_856 : decode cL_law 856 = .ok (.invokevirtual 114, 3) := by decide +kernel
theorem dL_law_859 : decode cL_law 859 = .ok (.aload_n 2, 1) := by decide +kernel
theorem dL_law_860 : decode cL_law 860 = .ok (.aload_n 0, 1) := by decide +kernel
theorem dL_law_861 : decode cL_law 861 = .ok (.iload_n 3, 1) := by decide +kernel
theorem dL_law_862 : decode cL_law 862 = .ok (.iconst 1, 1) := by decide +kernel
theorem dL_law_863 : decode cL_law 863 = .ok (.iadd, 1) := by decide +kernel
theorem dL_law_864 : decode cL_law 864 = .ok (.iaload, 1) := by decide +kernel
theorem dL_law_865 : decode cL_law 865 = .ok (.invokevirtual 117, 3) := by decide +kernel
theorem dL_law_868 : decode cL_law 868 = .ok (.if_icmp .eq 313, 3) := by decide +kernel
theorem dL_law_871 : decode cL_law 871 = .ok (.iconst 0, 1) := by decide +kernel
theorem dL_law_872 : decode cL_law 872 = .ok (.ireturn, 1) := by decide +kernel
theorem dL_law_873 : decode cL_law 873 = .ok (.aload_n 1, 1) := by decide +kernel
theorem dL_law_874 : decode cL_law 874 = .ok (.aload_n 0, 1) := by decide +kernel
theorem dL_law_875 : decode cL_law 875 = .ok (.iload_n 3, 1) := by decide +kernel
theorem dL_law_876 : decode cL_law 876 = .ok (.iconst 1, 1) := by decide +kernel
theorem dL_law_877 : decode cL_law 877 = .ok (.iadd, 1) := by decide +kernel
theorem dL_law_878 : decode cL_law 878 = .ok (.iaload, 1) := by decide +kernel
theorem dL_law_879 : decode cL_law 879 = .ok (.invokevirtual 118, 3) := by decide +kernel
theorem dL_law_882 : decode cL_law 882 = .ok (.f2d, 1) := by decide +kernel
theorem dL_law_883 : decode cL_law 883 = .ok (.dstore 4, 2) := by decide +kernel
theorem dL_law_885 : decode cL_law 885 = .ok (.aload_n 2, 1) := by decide +kernel
theorem dL_law_886 : decode cL_law 886 = .ok (.aload_n 0, 1) := by decide +kernel
theorem dL_law_887 : decode cL_law 887 = .ok (.iload_n 3, 1) := by decide +kernel
theorem dL_law_888 : decode cL_law 888 = .ok (.iconst 1, 1) := by decide +kernel
theorem dL_law_889 : decode cL_law 889 = .ok (.iadd, 1) := by decide +kernel
theorem dL_law_890 : decode cL_law 890 = .ok (.iaload, 1) := by decide +kernel
theorem dL_law_891 : decode cL_law 891 = .ok (.invokevirtual 122, 3) := by decide +kernel
theorem dL_law_894 : decode cL_law 894 = .ok (.f2d, 1) := by decide +kernel
theorem dL_law_895 : decode cL_law 895 = .ok (.dstore 6, 2) := by decide +kernel
theorem dL_law_897 : decode cL_law 897 = .ok (.dload 4, 2) := by decide +kernel
theorem dL_law_899 : decode cL_law 899 = .ok (.dload 6, 2) := by decide +kernel
theorem dL_law_901 : decode cL_law 901 = .ok (.dcmp .l, 1) := by decide +kernel
theorem dL_law_902 : decode cL_law 902 = .ok (.ifCond .eq 21, 3) := by decide +kernel
theorem dL_law_905 : decode cL_law 905 = .ok (.dload 4, 2) := by decide +kernel
theorem dL_law_907 : decode cL_law 907 = .ok (.dload 4, 2) := by decide +kernel
theorem dL_law_909 : decode cL_law 909 = .ok (.dcmp .l, 1) := by decide +kernel
theorem dL_law_910 : decode cL_law 910 = .ok (.ifCond .eq 11, 3) := by decide +kernel
theorem dL_law_913 : decode cL_law 913 = .ok (.dload 6, 2) := by decide +kernel
theorem dL_law_915 : decode cL_law 915 = .ok (.dload 6, 2) := by decide +kernel
theorem dL_law_917 : decode cL_law 917 = .ok (.dcmp .l, 1) := by decide +kernel
theorem dL_law_918 : decode cL_law 918 = .ok (.ifCond .ne 5, 3) := by decide +kernel
theorem dL_law_921 : decode cL_law 921 = .ok (.iconst 0, 1) := by decide +kernel
theorem dL_law_922 : decode cL_law 922 = .ok (.ireturn, 1) := by decide +kernel
theorem dL_law_923 : decode cL_law 923 = .ok (.goto 258, 3) := by decide +kernel
theorem dL_law_926 : decode cL_law 926 = .ok (.aload_n 1, 1) := by decide +kernel
theorem dL_law_927 : decode cL_law 927 = .ok (.aload_n 0, 1) := by decide +kernel
theorem dL_law_928 : decode cL_law 928 = .ok (.iload_n 3, 1) := by decide +kernel
theorem dL_law_929 : decode cL_law 929 = .ok (.iconst 1, 1) := by decide +kernel
theorem dL_law_930 : decode cL_law 930 = .ok (.iadd, 1) := by decide +kernel
theorem dL_law_931 : decode cL_law 931 = .ok (.iaload, 1) := by decide +kernel
theorem dL_law_932 : decode cL_law 932 = .ok (.invokevirtual 123, 3) := by decide +kernel
theorem dL_law_935 : decode cL_law 935 = .ok (.dstore 4, 2) := by decide +kernel
theorem dL_law_937 : decode cL_law 937 = .ok (.aload_n 2, 1) := by decide +kernel
theorem dL_law_938 : decode cL_law 938 = .ok (.aload_n 0, 1) := by decide +kernel
theorem dL_law_939 : decode cL_law 939 = .ok (.iload_n 3, 1) := by decide +kernel
theorem dL_law_940 : decode cL_law 940 = .ok (.iconst 1, 1) := by decide +kernel
theorem dL_law_941 : decode cL_law 941 = .ok (.iadd, 1) := by decide +kernel
theorem dL_law_942 : decode cL_law 942 = .ok (.iaload, 1) := by decide +kernel
theorem dL_law_943 : decode cL_law 943 = .ok (.invokevirtual 127, 3) := by decide +kernel
theorem dL_law_946 : decode cL_law 946 = .ok (.dstore 6, 2) := by decide +kernel
theorem dL_law_948 : decode cL_law 948 = .ok (.dload 4, 2) := by decide +kernel
theorem dL_law_950 : decode cL_law 950 = .ok (.dload 6, 2) := by decide +kernel
theorem dL_law_952 : decode cL_law 952 = .ok (.dcmp .l, 1) := by decide +kernel
theorem dL_law_953 : decode cL_law 953 = .ok (.ifCond .eq 21, 3) := by decide +kernel
theorem dL_law_956 : decode cL_law 956 = .ok (.dload 4, 2) := by decide +kernel
theorem dL_law_958 : decode cL_law 958 = .ok (.dload 4, 2) := by decide +kernel
theorem dL_law_960 : decode cL_law 960 = .ok (.dcmp .l, 1) := by decide +kernel
theorem dL_law_961 : decode cL_law 961 = .ok (.ifCond .eq 11, 3) := by decide +kernel
theorem dL_law_964 : decode cL_law 964 = .ok (.dload 6, 2) := by decide +kernel
theorem dL_law_966 : decode cL_law 966 = .ok (.dload 6, 2) := by decide +kernel
theorem dL_law_968 : decode cL_law 968 = .ok (.dcmp .l, 1) := by decide +kernel
theorem dL_law_969 : decode cL_law 969 = .ok (.ifCond .ne 5, 3) := by decide +kernel
theorem dL_law_972 : decode cL_law 972 = .ok (.iconst 0, 1) := by decide +kernel
theorem dL_law_973 : decode cL_law 973 = .ok (.ireturn, 1) := by decide +kernel
theorem dL_law_974 : decode cL_law 974 = .ok (.goto 207, 3) := by decide +kernel
theorem dL_law_977 : decode cL_law 977 = .ok (.aload_n 1, 1) := by decide +kernel
theorem dL_law_978 : decode cL_law 978 = .ok (.aload_n 0, 1) := by decide +kernel
theorem dL_law_979 : decode cL_law 979 = .ok (.iload_n 3, 1) := by decide +kernel
theorem dL_law_980 : decode cL_law 980 = .ok (.iconst 1, 1) := by decide +kernel
theorem dL_law_981 : decode cL_law 981 = .ok (.iadd, 1) := by decide +kernel
theorem dL_law_982 : decode cL_law 982 = .ok (.iaload, 1) := by decide +kernel
theorem dL_law_983 : decode cL_law 983 = .ok (.aload_n 0, 1) := by decide +kernel
theorem dL_law_984 : decode cL_law 984 = .ok (.iload_n 3, 1) := by decide +kernel
theorem dL_law_985 : decode cL_law 985 = .ok (.iconst 2, 1) := by decide +kernel
theorem dL_law_986 : decode cL_law 986 = .ok (.iadd, 1) := by decide +kernel
theorem dL_law_987 : decode cL_law 987 = .ok (.iaload, 1) := by decide +kernel
theorem dL_law_988 : decode cL_law 988 = .ok (.aload_n 0, 1) := by decide +kernel
theorem dL_law_989 : decode cL_law 989 = .ok (.iload_n 3, 1) := by decide +kernel
theorem dL_law_990 : decode cL_law 990 = .ok (.iconst 3, 1) := by decide +kernel
theorem dL_law_991 : decode cL_law 991 = .ok (.iadd, 1) := by decide +kernel
theorem dL_law_992 : decode cL_law 992 = .ok (.iaload, 1) := by decide +kernel
theorem dL_law_993 : decode cL_law 993 = .ok (.aload_n 0, 1) := by decide +kernel
theorem dL_law_994 : decode cL_law 994 = .ok (.iload_n 3, 1) := by decide +kernel
theorem dL_law_995 : decode cL_law 995 = .ok (.iconst 4, 1) := by decide +kernel
theorem dL_law_996 : decode cL_law 996 = .ok (.iadd, 1) := by decide +kernel
theorem dL_law_997 : decode cL_law 997 = .ok (.iaload, 1) := by decide +kernel
theorem dL_law_998 : decode cL_law 998 = .ok (.invokevirtual 128, 3) := by decide +kernel
theorem dL_law_1001 : decode cL_law 1001 = .ok (.aload_n 2, 1) := by decide +kernel
theorem dL_law_1002 : decode cL_law 1002 = .ok (.aload_n 0, 1) := by decide +kernel
theorem dL_law_1003 : decode cL_law 1003 = .ok (.iload_n 3, 1) := by decide +kernel
theorem dL_law_1004 : decode cL_law 1004 = .ok (.iconst 1, 1) := by decide +kernel
theorem dL_law_1005 : decode cL_law 1005 = .ok (.iadd, 1) := by decide +kernel
theorem dL_law_1006 : decode cL_law 1006 = .ok (.iaload, 1) := by decide +kernel
theorem dL_law_1007 : decode cL_law 1007 = .ok (.aload_n 0, 1) := by decide +kernel
theorem dL_law_1008 : decode cL_law 1008 = .ok (.iload_n 3, 1) := by decide +kernel
theorem dL_law_1009 : decode cL_law 1009 = .ok (.iconst 2, 1) := by decide +kernel
theorem dL_law_1010 : decode cL_law 1010 = .ok (.iadd, 1) := by decide +kernel
theorem dL_law_1011 : decode cL_law 1011 = .ok (.iaload, 1) := by decide +kernel
theorem dL_law_1012 : decode cL_law 1012 = .ok (.aload_n 0, 1) := by decide +kernel
theorem dL_law_1013 : decode cL_law 1013 = .ok (.iload_n 3, 1) := by decide +kernel
theorem dL_law_1014 : decode cL_law 1014 = .ok (.iconst 3, 1) := by decide +kernel
theorem dL_law_1015 : decode cL_law 1015 = .ok (.iadd, 1) := by decide +kernel
theorem dL_law_1016 : decode cL_law 1016 = .ok (.iaload, 1) := by decide +kernel
theorem dL_law_1017 : decode cL_law 1017 = .ok (.aload_n 0, 1) := by decide +kernel
theorem dL_law_1018 : decode cL_law 1018 = .ok (.iload_n 3, 1) := by decide +kernel
theorem dL_law_1019 : decode cL_law 1019 = .ok (.iconst 4, 1) := by decide +kernel
theorem dL_law_1020 : decode cL_law 1020 = .ok (.iadd, 1) := by decide +kernel
theorem dL_law_1021 : decode cL_law 1021 = .ok (.iaload, 1) := by decide +kernel
theorem dL_law_1022 : decode cL_law 1022 = .ok (.invokevirtual 132, 3) := by decide +kernel
theorem dL_law_1025 : decode cL_law 1025 = .ok (.if_icmp .eq 156, 3) := by decide +kernel
theorem dL_law_1028 : decode cL_law 1028 = .ok (.iconst 0, 1) := by decide +kernel
theorem dL_law_1029 : decode cL_law 1029 = .ok (.ireturn, 1) := by decide +kernel
theorem dL_law_1030 : decode cL_law 1030 = .ok (.aload_n 1, 1) := by decide +kernel
theorem dL_law_1031 : decode cL_law 1031 = .ok (.aload_n 0, 1) := by decide +kernel
theorem dL_law_1032 : decode cL_law 1032 = .ok (.iload_n 3, 1) := by decide +kernel
theorem dL_law_1033 : decode cL_law 1033 = .ok (.iconst 1, 1) := by decide +kernel
theorem dL_law_1034 : decode cL_law 1034 = .ok (.iadd, 1) := by decide +kernel
theorem dL_law_1035 : decode cL_law 1035 = .ok (.iaload, 1) := by decide +kernel
theorem dL_law_1036 : decode cL_law 1036 = .ok (.aload_n 0, 1) := by decide +kernel
theorem dL_law_1037 : decode cL_law 1037 = .ok (.iload_n 3, 1) := by decide +kernel
theorem dL_law_1038 : decode cL_law 1038 = .ok (.iconst 2, 1) := by decide +kernel
theorem dL_law_1039 : decode cL_law 1039 = .ok (.iadd, 1) := by decide +kernel
theorem dL_law_1040 : decode cL_law 1040 = .ok (.iaload, 1) := by decide +kernel
theorem dL_law_1041 : decode cL_law 1041 = .ok (.invokevirtual 133, 3) := by decide +kernel
theorem dL_law_1044 : decode cL_law 1044 = .ok (.aload_n 2, 1) := by decide +kernel
theorem dL_law_1045 : decode cL_law 1045 = .ok (.aload_n 0, 1) := by decide +kernel
theorem dL_law_1046 : decode cL_law 1046 = .ok (.iload_n 3, 1) := by decide +kernel
theorem dL_law_1047 : decode cL_law 1047 = .ok (.iconst 1, 1) := by decide +kernel
theorem dL_law_1048 : decode cL_law 1048 = .ok (.iadd, 1) := by decide +kernel
theorem dL_law_1049 : decode cL_law 1049 = .ok (.iaload, 1) := by decide +kernel
theorem dL_law_1050 : decode cL_law 1050 = .ok (.aload_n 0, 1) := by decide +kernel
theorem dL_law_1051 : decode cL_law 1051 = .ok (.iload_n 3, 1) := by decide +kernel
theorem dL_law_1052 : decode cL_law 1052 = .ok (.iconst 2, 1) := by decide +kernel
theorem dL_law_1053 : decode cL_law 1053 = .ok (.iadd, 1) := by decide +kernel
theorem dL_law_1054 : decode cL_law 1054 = .ok (.iaload, 1) := by decide +kernel
theorem dL_law_1055 : decode cL_law 1055 = .ok (.invokevirtual 136, 3) := by decide +kernel
theorem dL_law_1058 : decode cL_law 1058 = .ok (.if_icmp .eq 123, 3) := by decide +kernel
theorem dL_law_1061 : decode cL_law 1061 = .ok (.iconst 0, 1) := by decide +kernel
theorem dL_law_1062 : decode cL_law 1062 = .ok (.ireturn, 1) := by decide +kernel
theorem dL_law_1063 : decode cL_law 1063 = .ok (.aload_n 1, 1) := by decide +kernel
theorem dL_law_1064 : decode cL_law 1064 = .ok (.aload_n 0, 1) := by decide +kernel
theorem dL_law_1065 : decode cL_law 1065 = .ok (.iload_n 3, 1) := by decide +kernel
theorem dL_law_1066 : decode cL_law 1066 = .ok (.iconst 1, 1) := by decide +kernel
theorem dL_law_1067 : decode cL_law 1067 = .ok (.iadd, 1) := by decide +kernel
theorem dL_law_1068 : decode cL_law 1068 = .ok (.iaload, 1) := by decide +kernel
theorem dL_law_1069 : decode cL_law 1069 = .ok (.invokevirtual 137, 3) := by decide +kernel
theorem dL_law_1072 : decode cL_law 1072 = .ok (.aload_n 2, 1) := by decide +kernel
theorem dL_law_1073 : decode cL_law 1073 = .ok (.aload_n 0, 1) := by decide +kernel
theorem dL_law_1074 : decode cL_law 1074 = .ok (.iload_n 3, 1) := by decide +kernel
theorem dL_law_1075 : decode cL_law 1075 = .ok (.iconst 1, 1) := by decide +kernel
theorem dL_law_1076 : decode cL_law 1076 = .ok (.iadd, 1) := by decide +kernel
theorem dL_law_1077 : decode cL_law 1077 = .ok (.iaload, 1) := by decide +kernel
theorem dL_law_1078 : decode cL_law 1078 = .ok (.invokevirtual 140, 3) := by decide +kernel
theorem dL_law_1081 : decode cL_law 1081 = .ok (.if_icmp .eq 100, 3) := by decide +kernel
theorem dL_law_1084 : decode cL_law 1084 = .ok (.iconst 0, 1) := by decide +kernel
theorem dL_law_1085 : decode cL_law 1085 = .ok (.ireturn, 1) := by decide +kernel
theorem dL_law_1086 : decode cL_law 1086 = .ok (.aload_n 1, 1) := by decide +kernel
theorem dL_law_1087 : decode cL_law 1087 = .ok (.aload_n 0, 1) := by decide +kernel
theorem dL_law_1088 : decode cL_law 1088 = .ok (.iload_n 3, 1) := by decide +kernel
theorem dL_law_1089 : decode cL_law 1089 = .ok (.iconst 1, 1) := by decide +kernel
theorem dL_law_1090 : decode cL_law 1090 = .ok (.iadd, 1) := by decide +kernel
theorem dL_law_1091 : decode cL_law 1091 = .ok (.iaload, 1) := by decide +kernel
theorem dL_law_1092 : decode cL_law 1092 = .ok (.invokevirtual 141, 3) := by decide +kernel
theorem dL_law_1095 : decode cL_law 1095 = .ok (.aload_n 2, 1) := by decide +kernel
theorem dL_law_1096 : decode cL_law 1096 = .ok (.aload_n 0, 1) := by decide +kernel
theorem dL_law_1097 : decode cL_law 1097 = .ok (.iload_n 3, 1) := by decide +kernel
theorem dL_law_1098 : decode cL_law 1098 = .ok (.iconst 1, 1) := by decide +kernel
theorem dL_law_1099 : decode cL_law 1099 = .ok (.iadd, 1) := by decide +kernel
theorem dL_law_1100 : decode cL_law 1100 = .ok (.iaload, 1) := by decide +kernel
theorem dL_law_1101 : decode cL_law 1101 = .ok (.invokevirtual 144, 3) := by decide +kernel
theorem dL_law_1104 : decode cL_law 1104 = .ok (.if_icmp .eq 77, 3) := by decide +kernel
theorem dL_law_1107 : decode cL_law 1107 = .ok (.iconst 0, 1) := by decide +kernel
theorem dL_law_1108 : decode cL_law 1108 = .ok (.ireturn, 1) := by decide +kernel
theorem dL_law_1109 : decode cL_law 1109 = .ok (.aload_n 1, 1) := by decide +kernel
theorem dL_law_1110 : decode cL_law 1110 = .ok (.aload_n 0, 1) := by decide +kernel
theorem dL_law_1111 : decode cL_law 1111 = .ok (.iload_n 3, 1) := by decide +kernel
theorem dL_law_1112 : decode cL_law 1112 = .ok (.iconst 1, 1) := by decide +kernel
theorem dL_law_1113 : decode cL_law 1113 = .ok (.iadd, 1) := by decide +kernel
theorem dL_law_1114 : decode cL_law 1114 = .ok (.iaload, 1) := by decide +kernel
theorem dL_law_1115 : decode cL_law 1115 = .ok (.aload_n 0, 1) := by decide +kernel
theorem dL_law_1116 : decode cL_law 1116 = .ok (.iload_n 3, 1) := by decide +kernel
theorem dL_law_1117 : decode cL_law 1117 = .ok (.iconst 2, 1) := by decide +kernel
theorem dL_law_1118 : decode cL_law 1118 = .ok (.iadd, 1) := by decide +kernel
theorem dL_law_1119 : decode cL_law 1119 = .ok (.iaload, 1) := by decide +kernel
theorem dL_law_1120 : decode cL_law 1120 = .ok (.invokevirtual 145, 3) := by decide +kernel
theorem dL_law_1123 : decode cL_law 1123 = .ok (.aload_n 2, 1) := by decide +kernel
theorem dL_law_1124 : decode cL_law 1124 = .ok (.aload_n 0, 1) := by decide +kernel
theorem dL_law_1125 : decode cL_law 1125 = .ok (.iload_n 3, 1) := by decide +kernel
theorem dL_law_1126 : decode cL_law 1126 = .ok (.iconst 1, 1) := by decide +kernel
theorem dL_law_1127 : decode cL_law 1127 = .ok (.iadd, 1) := by decide +kernel
theorem dL_law_1128 : decode cL_law 1128 = .ok (.iaload, 1) := by decide +kernel
theorem dL_law_1129 : decode cL_law 1129 = .ok (.aload_n 0, 1) := by decide +kernel
theorem dL_law_1130 : decode cL_law 1130 = .ok (.iload_n 3, 1) := by decide +kernel
theorem dL_law_1131 : decode cL_law 1131 = .ok (.iconst 2, 1) := by decide +kernel
theorem dL_law_1132 : decode cL_law 1132 = .ok (.iadd, 1) := by decide +kernel
theorem dL_law_1133 : decode cL_law 1133 = .ok (.iaload, 1) := by decide +kernel
theorem dL_law_1134 : decode cL_law 1134 = .ok (.invokevirtual 148, 3) := by decide +kernel
theorem dL_law_1137 : decode cL_law 1137 = .ok (.if_icmp .eq 44, 3) := by decide +kernel
theorem dL_law_1140 : decode cL_law 1140 = .ok (.iconst 0, 1) := by decide +kernel
theorem dL_law_1141 : decode cL_law 1141 = .ok (.ireturn, 1) := by decide +kernel
theorem dL_law_1142 : decode cL_law 1142 = .ok (.aload_n 1, 1) := by decide +kernel
theorem dL_law_1143 : decode cL_law 1143 = .ok (.invokevirtual 149, 3) := by decide +kernel
theorem dL_law_1146 : decode cL_law 1146 = .ok (.aload_n 2, 1) := by decide +kernel
theorem dL_law_1147 : decode cL_law 1147 = .ok (.invokevirtual 152, 3) := by decide +kernel
theorem dL_law_1150 : decode cL_law 1150 = .ok (.if_icmp .eq 31, 3) := by decide +kernel
theorem dL_law_1153 : decode cL_law 1153 = .ok (.iconst 0, 1) := by decide +kernel
theorem dL_law_1154 : decode cL_law 1154 = .ok (.ireturn, 1) := by decide +kernel
theorem dL_law_1155 : decode cL_law 1155 = .ok (.aload_n 1, 1) := by decide +kernel
theorem dL_law_1156 : decode cL_law 1156 = .ok (.invokevirtual 153, 3) := by decide +kernel
theorem dL_law_1159 : decode cL_law 1159 = .ok (.aload_n 2, 1) := by decide +kernel
theorem dL_law_1160 : decode cL_law 1160 = .ok (.invokevirtual 156, 3) := by decide +kernel
theorem dL_law_1163 : decode cL_law 1163 = .ok (.if_icmp .eq 18, 3) := by decide +kernel
theorem dL_law_1166 : decode cL_law 1166 = .ok (.iconst 0, 1) := by decide +kernel
theorem dL_law_1167 : decode cL_law 1167 = .ok (.ireturn, 1) := by decide +kernel
theorem dL_law_1168 : decode cL_law 1168 = .ok (.aload_n 1, 1) := by decide +kernel
theorem dL_law_1169 : decode cL_law 1169 = .ok (.invokevirtual 157, 3) := by decide +kernel
theorem dL_law_1172 : decode cL_law 1172 = .ok (.aload_n 2, 1) := by decide +kernel
theorem dL_law_1173 : decode cL_law 1173 = .ok (.invokevirtual 160, 3) := by decide +kernel
theorem dL_law_1176 : decode cL_law 1176 = .ok (.if_icmp .eq 5, 3) := by decide +kernel
theorem dL_law_1179 : decode cL_law 1179 = .ok (.iconst 0, 1) := by decide +kernel
theorem dL_law_1180 : decode cL_law 1180 = .ok (.ireturn, 1) := by decide +kernel
theorem dL_law_1181 : decode cL_law 1181 = .ok (.iinc 3 6, 3) := by decide +kernel
theorem dL_law_1184 : decode cL_law 1184 = .ok (.goto (-1166), 3) := by decide +kernel
theorem dL_law_1187 : decode cL_law 1187 = .ok (.iconst 1, 1) := by decide +kernel
theorem dL_law_1188 : decode cL_law 1188 = .ok (.ireturn, 1) := by decide +kernel

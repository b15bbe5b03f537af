/-! the instructions, decoded -/
theorem dX0_init_0 : decode cX0_init 0 = .ok (.aload_n 0, 1) := by decide +kernel
theorem dX0_init_1 : decode cX0_init 1 = .ok (.invokespecial 3, 3) := by decide +kernel
theorem dX0_init_4 : decode cX0_init 4 = .ok (.aload_n 0, 1) := by decide +kernel
theorem dX0_init_5 : decode cX0_init 5 = .ok (.iconst 4, 1) := by decide +kernel
theorem dX0_init_6 : decode cX0_init 6 = .ok (.anewarray 9, 3) := by decide +kernel
theorem dX0_init_9 : decode cX0_init 9 = .ok (.putfield 11, 3) := by decide +kernel
theorem dX0_init_12 : decode cX0_init 12 = .ok (.iconst 0, 1) := by decide +kernel
theorem dX0_init_13 : decode cX0_init 13 = .ok (.istore_n 1, 1) := by decide +kernel
theorem dX0_init_14 : decode cX0_init 14 = .ok (.iload_n 1, 1) := by decide +kernel
theorem dX0_init_15 : decode cX0_init 15 = .ok (.iconst 4, 1) := by decide +kernel
theorem dX0_init_16 : decode cX0_init 16 = .ok (.if_icmp .ge 22, 3) := by decide +kernel
theorem dX0_init_19 : decode cX0_init 19 = .ok (.aload_n 0, 1) := by decide +kernel
theorem dX0_init_20 : decode cX0_init 20 = .ok (.getfield 11, 3) := by decide +kernel
theorem dX0_init_23 : decode cX0_init 23 = .ok (.iload_n 1, 1) := by decide +kernel
theorem dX0_init_24 : decode cX0_init 24 = .ok (.new 9, 3) := by decide +kernel
theorem dX0_init_27 : decode cX0_init 27 = .ok (.dup, 1) := by decide +kernel
theorem dX0_init_28 : decode cX0_init 28 = .ok (.invokespecial 17, 3) := by decide +kernel
theorem dX0_init_31 : decode cX0_init 31 = .ok (.aastore, 1) := by decide +kernel
theorem dX0_init_32 : decode cX0_init 32 = .ok (.iinc 1 1, 3) := by decide +kernel
theorem dX0_init_35 : decode cX0_init 35 = .ok (.goto (-21), 3) := by decide +kernel
theorem dX0_init_38 : decode cX0_init 38 = .ok (.return_, 1) := by decide +kernel
theorem dX0_record_0 : decode cX0_record 0 = .ok (.aload_n 0, 1) := by decide +kernel
theorem dX0_record_1 : decode cX0_record 1 = .ok (.getfield 18, 3) := by decide +kernel
theorem dX0_record_4 : decode cX0_record 4 = .ok (.iconst 4, 1) := by decide +kernel
theorem dX0_record_5 : decode cX0_record 5 = .ok (.if_icmp .lt 7, 3) := by decide +kernel
theorem dX0_record_8 : decode cX0_record 8 = .ok (.aload_n 0, 1) := by decide +kernel
theorem dX0_record_9 : decode cX0_record 9 = .ok (.invokevirtual 22, 3) := by decide +kernel
theorem dX0_record_12 : decode cX0_record 12 = .ok (.aload_n 0, 1) := by decide +kernel
theorem dX0_record_13 : decode cX0_record 13 = .ok (.getfield 11, 3) := by decide +kernel
theorem dX0_record_16 : decode cX0_record 16 = .ok (.aload_n 0, 1) := by decide +kernel
theorem dX0_record_17 : decode cX0_record 17 = .ok (.getfield 18, 3) := by decide +kernel
theorem dX0_record_20 : decode cX0_record 20 = .ok (.aaload, 1) := by decide +kernel
theorem dX0_record_21 : decode cX0_record 21 = .ok (.astore_n 2, 1) := by decide +kernel
theorem dX0_record_22 : decode cX0_record 22 = .ok (.aload_n 2, 1) := by decide +kernel
theorem dX0_record_23 : decode cX0_record 23 = .ok (.aload_n 1, 1) := by decide +kernel
theorem dX0_record_24 : decode cX0_record 24 = .ok (.invokevirtual 25, 3) := by decide +kernel
theorem dX0_record_27 : decode cX0_record 27 = .ok (.aload_n 0, 1) := by decide +kernel
theorem dX0_record_28 : decode cX0_record 28 = .ok (.dup, 1) := by decide +kernel
theorem dX0_record_29 : decode cX0_record 29 = .ok (.getfield 18, 3) := by decide +kernel
theorem dX0_record_32 : decode cX0_record 32 = .ok (.iconst 1, 1) := by decide +kernel
theorem dX0_record_33 : decode cX0_record 33 = .ok (.iadd, 1) := by decide +kernel
theorem dX0_record_34 : decode cX0_record 34 = .ok (.putfield 18, 3) := by decide +kernel
theorem dX0_record_37 : decode cX0_record 37 = .ok (.aload_n 2, 1) := by decide +kernel
theorem dX0_record_38 : decode cX0_record 38 = .ok (.areturn, 1) := by decide +kernel
theorem dX0_dropOldest_0 : decode cX0_dropOldest 0 = .ok (.aload_n 0, 1) := by decide +kernel
theorem dX0_dropOldest_1 : decode cX0_dropOldest 1 = .ok (.getfield 11, 3) := by decide +kernel
theorem dX0_dropOldest_4 : decode cX0_dropOldest 4 = .ok (.iconst 0, 1) := by decide +kernel
theorem dX0_dropOldest_5 : decode cX0_dropOldest 5 = .ok (.aaload, 1) := by decide +kernel
theorem dX0_dropOldest_6 : decode cX0_dropOldest 6 = .ok (.astore_n 1, 1) := by decide +kernel
theorem dX0_dropOldest_7 : decode cX0_dropOldest 7 = .ok (.iconst 1, 1) := by decide +kernel
theorem dX0_dropOldest_8 : decode cX0_dropOldest 8 = .ok (.istore_n 2, 1) := by decide +kernel
theorem dX0_dropOldest_9 : decode cX0_dropOldest 9 = .ok (.iload_n 2, 1) := by decide +kernel
theorem dX0_dropOldest_10 : decode cX0_dropOldest 10 = .ok (.iconst 4, 1) := by decide +kernel
theorem dX0_dropOldest_11 : decode cX0_dropOldest 11 = .ok (.if_icmp .ge 23, 3) := by decide +kernel
theorem dX0_dropOldest_14 : decode cX0_dropOldest 14 = .ok (.aload_n 0, 1) := by decide +kernel
theorem dX0_dropOldest_15 : decode cX0_dropOldest 15 = .ok (.getfield 11, 3) := by decide +kernel
theorem dX0_dropOldest_18 : decode cX0_dropOldest 18 = .ok (.iload_n 2, 1) := by decide +kernel
theorem dX0_dropOldest_19 : decode cX0_dropOldest 19 = .ok (.iconst 1, 1) := by decide +kernel
theorem dX0_dropOldest_20 : decode cX0_dropOldest 20 = .ok (.isub, 1) := by decide +kernel
theorem dX0_dropOldest_21 : decode cX0_dropOldest 21 = .ok (.aload_n 0, 1) := by decide +kernel
theorem dX0_dropOldest_22 : decode cX0_dropOldest 22 = .ok (.getfield 11, 3) := by decide +kernel
theorem dX0_dropOldest_25 : decode cX0_dropOldest 25 = .ok (.iload_n 2, 1) := by decide +kernel
theorem dX0_dropOldest_26 : decode cX0_dropOldest 26 = .ok (.aaload, 1) := by decide +kernel
theorem dX0_dropOldest_27 : decode cX0_dropOldest 27 = .ok (.aastore, 1) := by decide +kernel
theorem dX0_dropOldest_28 : decode cX0_dropOldest 28 = .ok (.iinc 2 1, 3) := by decide +kernel
theorem dX0_dropOldest_31 : decode cX0_dropOldest 31 = .ok (.goto (-22), 3) := by decide +kernel
theorem dX0_dropOldest_34 : decode cX0_dropOldest 34 = .ok (.aload_n 0, 1) := by decide +kernel
theorem dX0_dropOldest_35 : decode cX0_dropOldest 35 = .ok (.getfield 11, 3) := by decide +kernel
theorem dX0_dropOldest_38 : decode cX0_dropOldest 38 = .ok (.iconst 3, 1) := by decide +kernel
theorem dX0_dropOldest_39 : decode cX0_dropOldest 39 = .ok (.aload_n 1, 1) := by decide +kernel
theorem dX0_dropOldest_40 : decode cX0_dropOldest 40 = .ok (.aastore, 1) := by decide +kernel
theorem dX0_dropOldest_41 : decode cX0_dropOldest 41 = .ok (.aload_n 0, 1) := by decide +kernel
theorem dX0_dropOldest_42 : decode cX0_dropOldest 42 = .ok (.iconst 3, 1) := by decide +kernel
theorem dX0_dropOldest_43 : decode cX0_dropOldest 43 = .ok (.putfield 18, 3) := by decide +kernel
theorem dX0_dropOldest_46 : decode cX0_dropOldest 46 = .ok (.return_, 1) := by decide +kernel
theorem dX0_takeBack_0 : decode cX0_takeBack 0 = .ok (.aload_n 0, 1) := by decide +kernel
theorem dX0_takeBack_1 : decode cX0_takeBack 1 = .ok (.getfield 18, 3) := by decide +kernel
theorem dX0_takeBack_4 : decode cX0_takeBack 4 = .ok (.ifCond .gt 5, 3) := by decide +kernel
theorem dX0_takeBack_7 : decode cX0_takeBack 7 = .ok (.iconst 0, 1) := by decide +kernel
theorem dX0_takeBack_8 : decode cX0_takeBack 8 = .ok (.ireturn, 1) := by decide +kernel
theorem dX0_takeBack_9 : decode cX0_takeBack 9 = .ok (.aload_n 0, 1) := by decide +kernel
theorem dX0_takeBack_10 : decode cX0_takeBack 10 = .ok (.dup, 1) := by decide +kernel
theorem dX0_takeBack_11 : decode cX0_takeBack 11 = .ok (.getfield 18, 3) := by decide +kernel
theorem dX0_takeBack_14 : decode cX0_takeBack 14 = .ok (.iconst 1, 1) := by decide +kernel
theorem dX0_takeBack_15 : decode cX0_takeBack 15 = .ok (.isub, 1) := by decide +kernel
theorem dX0_takeBack_16 : decode cX0_takeBack 16 = .ok (.putfield 18, 3) := by decide +kernel
theorem dX0_takeBack_19 : decode cX0_takeBack 19 = .ok (.aload_n 1, 1) := by decide +kernel
theorem dX0_takeBack_20 : decode cX0_takeBack 20 = .ok (.aload_n 0, 1) := by decide +kernel
theorem dX0_takeBack_21 : decode cX0_takeBack 21 = .ok (.getfield 11, 3) := by decide +kernel
theorem dX0_takeBack_24 : decode cX0_takeBack 24 = .ok (.aload_n 0, 1) := by decide +kernel
theorem dX0_takeBack_25 : decode cX0_takeBack 25 = .ok (.getfield 18, 3) := by decide +kernel
theorem dX0_takeBack_28 : decode cX0_takeBack 28 = .ok (.aaload, 1) := by decide +kernel
theorem dX0_takeBack_29 : decode cX0_takeBack 29 = .ok (.invokevirtual 25, 3) := by decide +kernel
theorem dX0_takeBack_32 : decode cX0_takeBack 32 = .ok (.iconst 1, 1) := by decide +kernel
theorem dX0_takeBack_33 : decode cX0_takeBack 33 = .ok (.ireturn, 1) := by decide +kernel
theorem dX1_init_0 : decode cX1_init 0 = .ok (.aload_n 0, 1) := by decide +kernel
theorem dX1_init_1 : decode cX1_init 1 = .ok (.invokespecial 3, 3) := by decide +kernel
theorem dX1_init_4 : decode cX1_init 4 = .ok (.aload_n 0, 1) := by decide +kernel
theorem dX1_init_5 : decode cX1_init 5 = .ok (.bipush 32, 2) := by decide +kernel
theorem dX1_init_7 : decode cX1_init 7 = .ok (.newarray .int, 2) := by decide +kernel
theorem dX1_init_9 : decode cX1_init 9 = .ok (.putfield 9, 3) := by decide +kernel
theorem dX1_init_12 : decode cX1_init 12 = .ok (.aload_n 0, 1) := by decide +kernel
theorem dX1_init_13 : decode cX1_init 13 = .ok (.bipush 32, 2) := by decide +kernel
theorem dX1_init_15 : decode cX1_init 15 = .ok (.newarray .int, 2) := by decide +kernel
theorem dX1_init_17 : decode cX1_init 17 = .ok (.putfield 15, 3) := by decide +kernel
theorem dX1_init_20 : decode cX1_init 20 = .ok (.aload_n 0, 1) := by decide +kernel
theorem dX1_init_21 : decode cX1_init 21 = .ok (.bipush 32, 2) := by decide +kernel
theorem dX1_init_23 : decode cX1_init 23 = .ok (.newarray .int, 2) := by decide +kernel
theorem dX1_init_25 : decode cX1_init 25 = .ok (.putfield 18, 3) := by decide +kernel
theorem dX1_init_28 : decode cX1_init 28 = .ok (.aload_n 0, 1) := by decide +kernel
theorem dX1_init_29 : decode cX1_init 29 = .ok (.bipush 32, 2) := by decide +kernel
theorem dX1_init_31 : decode cX1_init 31 = .ok (.newarray .int, 2) := by decide +kernel
theorem dX1_init_33 : decode cX1_init 33 = .ok (.putfield 21, 3) := by decide +kernel
theorem dX1_init_36 : decode cX1_init 36 = .ok (.aload_n 0, 1) := by decide +kernel
theorem dX1_init_37 : decode cX1_init 37 = .ok (.bipush 32, 2) := by decide +kernel
theorem dX1_init_39 : decode cX1_init 39 = .ok (.newarray .int, 2) := by decide +kernel
theorem dX1_init_41 : decode cX1_init 41 = .ok (.putfield 24, 3) := by decide +kernel
theorem dX1_init_44 : decode cX1_init 44 = .ok (.aload_n 0, 1) := by decide +kernel
theorem dX1_init_45 : decode cX1_init 45 = .ok (.bipush 32, 2) := by decide +kernel
theorem dX1_init_47 : decode cX1_init 47 = .ok (.newarray .int, 2) := by decide +kernel
theorem dX1_init_49 : decode cX1_init 49 = .ok (.putfield 27, 3) := by decide +kernel
theorem dX1_init_52 : decode cX1_init 52 = .ok (.return_, 1) := by decide +kernel
theorem dX1_takeRow_0 : decode cX1_takeRow 0 = .ok (.iload_n 2, 1) := by decide +kernel
theorem dX1_takeRow_1 : decode cX1_takeRow 1 = .ok (.iconst 0, 1) := by decide +kernel
theorem dX1_takeRow_2 : decode cX1_takeRow 2 = .ok (.invokestatic 30, 3) := by decide +kernel
theorem dX1_takeRow_5 : decode cX1_takeRow 5 = .ok (.istore_n 3, 1) := by decide +kernel
theorem dX1_takeRow_6 : decode cX1_takeRow 6 = .ok (.aload_n 1, 1) := by decide +kernel
theorem dX1_takeRow_7 : decode cX1_takeRow 7 = .ok (.getfield 34, 3) := by decide +kernel
theorem dX1_takeRow_10 : decode cX1_takeRow 10 = .ok (.iload_n 3, 1) := by decide +kernel
theorem dX1_takeRow_11 : decode cX1_takeRow 11 = .ok (.aload_n 0, 1) := by decide +kernel
theorem dX1_takeRow_12 : decode cX1_takeRow 12 = .ok (.getfield 9, 3) := by decide +kernel
theorem dX1_takeRow_15 : decode cX1_takeRow 15 = .ok (.iconst 0, 1) := by decide +kernel
theorem dX1_takeRow_16 : decode cX1_takeRow 16 = .ok (.bipush 32, 2) := by decide +kernel
theorem dX1_takeRow_18 : decode cX1_takeRow 18 = .ok (.invokestatic 37, 3) := by decide +kernel
theorem dX1_takeRow_21 : decode cX1_takeRow 21 = .ok (.aload_n 1, 1) := by decide +kernel
theorem dX1_takeRow_22 : decode cX1_takeRow 22 = .ok (.getfield 43, 3) := by decide +kernel
theorem dX1_takeRow_25 : decode cX1_takeRow 25 = .ok (.iload_n 3, 1) := by decide +kernel
theorem dX1_takeRow_26 : decode cX1_takeRow 26 = .ok (.aload_n 0, 1) := by decide +kernel
theorem dX1_takeRow_27 : decode cX1_takeRow 27 = .ok (.getfield 15, 3) := by decide +kernel
theorem dX1_takeRow_30 : decode cX1_takeRow 30 = .ok (.iconst 0, 1) := by decide +kernel
theorem dX1_takeRow_31 : decode cX1_takeRow 31 = .ok (.bipush 32, 2) := by decide +kernel
theorem dX1_takeRow_33 : decode cX1_takeRow 33 = .ok (.invokestatic 37, 3) := by decide +kernel
theorem dX1_takeRow_36 : decode cX1_takeRow 36 = .ok (.aload_n 1, 1) := by decide +kernel
theorem dX1_takeRow_37 : decode cX1_takeRow 37 = .ok (.getfield 44, 3) := by decide +kernel
theorem dX1_takeRow_40 : decode cX1_takeRow 40 = .ok (.iload_n 3, 1) := by decide +kernel
theorem dX1_takeRow_41 : decode cX1_takeRow 41 = .ok (.aload_n 0, 1) := by decide +kernel
theorem dX1_takeRow_42 : decode cX1_takeRow 42 = .ok (.getfield 18, 3) := by decide +kernel
theorem dX1_takeRow_45 : decode cX1_takeRow 45 = .ok (.iconst 0, 1) := by decide +kernel
theorem dX1_takeRow_46 : decode cX1_takeRow 46 = .ok (.bipush 32, 2) := by decide +kernel
theorem dX1_takeRow_48 : decode cX1_takeRow 48 = .ok (.invokestatic 37, 3) := by decide +kernel
theorem dX1_takeRow_51 : decode cX1_takeRow 51 = .ok (.aload_n 0, 1) := by decide +kernel
theorem dX1_takeRow_52 : decode cX1_takeRow 52 = .ok (.aload_n 1, 1) := by decide +kernel
theorem dX1_takeRow_53 : decode cX1_takeRow 53 = .ok (.getfield 45, 3) := by decide +kernel
theorem dX1_takeRow_56 : decode cX1_takeRow 56 = .ok (.iconst 0, 1) := by decide +kernel
theorem dX1_takeRow_57 : decode cX1_takeRow 57 = .ok (.iaload, 1) := by decide +kernel
theorem dX1_takeRow_58 : decode cX1_takeRow 58 = .ok (.putfield 48, 3) := by decide +kernel
theorem dX1_takeRow_61 : decode cX1_takeRow 61 = .ok (.aload_n 0, 1) := by decide +kernel
theorem dX1_takeRow_62 : decode cX1_takeRow 62 = .ok (.aload_n 1, 1) := by decide +kernel
theorem dX1_takeRow_63 : decode cX1_takeRow 63 = .ok (.getfield 45, 3) := by decide +kernel
theorem dX1_takeRow_66 : decode cX1_takeRow 66 = .ok (.iconst 2, 1) := by decide +kernel
theorem dX1_takeRow_67 : decode cX1_takeRow 67 = .ok (.iaload, 1) := by decide +kernel
theorem dX1_takeRow_68 : decode cX1_takeRow 68 = .ok (.putfield 52, 3) := by decide +kernel
theorem dX1_takeRow_71 : decode cX1_takeRow 71 = .ok (.aload_n 0, 1) := by decide +kernel
theorem dX1_takeRow_72 : decode cX1_takeRow 72 = .ok (.aload_n 1, 1) := by decide +kernel
theorem dX1_takeRow_73 : decode cX1_takeRow 73 = .ok (.getfield 45, 3) := by decide +kernel
theorem dX1_takeRow_76 : decode cX1_takeRow 76 = .ok (.iconst 3, 1) := by decide +kernel
theorem dX1_takeRow_77 : decode cX1_takeRow 77 = .ok (.iaload, 1) := by decide +kernel
theorem dX1_takeRow_78 : decode cX1_takeRow 78 = .ok (.iconst 1, 1) := by decide +kernel
theorem dX1_takeRow_79 : decode cX1_takeRow 79 = .ok (.if_icmp .ne 7, 3) := by decide +kernel
theorem dX1_takeRow_82 : decode cX1_takeRow 82 = .ok (.iconst 1, 1) := by decide +kernel
theorem dX1_takeRow_83 : decode cX1_takeRow 83 = .ok (.goto 4, 3) := by decide +kernel
theorem dX1_takeRow_86 : decode cX1_takeRow 86 = .ok (.iconst 0, 1) := by decide +kernel
theorem dX1_takeRow_87 : decode cX1_takeRow 87 = .ok (.putfield 55, 3) := by decide +kernel
theorem dX1_takeRow_90 : decode cX1_takeRow 90 = .ok (.return_, 1) := by decide +kernel
theorem dX1_putRow_0 : decode cX1_putRow 0 = .ok (.iload_n 2, 1) := by decide +kernel
theorem dX1_putRow_1 : decode cX1_putRow 1 = .ok (.iconst 0, 1) := by decide +kernel
theorem dX1_putRow_2 : decode cX1_putRow 2 = .ok (.invokestatic 30, 3) := by decide +kernel
theorem dX1_putRow_5 : decode cX1_putRow 5 = .ok (.istore_n 3, 1) := by decide +kernel
theorem dX1_putRow_6 : decode cX1_putRow 6 = .ok (.aload_n 0, 1) := by decide +kernel
theorem dX1_putRow_7 : decode cX1_putRow 7 = .ok (.getfield 9, 3) := by decide +kernel
theorem dX1_putRow_10 : decode cX1_putRow 10 = .ok (.iconst 0, 1) := by decide +kernel
theorem dX1_putRow_11 : decode cX1_putRow 11 = .ok (.aload_n 1, 1) := by decide +kernel
theorem dX1_putRow_12 : decode cX1_putRow 12 = .ok (.getfield 34, 3) := by decide +kernel
theorem dX1_putRow_15 : decode cX1_putRow 15 = .ok (.iload_n 3, 1) := by decide +kernel
theorem dX1_putRow_16 : decode cX1_putRow 16 = .ok (.bipush 32, 2) := by decide +kernel
theorem dX1_putRow_18 : decode cX1_putRow 18 = .ok (.invokestatic 37, 3) := by decide +kernel
theorem dX1_putRow_21 : decode cX1_putRow 21 = .ok (.aload_n 0, 1) := by decide +kernel
theorem dX1_putRow_22 : decode cX1_putRow 22 = .ok (.getfield 15, 3) := by decide +kernel
theorem dX1_putRow_25 : decode cX1_putRow 25 = .ok (.iconst 0, 1) := by decide +kernel
theorem dX1_putRow_26 : decode cX1_putRow 26 = .ok (.aload_n 1, 1) := by decide +kernel
theorem dX1_putRow_27 : decode cX1_putRow 27 = .ok (.getfield 43, 3) := by decide +kernel
theorem dX1_putRow_30 : decode cX1_putRow 30 = .ok (.iload_n 3, 1) := by decide +kernel
theorem dX1_putRow_31 : decode cX1_putRow 31 = .ok (.bipush 32, 2) := by decide +kernel
theorem dX1_putRow_33 : decode cX1_putRow 33 = .ok (.invokestatic 37, 3) := by decide +kernel
theorem dX1_putRow_36 : decode cX1_putRow 36 = .ok (.aload_n 0, 1) := by decide +kernel
theorem dX1_putRow_37 : decode cX1_putRow 37 = .ok (.getfield 18, 3) := by decide +kernel
theorem dX1_putRow_40 : decode cX1_putRow 40 = .ok (.iconst 0, 1) := by decide +kernel
theorem dX1_putRow_41 : decode cX1_putRow 41 = .ok (.aload_n 1, 1) := by decide +kernel
theorem dX1_putRow_42 : decode cX1_putRow 42 = .ok (.getfield 44, 3) := by decide +kernel
theorem dX1_putRow_45 : decode cX1_putRow 45 = .ok (.iload_n 3, 1) := by decide +kernel
theorem dX1_putRow_46 : decode cX1_putRow 46 = .ok (.bipush 32, 2) := by decide +kernel
theorem dX1_putRow_48 : decode cX1_putRow 48 = .ok (.invokestatic 37, 3) := by decide +kernel
theorem dX1_putRow_51 : decode cX1_putRow 51 = .ok (.return_, 1) := by decide +kernel
theorem dX1_study_0 : decode cX1_study 0 = .ok (.aload_n 0, 1) := by decide +kernel
theorem dX1_study_1 : decode cX1_study 1 = .ok (.aload_n 1, 1) := by decide +kernel
theorem dX1_study_2 : decode cX1_study 2 = .ok (.iload_n 2, 1) := by decide +kernel
theorem dX1_study_3 : decode cX1_study 3 = .ok (.invokevirtual 59, 3) := by decide +kernel
theorem dX1_study_6 : decode cX1_study 6 = .ok (.aload_n 0, 1) := by decide +kernel
theorem dX1_study_7 : decode cX1_study 7 = .ok (.invokevirtual 63, 3) := by decide +kernel
theorem dX1_study_10 : decode cX1_study 10 = .ok (.aload_n 0, 1) := by decide +kernel
theorem dX1_study_11 : decode cX1_study 11 = .ok (.invokevirtual 66, 3) := by decide +kernel
theorem dX1_study_14 : decode cX1_study 14 = .ok (.return_, 1) := by decide +kernel
theorem dX1_turnRound_0 : decode cX1_turnRound 0 = .ok (.aload_n 0, 1) := by decide +kernel
theorem dX1_turnRound_1 : decode cX1_turnRound 1 = .ok (.getfield 9, 3) := by decide +kernel
theorem dX1_turnRound_4 : decode cX1_turnRound 4 = .ok (.invokestatic 69, 3) := by decide +kernel
theorem dX1_turnRound_7 : decode cX1_turnRound 7 = .ok (.aload_n 0, 1) := by decide +kernel
theorem dX1_turnRound_8 : decode cX1_turnRound 8 = .ok (.getfield 15, 3) := by decide +kernel
theorem dX1_turnRound_11 : decode cX1_turnRound 11 = .ok (.invokestatic 69, 3) := by decide +kernel
theorem dX1_turnRound_14 : decode cX1_turnRound 14 = .ok (.aload_n 0, 1) := by decide +kernel
theorem dX1_turnRound_15 : decode cX1_turnRound 15 = .ok (.getfield 18, 3) := by decide +kernel
theorem dX1_turnRound_18 : decode cX1_turnRound 18 = .ok (.invokestatic 69, 3) := by decide +kernel
theorem dX1_turnRound_21 : decode cX1_turnRound 21 = .ok (.return_, 1) := by decide +kernel
theorem dX1_reverse_0 : decode cX1_reverse 0 = .ok (.iconst 0, 1) := by decide +kernel
theorem dX1_reverse_1 : decode cX1_reverse 1 = .ok (.istore_n 1, 1) := by decide +kernel
theorem dX1_reverse_2 : decode cX1_reverse 2 = .ok (.aload_n 0, 1) := by decide +kernel
theorem dX1_reverse_3 : decode cX1_reverse 3 = .ok (.arraylength, 1) := by decide +kernel
theorem dX1_reverse_4 : decode cX1_reverse 4 = .ok (.iconst 1, 1) := by decide +kernel
theorem dX1_reverse_5 : decode cX1_reverse 5 = .ok (.isub, 1) := by decide +kernel
theorem dX1_reverse_6 : decode cX1_reverse 6 = .ok (.istore_n 2, 1) := by decide +kernel
theorem dX1_reverse_7 : decode cX1_reverse 7 = .ok (.iload_n 1, 1) := by decide +kernel
theorem dX1_reverse_8 : decode cX1_reverse 8 = .ok (.iload_n 2, 1) := by decide +kernel
theorem dX1_reverse_9 : decode cX1_reverse 9 = .ok (.if_icmp .ge 26, 3) := by decide +kernel
theorem dX1_reverse_12 : decode cX1_reverse 12 = .ok (.aload_n 0, 1) := by decide +kernel
theorem dX1_reverse_13 : decode cX1_reverse 13 = .ok (.iload_n 1, 1) := by decide +kernel
theorem dX1_reverse_14 : decode cX1_reverse 14 = .ok (.iaload, 1) := by decide +kernel
theorem dX1_reverse_15 : decode cX1_reverse 15 = .ok (.istore_n 3, 1) := by decide +kernel
theorem dX1_reverse_16 : decode cX1_reverse 16 = .ok (.aload_n 0, 1) := by decide +kernel
theorem dX1_reverse_17 : decode cX1_reverse 17 = .ok (.iload_n 1, 1) := by decide +kernel
theorem dX1_reverse_18 : decode cX1_reverse 18 = .ok (.aload_n 0, 1) := by decide +kernel
theorem dX1_reverse_19 : decode cX1_reverse 19 = .ok (.iload_n 2, 1) := by decide +kernel
theorem dX1_reverse_20 : decode cX1_reverse 20 = .ok (.iaload, 1) := by decide +kernel
theorem dX1_reverse_21 : decode cX1_reverse 21 = .ok (.iastore, 1) := by decide +kernel
theorem dX1_reverse_22 : decode cX1_reverse 22 = .ok (.aload_n 0, 1) := by decide +kernel
theorem dX1_reverse_23 : decode cX1_reverse 23 = .ok (.iload_n 2, 1) := by decide +kernel
theorem dX1_reverse_24 : decode cX1_reverse 24 = .ok (.iload_n 3, 1) := by decide +kernel
theorem dX1_reverse_25 : decode cX1_reverse 25 = .ok (.iastore, 1) := by decide +kernel
theorem dX1_reverse_26 : decode cX1_reverse 26 = .ok (.iinc 1 1, 3) := by decide +kernel
theorem dX1_reverse_29 : decode cX1_reverse 29 = .ok (.iinc 2 (-1), 3) := by decide +kernel
theorem dX1_reverse_32 : decode cX1_reverse 32 = .ok (.goto (-25), 3) := by decide +kernel
theorem dX1_reverse_35 : decode cX1_reverse 35 = .ok (.return_, 1) := by decide +kernel
theorem dX1_forgetSmudges_0 : decode cX1_forgetSmudges 0 = .ok (.aload_n 0, 1) := by decide +kernel
theorem dX1_forgetSmudges_1 : decode cX1_forgetSmudges 1 = .ok (.getfield 18, 3) := by decide +kernel
theorem dX1_forgetSmudges_4 : decode cX1_forgetSmudges 4 = .ok (.bipush (-4), 2) := by decide +kernel
theorem dX1_forgetSmudges_6 : decode cX1_forgetSmudges 6 = .ok (.invokestatic 73, 3) := by decide +kernel
theorem dX1_forgetSmudges_9 : decode cX1_forgetSmudges 9 = .ok (.return_, 1) := by decide +kernel
theorem dX1_printFrom_0 : decode cX1_printFrom 0 = .ok (.aload_n 1, 1) := by decide +kernel
theorem dX1_printFrom_1 : decode cX1_printFrom 1 = .ok (.getfield 79, 3) := by decide +kernel
theorem dX1_printFrom_4 : decode cX1_printFrom 4 = .ok (.istore_n 2, 1) := by decide +kernel
theorem dX1_printFrom_5 : decode cX1_printFrom 5 = .ok (.iconst 0, 1) := by decide +kernel
theorem dX1_printFrom_6 : decode cX1_printFrom 6 = .ok (.istore_n 3, 1) := by decide +kernel
theorem dX1_printFrom_7 : decode cX1_printFrom 7 = .ok (.iconst 0, 1) := by decide +kernel
theorem dX1_printFrom_8 : decode cX1_printFrom 8 = .ok (.istore 4, 2) := by decide +kernel
theorem dX1_printFrom_10 : decode cX1_printFrom 10 = .ok (.iload 4, 2) := by decide +kernel
theorem dX1_printFrom_12 : decode cX1_printFrom 12 = .ok (.bipush 32, 2) := by decide +kernel
theorem dX1_printFrom_14 : decode cX1_printFrom 14 = .ok (.if_icmp .ge 124, 3) := by decide +kernel
theorem dX1_printFrom_17 : decode cX1_printFrom 17 = .ok (.aload_n 0, 1) := by decide +kernel
theorem dX1_printFrom_18 : decode cX1_printFrom 18 = .ok (.iload 4, 2) := by decide +kernel
theorem dX1_printFrom_20 : decode cX1_printFrom 20 = .ok (.invokevirtual 82, 3) := by decide +kernel
theorem dX1_printFrom_23 : decode cX1_printFrom 23 = .ok (.istore 5, 2) := by decide +kernel
theorem dX1_printFrom_25 : decode cX1_printFrom 25 = .ok (.iload 5, 2) := by decide +kernel
theorem dX1_printFrom_27 : decode cX1_printFrom 27 = .ok (.bipush (-4), 2) := by decide +kernel
theorem dX1_printFrom_29 : decode cX1_printFrom 29 = .ok (.if_icmp .eq 20, 3) := by decide +kernel
theorem dX1_printFrom_32 : decode cX1_printFrom 32 = .ok (.aload_n 0, 1) := by decide +kernel
theorem dX1_printFrom_33 : decode cX1_printFrom 33 = .ok (.getfield 15, 3) := by decide +kernel
theorem dX1_printFrom_36 : decode cX1_printFrom 36 = .ok (.iload 4, 2) := by decide +kernel
theorem dX1_printFrom_38 : decode cX1_printFrom 38 = .ok (.aload_n 0, 1) := by decide +kernel
theorem dX1_printFrom_39 : decode cX1_printFrom 39 = .ok (.getfield 15, 3) := by decide +kernel
theorem dX1_printFrom_42 : decode cX1_printFrom 42 = .ok (.iload 5, 2) := by decide +kernel
theorem dX1_printFrom_44 : decode cX1_printFrom 44 = .ok (.iaload, 1) := by decide +kernel
theorem dX1_printFrom_45 : decode cX1_printFrom 45 = .ok (.iastore, 1) := by decide +kernel
theorem dX1_printFrom_46 : decode cX1_printFrom 46 = .ok (.goto 86, 3) := by decide +kernel
theorem dX1_printFrom_49 : decode cX1_printFrom 49 = .ok (.aload_n 1, 1) := by decide +kernel
theorem dX1_printFrom_50 : decode cX1_printFrom 50 = .ok (.getfield 86, 3) := by decide +kernel
theorem dX1_printFrom_53 : decode cX1_printFrom 53 = .ok (.ifCond .le 37, 3) := by decide +kernel
theorem dX1_printFrom_56 : decode cX1_printFrom 56 = .ok (.aload_n 0, 1) := by decide +kernel
theorem dX1_printFrom_57 : decode cX1_printFrom 57 = .ok (.getfield 15, 3) := by decide +kernel
theorem dX1_printFrom_60 : decode cX1_printFrom 60 = .ok (.iload 4, 2) := by decide +kernel
theorem dX1_printFrom_62 : decode cX1_printFrom 62 = .ok (.aload_n 1, 1) := by decide +kernel
theorem dX1_printFrom_63 : decode cX1_printFrom 63 = .ok (.getfield 89, 3) := by decide +kernel
theorem dX1_printFrom_66 : decode cX1_printFrom 66 = .ok (.iload_n 3, 1) := by decide +kernel
theorem dX1_printFrom_67 : decode cX1_printFrom 67 = .ok (.iaload, 1) := by decide +kernel
theorem dX1_printFrom_68 : decode cX1_printFrom 68 = .ok (.iastore, 1) := by decide +kernel
theorem dX1_printFrom_69 : decode cX1_printFrom 69 = .ok (.iload_n 3, 1) := by decide +kernel
theorem dX1_printFrom_70 : decode cX1_printFrom 70 = .ok (.iconst 1, 1) := by decide +kernel
theorem dX1_printFrom_71 : decode cX1_printFrom 71 = .ok (.iadd, 1) := by decide +kernel
theorem dX1_printFrom_72 : decode cX1_printFrom 72 = .ok (.aload_n 1, 1) := by decide +kernel
theorem dX1_printFrom_73 : decode cX1_printFrom 73 = .ok (.getfield 86, 3) := by decide +kernel
theorem dX1_printFrom_76 : decode cX1_printFrom 76 = .ok (.if_icmp .ge 9, 3) := by decide +kernel
theorem dX1_printFrom_79 : decode cX1_printFrom 79 = .ok (.iload_n 3, 1) := by decide +kernel
theorem dX1_printFrom_80 : decode cX1_printFrom 80 = .ok (.iconst 1, 1) := by decide +kernel
theorem dX1_printFrom_81 : decode cX1_printFrom 81 = .ok (.iadd, 1) := by decide +kernel
theorem dX1_printFrom_82 : decode cX1_printFrom 82 = .ok (.goto 4, 3) := by decide +kernel
theorem dX1_printFrom_85 : decode cX1_printFrom 85 = .ok (.iconst 0, 1) := by decide +kernel
theorem dX1_printFrom_86 : decode cX1_printFrom 86 = .ok (.istore_n 3, 1) := by decide +kernel
theorem dX1_printFrom_87 : decode cX1_printFrom 87 = .ok (.goto 45, 3) := by decide +kernel
theorem dX1_printFrom_90 : decode cX1_printFrom 90 = .ok (.sipush 421, 3) := by decide +kernel
theorem dX1_printFrom_93 : decode cX1_printFrom 93 = .ok (.iload_n 2, 1) := by decide +kernel
theorem dX1_printFrom_94 : decode cX1_printFrom 94 = .ok (.imul, 1) := by decide +kernel
theorem dX1_printFrom_95 : decode cX1_printFrom 95 = .ok (.sipush 1663, 3) := by decide +kernel
theorem dX1_printFrom_98 : decode cX1_printFrom 98 = .ok (.iadd, 1) := by decide +kernel
theorem dX1_printFrom_99 : decode cX1_printFrom 99 = .ok (.sipush 10000, 3) := by decide +kernel
theorem dX1_printFrom_102 : decode cX1_printFrom 102 = .ok (.irem, 1) := by decide +kernel
theorem dX1_printFrom_103 : decode cX1_printFrom 103 = .ok (.istore_n 2, 1) := by decide +kernel
theorem dX1_printFrom_104 : decode cX1_printFrom 104 = .ok (.aload_n 1, 1) := by decide +kernel
theorem dX1_printFrom_105 : decode cX1_printFrom 105 = .ok (.getfield 45, 3) := by decide +kernel
theorem dX1_printFrom_108 : decode cX1_printFrom 108 = .ok (.iconst 1, 1) := by decide +kernel
theorem dX1_printFrom_109 : decode cX1_printFrom 109 = .ok (.iaload, 1) := by decide +kernel
theorem dX1_printFrom_110 : decode cX1_printFrom 110 = .ok (.istore 6, 2) := by decide +kernel
theorem dX1_printFrom_112 : decode cX1_printFrom 112 = .ok (.aload_n 0, 1) := by decide +kernel
theorem dX1_printFrom_113 : decode cX1_printFrom 113 = .ok (.getfield 15, 3) := by decide +kernel
theorem dX1_printFrom_116 : decode cX1_printFrom 116 = .ok (.iload 4, 2) := by decide +kernel
theorem dX1_printFrom_118 : decode cX1_printFrom 118 = .ok (.iload 6, 2) := by decide +kernel
theorem dX1_printFrom_120 : decode cX1_printFrom 120 = .ok (.ifCond .le 10, 3) := by decide +kernel
theorem dX1_printFrom_123 : decode cX1_printFrom 123 = .ok (.iload_n 2, 1) := by decide +kernel
theorem dX1_printFrom_124 : decode cX1_printFrom 124 = .ok (.iload 6, 2) := by decide +kernel
theorem dX1_printFrom_126 : decode cX1_printFrom 126 = .ok (.irem, 1) := by decide +kernel
theorem dX1_printFrom_127 : decode cX1_printFrom 127 = .ok (.goto 4, 3) := by decide +kernel
theorem dX1_printFrom_130 : decode cX1_printFrom 130 = .ok (.iconst 0, 1) := by decide +kernel
theorem dX1_printFrom_131 : decode cX1_printFrom 131 = .ok (.iastore, 1) := by decide +kernel
theorem dX1_printFrom_132 : decode cX1_printFrom 132 = .ok (.iinc 4 1, 3) := by decide +kernel
theorem dX1_printFrom_135 : decode cX1_printFrom 135 = .ok (.goto (-125), 3) := by decide +kernel
theorem dX1_printFrom_138 : decode cX1_printFrom 138 = .ok (.iload_n 2, 1) := by decide +kernel
theorem dX1_printFrom_139 : decode cX1_printFrom 139 = .ok (.ireturn, 1) := by decide +kernel
theorem dX1_boundTo_0 : decode cX1_boundTo 0 = .ok (.iload_n 1, 1) := by decide +kernel
theorem dX1_boundTo_1 : decode cX1_boundTo 1 = .ok (.aload_n 0, 1) := by decide +kernel
theorem dX1_boundTo_2 : decode cX1_boundTo 2 = .ok (.getfield 48, 3) := by decide +kernel
theorem dX1_boundTo_5 : decode cX1_boundTo 5 = .ok (.aload_n 0, 1) := by decide +kernel
theorem dX1_boundTo_6 : decode cX1_boundTo 6 = .ok (.getfield 9, 3) := by decide +kernel
theorem dX1_boundTo_9 : decode cX1_boundTo 9 = .ok (.iload_n 1, 1) := by decide +kernel
theorem dX1_boundTo_10 : decode cX1_boundTo 10 = .ok (.iaload, 1) := by decide +kernel
theorem dX1_boundTo_11 : decode cX1_boundTo 11 = .ok (.isub, 1) := by decide +kernel
theorem dX1_boundTo_12 : decode cX1_boundTo 12 = .ok (.isub, 1) := by decide +kernel
theorem dX1_boundTo_13 : decode cX1_boundTo 13 = .ok (.istore_n 2, 1) := by decide +kernel
theorem dX1_boundTo_14 : decode cX1_boundTo 14 = .ok (.iload_n 2, 1) := by decide +kernel
theorem dX1_boundTo_15 : decode cX1_boundTo 15 = .ok (.ifCond .lt 12, 3) := by decide +kernel
theorem dX1_boundTo_18 : decode cX1_boundTo 18 = .ok (.iload_n 2, 1) := by decide +kernel
theorem dX1_boundTo_19 : decode cX1_boundTo 19 = .ok (.iload_n 1, 1) := by decide +kernel
theorem dX1_boundTo_20 : decode cX1_boundTo 20 = .ok (.if_icmp .ge 7, 3) := by decide +kernel
theorem dX1_boundTo_23 : decode cX1_boundTo 23 = .ok (.iload_n 2, 1) := by decide +kernel
theorem dX1_boundTo_24 : decode cX1_boundTo 24 = .ok (.goto 5, 3) := by decide +kernel
theorem dX1_boundTo_27 : decode cX1_boundTo 27 = .ok (.bipush (-4), 2) := by decide +kernel
theorem dX1_boundTo_29 : decode cX1_boundTo 29 = .ok (.ireturn, 1) := by decide +kernel
theorem dX1_bind_0 : decode cX1_bind 0 = .ok (.aload_n 0, 1) := by decide +kernel
theorem dX1_bind_1 : decode cX1_bind 1 = .ok (.getfield 24, 3) := by decide +kernel
theorem dX1_bind_4 : decode cX1_bind 4 = .ok (.iconst 0, 1) := by decide +kernel
theorem dX1_bind_5 : decode cX1_bind 5 = .ok (.invokestatic 73, 3) := by decide +kernel
theorem dX1_bind_8 : decode cX1_bind 8 = .ok (.iconst 0, 1) := by decide +kernel
theorem dX1_bind_9 : decode cX1_bind 9 = .ok (.istore_n 1, 1) := by decide +kernel
theorem dX1_bind_10 : decode cX1_bind 10 = .ok (.iload_n 1, 1) := by decide +kernel
theorem dX1_bind_11 : decode cX1_bind 11 = .ok (.bipush 32, 2) := by decide +kernel
theorem dX1_bind_13 : decode cX1_bind 13 = .ok (.if_icmp .ge 53, 3) := by decide +kernel
theorem dX1_bind_16 : decode cX1_bind 16 = .ok (.aload_n 0, 1) := by decide +kernel
theorem dX1_bind_17 : decode cX1_bind 17 = .ok (.iload_n 1, 1) := by decide +kernel
theorem dX1_bind_18 : decode cX1_bind 18 = .ok (.invokevirtual 82, 3) := by decide +kernel
theorem dX1_bind_21 : decode cX1_bind 21 = .ok (.istore_n 2, 1) := by decide +kernel
theorem dX1_bind_22 : decode cX1_bind 22 = .ok (.iload_n 2, 1) := by decide +kernel
theorem dX1_bind_23 : decode cX1_bind 23 = .ok (.bipush (-4), 2) := by decide +kernel
theorem dX1_bind_25 : decode cX1_bind 25 = .ok (.if_icmp .ne 13, 3) := by decide +kernel
theorem dX1_bind_28 : decode cX1_bind 28 = .ok (.aload_n 0, 1) := by decide +kernel
theorem dX1_bind_29 : decode cX1_bind 29 = .ok (.getfield 27, 3) := by decide +kernel
theorem dX1_bind_32 : decode cX1_bind 32 = .ok (.iload_n 1, 1) := by decide +kernel
theorem dX1_bind_33 : decode cX1_bind 33 = .ok (.iload_n 1, 1) := by decide +kernel
theorem dX1_bind_34 : decode cX1_bind 34 = .ok (.iastore, 1) := by decide +kernel
theorem dX1_bind_35 : decode cX1_bind 35 = .ok (.goto 25, 3) := by decide +kernel
theorem dX1_bind_38 : decode cX1_bind 38 = .ok (.aload_n 0, 1) := by decide +kernel
theorem dX1_bind_39 : decode cX1_bind 39 = .ok (.getfield 27, 3) := by decide +kernel
theorem dX1_bind_42 : decode cX1_bind 42 = .ok (.iload_n 1, 1) := by decide +kernel
theorem dX1_bind_43 : decode cX1_bind 43 = .ok (.aload_n 0, 1) := by decide +kernel
theorem dX1_bind_44 : decode cX1_bind 44 = .ok (.getfield 27, 3) := by decide +kernel
theorem dX1_bind_47 : decode cX1_bind 47 = .ok (.iload_n 2, 1) := by decide +kernel
theorem dX1_bind_48 : decode cX1_bind 48 = .ok (.iaload, 1) := by decide +kernel
theorem dX1_bind_49 : decode cX1_bind 49 = .ok (.iastore, 1) := by decide +kernel
theorem dX1_bind_50 : decode cX1_bind 50 = .ok (.aload_n 0, 1) := by decide +kernel
theorem dX1_bind_51 : decode cX1_bind 51 = .ok (.getfield 24, 3) := by decide +kernel
theorem dX1_bind_54 : decode cX1_bind 54 = .ok (.iload_n 2, 1) := by decide +kernel
theorem dX1_bind_55 : decode cX1_bind 55 = .ok (.dup2, 1) := by decide +kernel
theorem dX1_bind_56 : decode cX1_bind 56 = .ok (.iaload, 1) := by decide +kernel
theorem dX1_bind_57 : decode cX1_bind 57 = .ok (.iconst 1, 1) := by decide +kernel
theorem dX1_bind_58 : decode cX1_bind 58 = .ok (.iadd, 1) := by decide +kernel
theorem dX1_bind_59 : decode cX1_bind 59 = .ok (.iastore, 1) := by decide +kernel
theorem dX1_bind_60 : decode cX1_bind 60 = .ok (.iinc 1 1, 3) := by decide +kernel
theorem dX1_bind_63 : decode cX1_bind 63 = .ok (.goto (-53), 3) := by decide +kernel
theorem dX1_bind_66 : decode cX1_bind 66 = .ok (.return_, 1) := by decide +kernel
theorem dX1_watch_0 : decode cX1_watch 0 = .ok (.iconst 0, 1) := by decide +kernel
theorem dX1_watch_1 : decode cX1_watch 1 = .ok (.istore_n 1, 1) := by decide +kernel
theorem dX1_watch_2 : decode cX1_watch 2 = .ok (.iconst 0, 1) := by decide +kernel
theorem dX1_watch_3 : decode cX1_watch 3 = .ok (.istore_n 2, 1) := by decide +kernel
theorem dX1_watch_4 : decode cX1_watch 4 = .ok (.iload_n 2, 1) := by decide +kernel
theorem dX1_watch_5 : decode cX1_watch 5 = .ok (.bipush 32, 2) := by decide +kernel
theorem dX1_watch_7 : decode cX1_watch 7 = .ok (.if_icmp .ge 55, 3) := by decide +kernel
theorem dX1_watch_10 : decode cX1_watch 10 = .ok (.aload_n 0, 1) := by decide +kernel
theorem dX1_watch_11 : decode cX1_watch 11 = .ok (.iload_n 2, 1) := by decide +kernel
theorem dX1_watch_12 : decode cX1_watch 12 = .ok (.iload_n 1, 1) := by decide +kernel
theorem dX1_watch_13 : decode cX1_watch 13 = .ok (.invokevirtual 92, 3) := by decide +kernel
theorem dX1_watch_16 : decode cX1_watch 16 = .ok (.istore_n 3, 1) := by decide +kernel
theorem dX1_watch_17 : decode cX1_watch 17 = .ok (.iload_n 3, 1) := by decide +kernel
theorem dX1_watch_18 : decode cX1_watch 18 = .ok (.bipush (-4), 2) := by decide +kernel
theorem dX1_watch_20 : decode cX1_watch 20 = .ok (.if_icmp .ne 14, 3) := by decide +kernel
theorem dX1_watch_23 : decode cX1_watch 23 = .ok (.aload_n 0, 1) := by decide +kernel
theorem dX1_watch_24 : decode cX1_watch 24 = .ok (.getfield 21, 3) := by decide +kernel
theorem dX1_watch_27 : decode cX1_watch 27 = .ok (.iload_n 2, 1) := by decide +kernel
theorem dX1_watch_28 : decode cX1_watch 28 = .ok (.bipush (-4), 2) := by decide +kernel
theorem dX1_watch_30 : decode cX1_watch 30 = .ok (.iastore, 1) := by decide +kernel
theorem dX1_watch_31 : decode cX1_watch 31 = .ok (.goto 25, 3) := by decide +kernel
theorem dX1_watch_34 : decode cX1_watch 34 = .ok (.iload_n 3, 1) := by decide +kernel
theorem dX1_watch_35 : decode cX1_watch 35 = .ok (.istore_n 1, 1) := by decide +kernel
theorem dX1_watch_36 : decode cX1_watch 36 = .ok (.aload_n 0, 1) := by decide +kernel
theorem dX1_watch_37 : decode cX1_watch 37 = .ok (.getfield 21, 3) := by decide +kernel
theorem dX1_watch_40 : decode cX1_watch 40 = .ok (.iload_n 2, 1) := by decide +kernel
theorem dX1_watch_41 : decode cX1_watch 41 = .ok (.aload_n 0, 1) := by decide +kernel
theorem dX1_watch_42 : decode cX1_watch 42 = .ok (.getfield 55, 3) := by decide +kernel
theorem dX1_watch_45 : decode cX1_watch 45 = .ok (.ifCond .eq 9, 3) := by decide +kernel
theorem dX1_watch_48 : decode cX1_watch 48 = .ok (.iconst 4, 1) := by decide +kernel
theorem dX1_watch_49 : decode cX1_watch 49 = .ok (.iload_n 3, 1) := by decide +kernel
theorem dX1_watch_50 : decode cX1_watch 50 = .ok (.isub, 1) := by decide +kernel
theorem dX1_watch_51 : decode cX1_watch 51 = .ok (.goto 4, 3) := by decide +kernel
theorem dX1_watch_54 : decode cX1_watch 54 = .ok (.iload_n 3, 1) := by decide +kernel
theorem dX1_watch_55 : decode cX1_watch 55 = .ok (.iastore, 1) := by decide +kernel
theorem dX1_watch_56 : decode cX1_watch 56 = .ok (.iinc 2 1, 3) := by decide +kernel
theorem dX1_watch_59 : decode cX1_watch 59 = .ok (.goto (-55), 3) := by decide +kernel
theorem dX1_watch_62 : decode cX1_watch 62 = .ok (.return_, 1) := by decide +kernel
theorem dX1_nearestFitting_0 : decode cX1_nearestFitting 0 = .ok (.iconst 0, 1) := by decide +kernel
theorem dX1_nearestFitting_1 : decode cX1_nearestFitting 1 = .ok (.istore_n 3, 1) := by decide +kernel
theorem dX1_nearestFitting_2 : decode cX1_nearestFitting 2 = .ok (.iload_n 3, 1) := by decide +kernel
theorem dX1_nearestFitting_3 : decode cX1_nearestFitting 3 = .ok (.iconst 5, 1) := by decide +kernel
theorem dX1_nearestFitting_4 : decode cX1_nearestFitting 4 = .ok (.if_icmp .ge 52, 3) := by decide +kernel
theorem dX1_nearestFitting_7 : decode cX1_nearestFitting 7 = .ok (.iload_n 2, 1) := by decide +kernel
theorem dX1_nearestFitting_8 : decode cX1_nearestFitting 8 = .ok (.iload_n 3, 1) := by decide +kernel
theorem dX1_nearestFitting_9 : decode cX1_nearestFitting 9 = .ok (.iadd, 1) := by decide +kernel
theorem dX1_nearestFitting_10 : decode cX1_nearestFitting 10 = .ok (.iconst 5, 1) := by decide +kernel
theorem dX1_nearestFitting_11 : decode cX1_nearestFitting 11 = .ok (.if_icmp .ge 18, 3) := by decide +kernel
theorem dX1_nearestFitting_14 : decode cX1_nearestFitting 14 = .ok (.aload_n 0, 1) := by decide +kernel
theorem dX1_nearestFitting_15 : decode cX1_nearestFitting 15 = .ok (.iload_n 1, 1) := by decide +kernel
theorem dX1_nearestFitting_16 : decode cX1_nearestFitting 16 = .ok (.iload_n 2, 1) := by decide +kernel
theorem dX1_nearestFitting_17 : decode cX1_nearestFitting 17 = .ok (.iload_n 3, 1) := by decide +kernel
theorem dX1_nearestFitting_18 : decode cX1_nearestFitting 18 = .ok (.iadd, 1) := by decide +kernel
theorem dX1_nearestFitting_19 : decode cX1_nearestFitting 19 = .ok (.invokevirtual 95, 3) := by decide +kernel
theorem dX1_nearestFitting_22 : decode cX1_nearestFitting 22 = .ok (.ifCond .eq 7, 3) := by decide +kernel
theorem dX1_nearestFitting_25 : decode cX1_nearestFitting 25 = .ok (.iload_n 2, 1) := by decide +kernel
theorem dX1_nearestFitting_26 : decode cX1_nearestFitting 26 = .ok (.iload_n 3, 1) := by decide +kernel
theorem dX1_nearestFitting_27 : decode cX1_nearestFitting 27 = .ok (.iadd, 1) := by decide +kernel
theorem dX1_nearestFitting_28 : decode cX1_nearestFitting 28 = .ok (.ireturn, 1) := by decide +kernel
theorem dX1_nearestFitting_29 : decode cX1_nearestFitting 29 = .ok (.iload_n 2, 1) := by decide +kernel
theorem dX1_nearestFitting_30 : decode cX1_nearestFitting 30 = .ok (.iload_n 3, 1) := by decide +kernel
theorem dX1_nearestFitting_31 : decode cX1_nearestFitting 31 = .ok (.isub, 1) := by decide +kernel
theorem dX1_nearestFitting_32 : decode cX1_nearestFitting 32 = .ok (.ifCond .lt 18, 3) := by decide +kernel
theorem dX1_nearestFitting_35 : decode cX1_nearestFitting 35 = .ok (.aload_n 0, 1) := by decide +kernel
theorem dX1_nearestFitting_36 : decode cX1_nearestFitting 36 = .ok (.iload_n 1, 1) := by decide +kernel
theorem dX1_nearestFitting_37 : decode cX1_nearestFitting 37 = .ok (.iload_n 2, 1) := by decide +kernel
theorem dX1_nearestFitting_38 : decode cX1_nearestFitting 38 = .ok (.iload_n 3, 1) := by decide +kernel
theorem dX1_nearestFitting_39 : decode cX1_nearestFitting 39 = .ok (.isub, 1) := by decide +kernel
theorem dX1_nearestFitting_40 : decode cX1_nearestFitting 40 = .ok (.invokevirtual 95, 3) := by decide +kernel
theorem dX1_nearestFitting_43 : decode cX1_nearestFitting 43 = .ok (.ifCond .eq 7, 3) := by decide +kernel
theorem dX1_nearestFitting_46 : decode cX1_nearestFitting 46 = .ok (.iload_n 2, 1) := by decide +kernel
theorem dX1_nearestFitting_47 : decode cX1_nearestFitting 47 = .ok (.iload_n 3, 1) := by decide +kernel
theorem dX1_nearestFitting_48 : decode cX1_nearestFitting 48 = .ok (.isub, 1) := by decide +kernel
theorem dX1_nearestFitting_49 : decode cX1_nearestFitting 49 = .ok (.ireturn, 1) := by decide +kernel
theorem dX1_nearestFitting_50 : decode cX1_nearestFitting 50 = .ok (.iinc 3 1, 3) := by decide +kernel
theorem dX1_nearestFitting_53 : decode cX1_nearestFitting 53 = .ok (.goto (-51), 3) := by decide +kernel
theorem dX1_nearestFitting_56 : decode cX1_nearestFitting 56 = .ok (.bipush (-4), 2) := by decide +kernel
theorem dX1_nearestFitting_58 : decode cX1_nearestFitting 58 = .ok (.ireturn, 1) := by decide +kernel
theorem dX1_isFitting_0 : decode cX1_isFitting 0 = .ok (.aload_n 0, 1) := by decide +kernel
theorem dX1_isFitting_1 : decode cX1_isFitting 1 = .ok (.getfield 48, 3) := by decide +kernel
theorem dX1_isFitting_4 : decode cX1_isFitting 4 = .ok (.iload_n 2, 1) := by decide +kernel
theorem dX1_isFitting_5 : decode cX1_isFitting 5 = .ok (.isub, 1) := by decide +kernel
theorem dX1_isFitting_6 : decode cX1_isFitting 6 = .ok (.istore_n 3, 1) := by decide +kernel
theorem dX1_isFitting_7 : decode cX1_isFitting 7 = .ok (.iload_n 3, 1) := by decide +kernel
theorem dX1_isFitting_8 : decode cX1_isFitting 8 = .ok (.ifCond .lt 8, 3) := by decide +kernel
theorem dX1_isFitting_11 : decode cX1_isFitting 11 = .ok (.iload_n 1, 1) := by decide +kernel
theorem dX1_isFitting_12 : decode cX1_isFitting 12 = .ok (.iload_n 3, 1) := by decide +kernel
theorem dX1_isFitting_13 : decode cX1_isFitting 13 = .ok (.if_icmp .ge 5, 3) := by decide +kernel
theorem dX1_isFitting_16 : decode cX1_isFitting 16 = .ok (.iconst 0, 1) := by decide +kernel
theorem dX1_isFitting_17 : decode cX1_isFitting 17 = .ok (.ireturn, 1) := by decide +kernel
theorem dX1_isFitting_18 : decode cX1_isFitting 18 = .ok (.iload_n 1, 1) := by decide +kernel
theorem dX1_isFitting_19 : decode cX1_isFitting 19 = .ok (.aload_n 0, 1) := by decide +kernel
theorem dX1_isFitting_20 : decode cX1_isFitting 20 = .ok (.getfield 52, 3) := by decide +kernel
theorem dX1_isFitting_23 : decode cX1_isFitting 23 = .ok (.isub, 1) := by decide +kernel
theorem dX1_isFitting_24 : decode cX1_isFitting 24 = .ok (.iload_n 3, 1) := by decide +kernel
theorem dX1_isFitting_25 : decode cX1_isFitting 25 = .ok (.invokestatic 99, 3) := by decide +kernel
theorem dX1_isFitting_28 : decode cX1_isFitting 28 = .ok (.istore 4, 2) := by decide +kernel
theorem dX1_isFitting_30 : decode cX1_isFitting 30 = .ok (.iload_n 1, 1) := by decide +kernel
theorem dX1_isFitting_31 : decode cX1_isFitting 31 = .ok (.aload_n 0, 1) := by decide +kernel
theorem dX1_isFitting_32 : decode cX1_isFitting 32 = .ok (.getfield 52, 3) := by decide +kernel
theorem dX1_isFitting_35 : decode cX1_isFitting 35 = .ok (.iadd, 1) := by decide +kernel
theorem dX1_isFitting_36 : decode cX1_isFitting 36 = .ok (.bipush 31, 2) := by decide +kernel
theorem dX1_isFitting_38 : decode cX1_isFitting 38 = .ok (.invokestatic 104, 3) := by decide +kernel
theorem dX1_isFitting_41 : decode cX1_isFitting 41 = .ok (.istore 5, 2) := by decide +kernel
theorem dX1_isFitting_43 : decode cX1_isFitting 43 = .ok (.iload 4, 2) := by decide +kernel
theorem dX1_isFitting_45 : decode cX1_isFitting 45 = .ok (.istore 6, 2) := by decide +kernel
theorem dX1_isFitting_47 : decode cX1_isFitting 47 = .ok (.iload 6, 2) := by decide +kernel
theorem dX1_isFitting_49 : decode cX1_isFitting 49 = .ok (.iload 5, 2) := by decide +kernel
theorem dX1_isFitting_51 : decode cX1_isFitting 51 = .ok (.if_icmp .gt 30, 3) := by decide +kernel
theorem dX1_isFitting_54 : decode cX1_isFitting 54 = .ok (.aload_n 0, 1) := by decide +kernel
theorem dX1_isFitting_55 : decode cX1_isFitting 55 = .ok (.getfield 15, 3) := by decide +kernel
theorem dX1_isFitting_58 : decode cX1_isFitting 58 = .ok (.iload 6, 2) := by decide +kernel
theorem dX1_isFitting_60 : decode cX1_isFitting 60 = .ok (.iaload, 1) := by decide +kernel
theorem dX1_isFitting_61 : decode cX1_isFitting 61 = .ok (.aload_n 0, 1) := by decide +kernel
theorem dX1_isFitting_62 : decode cX1_isFitting 62 = .ok (.getfield 15, 3) := by decide +kernel
theorem dX1_isFitting_65 : decode cX1_isFitting 65 = .ok (.iload 6, 2) := by decide +kernel
theorem dX1_isFitting_67 : decode cX1_isFitting 67 = .ok (.iload_n 3, 1) := by decide +kernel
theorem dX1_isFitting_68 : decode cX1_isFitting 68 = .ok (.isub, 1) := by decide +kernel
theorem dX1_isFitting_69 : decode cX1_isFitting 69 = .ok (.iaload, 1) := by decide +kernel
theorem dX1_isFitting_70 : decode cX1_isFitting 70 = .ok (.if_icmp .eq 5, 3) := by decide +kernel
theorem dX1_isFitting_73 : decode cX1_isFitting 73 = .ok (.iconst 0, 1) := by decide +kernel
theorem dX1_isFitting_74 : decode cX1_isFitting 74 = .ok (.ireturn, 1) := by decide +kernel
theorem dX1_isFitting_75 : decode cX1_isFitting 75 = .ok (.iinc 6 1, 3) := by decide +kernel
theorem dX1_isFitting_78 : decode cX1_isFitting 78 = .ok (.goto (-31), 3) := by decide +kernel
theorem dX1_isFitting_81 : decode cX1_isFitting 81 = .ok (.iconst 1, 1) := by decide +kernel
theorem dX1_isFitting_82 : decode cX1_isFitting 82 = .ok (.ireturn, 1) := by decide +kernel
theorem dX1_placesOfKind_0 : decode cX1_placesOfKind 0 = .ok (.iconst 0, 1) := by decide +kernel
theorem dX1_placesOfKind_1 : decode cX1_placesOfKind 1 = .ok (.istore_n 2, 1) := by decide +kernel
theorem dX1_placesOfKind_2 : decode cX1_placesOfKind 2 = .ok (.iconst 0, 1) := by decide +kernel
theorem dX1_placesOfKind_3 : decode cX1_placesOfKind 3 = .ok (.istore_n 3, 1) := by decide +kernel
theorem dX1_placesOfKind_4 : decode cX1_placesOfKind 4 = .ok (.iload_n 3, 1) := by decide +kernel
theorem dX1_placesOfKind_5 : decode cX1_placesOfKind 5 = .ok (.bipush 32, 2) := by decide +kernel
theorem dX1_placesOfKind_7 : decode cX1_placesOfKind 7 = .ok (.if_icmp .ge 21, 3) := by decide +kernel
theorem dX1_placesOfKind_10 : decode cX1_placesOfKind 10 = .ok (.aload_n 0, 1) := by decide +kernel
theorem dX1_placesOfKind_11 : decode cX1_placesOfKind 11 = .ok (.iload_n 3, 1) := by decide +kernel
theorem dX1_placesOfKind_12 : decode cX1_placesOfKind 12 = .ok (.iload_n 1, 1) := by decide +kernel
theorem dX1_placesOfKind_13 : decode cX1_placesOfKind 13 = .ok (.invokevirtual 107, 3) := by decide +kernel
theorem dX1_placesOfKind_16 : decode cX1_placesOfKind 16 = .ok (.ifCond .eq 6, 3) := by decide +kernel
theorem dX1_placesOfKind_19 : decode cX1_placesOfKind 19 = .ok (.iinc 2 1, 3) := by decide +kernel
theorem dX1_placesOfKind_22 : decode cX1_placesOfKind 22 = .ok (.iinc 3 1, 3) := by decide +kernel
theorem dX1_placesOfKind_25 : decode cX1_placesOfKind 25 = .ok (.goto (-21), 3) := by decide +kernel
theorem dX1_placesOfKind_28 : decode cX1_placesOfKind 28 = .ok (.iload_n 2, 1) := by decide +kernel
theorem dX1_placesOfKind_29 : decode cX1_placesOfKind 29 = .ok (.ireturn, 1) := by decide +kernel
theorem dX1_isOfKind_0 : decode cX1_isOfKind 0 = .ok (.iload_n 2, 1) := by decide +kernel
theorem dX1_isOfKind_1 : decode cX1_isOfKind 1 = .ok (.tableswitch 187 0 7 #[47, 63, 79, 94, 100, 121, 153, 170], 47) := by decide +kernel
theorem dX1_isOfKind_48 : decode cX1_isOfKind 48 = .ok (.aload_n 0, 1) := by decide +kernel
theorem dX1_isOfKind_49 : decode cX1_isOfKind 49 = .ok (.iload_n 1, 1) := by decide +kernel
theorem dX1_isOfKind_50 : decode cX1_isOfKind 50 = .ok (.invokevirtual 82, 3) := by decide +kernel
theorem dX1_isOfKind_53 : decode cX1_isOfKind 53 = .ok (.bipush (-4), 2) := by decide +kernel
theorem dX1_isOfKind_55 : decode cX1_isOfKind 55 = .ok (.if_icmp .ne 7, 3) := by decide +kernel
theorem dX1_isOfKind_58 : decode cX1_isOfKind 58 = .ok (.iconst 1, 1) := by decide +kernel
theorem dX1_isOfKind_59 : decode cX1_isOfKind 59 = .ok (.goto 4, 3) := by decide +kernel
theorem dX1_isOfKind_62 : decode cX1_isOfKind 62 = .ok (.iconst 0, 1) := by decide +kernel
theorem dX1_isOfKind_63 : decode cX1_isOfKind 63 = .ok (.ireturn, 1) := by decide +kernel
theorem dX1_isOfKind_64 : decode cX1_isOfKind 64 = .ok (.aload_n 0, 1) := by decide +kernel
theorem dX1_isOfKind_65 : decode cX1_isOfKind 65 = .ok (.getfield 24, 3) := by decide +kernel
theorem dX1_isOfKind_68 : decode cX1_isOfKind 68 = .ok (.iload_n 1, 1) := by decide +kernel
theorem dX1_isOfKind_69 : decode cX1_isOfKind 69 = .ok (.iaload, 1) := by decide +kernel
theorem dX1_isOfKind_70 : decode cX1_isOfKind 70 = .ok (.iconst 2, 1) := by decide +kernel
theorem dX1_isOfKind_71 : decode cX1_isOfKind 71 = .ok (.if_icmp .lt 7, 3) := by decide +kernel
theorem dX1_isOfKind_74 : decode cX1_isOfKind 74 = .ok (.iconst 1, 1) := by decide +kernel
theorem dX1_isOfKind_75 : decode cX1_isOfKind 75 = .ok (.goto 4, 3) := by decide +kernel
theorem dX1_isOfKind_78 : decode cX1_isOfKind 78 = .ok (.iconst 0, 1) := by decide +kernel
theorem dX1_isOfKind_79 : decode cX1_isOfKind 79 = .ok (.ireturn, 1) := by decide +kernel
theorem dX1_isOfKind_80 : decode cX1_isOfKind 80 = .ok (.aload_n 0, 1) := by decide +kernel
theorem dX1_isOfKind_81 : decode cX1_isOfKind 81 = .ok (.getfield 24, 3) := by decide +kernel
theorem dX1_isOfKind_84 : decode cX1_isOfKind 84 = .ok (.iload_n 1, 1) := by decide +kernel
theorem dX1_isOfKind_85 : decode cX1_isOfKind 85 = .ok (.iaload, 1) := by decide +kernel
theorem dX1_isOfKind_86 : decode cX1_isOfKind 86 = .ok (.ifCond .ne 7, 3) := by decide +kernel
theorem dX1_isOfKind_89 : decode cX1_isOfKind 89 = .ok (.iconst 1, 1) := by decide +kernel
theorem dX1_isOfKind_90 : decode cX1_isOfKind 90 = .ok (.goto 4, 3) := by decide +kernel
theorem dX1_isOfKind_93 : decode cX1_isOfKind 93 = .ok (.iconst 0, 1) := by decide +kernel
theorem dX1_isOfKind_94 : decode cX1_isOfKind 94 = .ok (.ireturn, 1) := by decide +kernel
theorem dX1_isOfKind_95 : decode cX1_isOfKind 95 = .ok (.aload_n 0, 1) := by decide +kernel
theorem dX1_isOfKind_96 : decode cX1_isOfKind 96 = .ok (.iload_n 1, 1) := by decide +kernel
theorem dX1_isOfKind_97 : decode cX1_isOfKind 97 = .ok (.invokevirtual 110, 3) := by decide +kernel
theorem dX1_isOfKind_100 : decode cX1_isOfKind 100 = .ok (.ireturn, 1) := by decide +kernel
theorem dX1_isOfKind_101 : decode cX1_isOfKind 101 = .ok (.aload_n 0, 1) := by decide +kernel
theorem dX1_isOfKind_102 : decode cX1_isOfKind 102 = .ok (.getfield 21, 3) := by decide +kernel
theorem dX1_isOfKind_105 : decode cX1_isOfKind 105 = .ok (.iload_n 1, 1) := by decide +kernel
theorem dX1_isOfKind_106 : decode cX1_isOfKind 106 = .ok (.iaload, 1) := by decide +kernel
theorem dX1_isOfKind_107 : decode cX1_isOfKind 107 = .ok (.aload_n 0, 1) := by decide +kernel
theorem dX1_isOfKind_108 : decode cX1_isOfKind 108 = .ok (.getfield 9, 3) := by decide +kernel
theorem dX1_isOfKind_111 : decode cX1_isOfKind 111 = .ok (.iload_n 1, 1) := by decide +kernel
theorem dX1_isOfKind_112 : decode cX1_isOfKind 112 = .ok (.iaload, 1) := by decide +kernel
theorem dX1_isOfKind_113 : decode cX1_isOfKind 113 = .ok (.if_icmp .ne 7, 3) := by decide +kernel
theorem dX1_isOfKind_116 : decode cX1_isOfKind 116 = .ok (.iconst 1, 1) := by decide +kernel
theorem dX1_isOfKind_117 : decode cX1_isOfKind 117 = .ok (.goto 4, 3) := by decide +kernel
theorem dX1_isOfKind_120 : decode cX1_isOfKind 120 = .ok (.iconst 0, 1) := by decide +kernel
theorem dX1_isOfKind_121 : decode cX1_isOfKind 121 = .ok (.ireturn, 1) := by decide +kernel
theorem dX1_isOfKind_122 : decode cX1_isOfKind 122 = .ok (.aload_n 0, 1) := by decide +kernel
theorem dX1_isOfKind_123 : decode cX1_isOfKind 123 = .ok (.getfield 21, 3) := by decide +kernel
theorem dX1_isOfKind_126 : decode cX1_isOfKind 126 = .ok (.iload_n 1, 1) := by decide +kernel
theorem dX1_isOfKind_127 : decode cX1_isOfKind 127 = .ok (.iaload, 1) := by decide +kernel
theorem dX1_isOfKind_128 : decode cX1_isOfKind 128 = .ok (.bipush (-4), 2) := by decide +kernel
theorem dX1_isOfKind_130 : decode cX1_isOfKind 130 = .ok (.if_icmp .eq 22, 3) := by decide +kernel
theorem dX1_isOfKind_133 : decode cX1_isOfKind 133 = .ok (.aload_n 0, 1) := by decide +kernel
theorem dX1_isOfKind_134 : decode cX1_isOfKind 134 = .ok (.getfield 21, 3) := by decide +kernel
theorem dX1_isOfKind_137 : decode cX1_isOfKind 137 = .ok (.iload_n 1, 1) := by decide +kernel
theorem dX1_isOfKind_138 : decode cX1_isOfKind 138 = .ok (.iaload, 1) := by decide +kernel
theorem dX1_isOfKind_139 : decode cX1_isOfKind 139 = .ok (.aload_n 0, 1) := by decide +kernel
theorem dX1_isOfKind_140 : decode cX1_isOfKind 140 = .ok (.getfield 9, 3) := by decide +kernel
theorem dX1_isOfKind_143 : decode cX1_isOfKind 143 = .ok (.iload_n 1, 1) := by decide +kernel
theorem dX1_isOfKind_144 : decode cX1_isOfKind 144 = .ok (.iaload, 1) := by decide +kernel
theorem dX1_isOfKind_145 : decode cX1_isOfKind 145 = .ok (.if_icmp .eq 7, 3) := by decide +kernel
theorem dX1_isOfKind_148 : decode cX1_isOfKind 148 = .ok (.iconst 1, 1) := by decide +kernel
theorem dX1_isOfKind_149 : decode cX1_isOfKind 149 = .ok (.goto 4, 3) := by decide +kernel
theorem dX1_isOfKind_152 : decode cX1_isOfKind 152 = .ok (.iconst 0, 1) := by decide +kernel
theorem dX1_isOfKind_153 : decode cX1_isOfKind 153 = .ok (.ireturn, 1) := by decide +kernel
theorem dX1_isOfKind_154 : decode cX1_isOfKind 154 = .ok (.aload_n 0, 1) := by decide +kernel
theorem dX1_isOfKind_155 : decode cX1_isOfKind 155 = .ok (.getfield 21, 3) := by decide +kernel
theorem dX1_isOfKind_158 : decode cX1_isOfKind 158 = .ok (.iload_n 1, 1) := by decide +kernel
theorem dX1_isOfKind_159 : decode cX1_isOfKind 159 = .ok (.iaload, 1) := by decide +kernel
theorem dX1_isOfKind_160 : decode cX1_isOfKind 160 = .ok (.bipush (-4), 2) := by decide +kernel
theorem dX1_isOfKind_162 : decode cX1_isOfKind 162 = .ok (.if_icmp .ne 7, 3) := by decide +kernel
theorem dX1_isOfKind_165 : decode cX1_isOfKind 165 = .ok (.iconst 1, 1) := by decide +kernel
theorem dX1_isOfKind_166 : decode cX1_isOfKind 166 = .ok (.goto 4, 3) := by decide +kernel
theorem dX1_isOfKind_169 : decode cX1_isOfKind 169 = .ok (.iconst 0, 1) := by decide +kernel
theorem dX1_isOfKind_170 : decode cX1_isOfKind 170 = .ok (.ireturn, 1) := by decide +kernel
theorem dX1_isOfKind_171 : decode cX1_isOfKind 171 = .ok (.aload_n 0, 1) := by decide +kernel
theorem dX1_isOfKind_172 : decode cX1_isOfKind 172 = .ok (.getfield 18, 3) := by decide +kernel
theorem dX1_isOfKind_175 : decode cX1_isOfKind 175 = .ok (.iload_n 1, 1) := by decide +kernel
theorem dX1_isOfKind_176 : decode cX1_isOfKind 176 = .ok (.iaload, 1) := by decide +kernel
theorem dX1_isOfKind_177 : decode cX1_isOfKind 177 = .ok (.bipush (-4), 2) := by decide +kernel
theorem dX1_isOfKind_179 : decode cX1_isOfKind 179 = .ok (.if_icmp .eq 7, 3) := by decide +kernel
theorem dX1_isOfKind_182 : decode cX1_isOfKind 182 = .ok (.iconst 1, 1) := by decide +kernel
theorem dX1_isOfKind_183 : decode cX1_isOfKind 183 = .ok (.goto 4, 3) := by decide +kernel
theorem dX1_isOfKind_186 : decode cX1_isOfKind 186 = .ok (.iconst 0, 1) := by decide +kernel
theorem dX1_isOfKind_187 : decode cX1_isOfKind 187 = .ok (.ireturn, 1) := by decide +kernel
theorem dX1_isOfKind_188 : decode cX1_isOfKind 188 = .ok (.iconst 0, 1) := by decide +kernel
theorem dX1_isOfKind_189 : decode cX1_isOfKind 189 = .ok (.ireturn, 1) := by decide +kernel
theorem dX1_isTorn_0 : decode cX1_isTorn 0 = .ok (.aload_n 0, 1) := by decide +kernel
theorem dX1_isTorn_1 : decode cX1_isTorn 1 = .ok (.iload_n 1, 1) := by decide +kernel
theorem dX1_isTorn_2 : decode cX1_isTorn 2 = .ok (.invokevirtual 82, 3) := by decide +kernel
theorem dX1_isTorn_5 : decode cX1_isTorn 5 = .ok (.istore_n 2, 1) := by decide +kernel
theorem dX1_isTorn_6 : decode cX1_isTorn 6 = .ok (.iload_n 2, 1) := by decide +kernel
theorem dX1_isTorn_7 : decode cX1_isTorn 7 = .ok (.bipush (-4), 2) := by decide +kernel
theorem dX1_isTorn_9 : decode cX1_isTorn 9 = .ok (.if_icmp .eq 22, 3) := by decide +kernel
theorem dX1_isTorn_12 : decode cX1_isTorn 12 = .ok (.aload_n 0, 1) := by decide +kernel
theorem dX1_isTorn_13 : decode cX1_isTorn 13 = .ok (.getfield 15, 3) := by decide +kernel
theorem dX1_isTorn_16 : decode cX1_isTorn 16 = .ok (.iload_n 1, 1) := by decide +kernel
theorem dX1_isTorn_17 : decode cX1_isTorn 17 = .ok (.iaload, 1) := by decide +kernel
theorem dX1_isTorn_18 : decode cX1_isTorn 18 = .ok (.aload_n 0, 1) := by decide +kernel
theorem dX1_isTorn_19 : decode cX1_isTorn 19 = .ok (.getfield 15, 3) := by decide +kernel
theorem dX1_isTorn_22 : decode cX1_isTorn 22 = .ok (.iload_n 2, 1) := by decide +kernel
theorem dX1_isTorn_23 : decode cX1_isTorn 23 = .ok (.iaload, 1) := by decide +kernel
theorem dX1_isTorn_24 : decode cX1_isTorn 24 = .ok (.if_icmp .eq 7, 3) := by decide +kernel
theorem dX1_isTorn_27 : decode cX1_isTorn 27 = .ok (.iconst 1, 1) := by decide +kernel
theorem dX1_isTorn_28 : decode cX1_isTorn 28 = .ok (.goto 4, 3) := by decide +kernel
theorem dX1_isTorn_31 : decode cX1_isTorn 31 = .ok (.iconst 0, 1) := by decide +kernel
theorem dX1_isTorn_32 : decode cX1_isTorn 32 = .ok (.ireturn, 1) := by decide +kernel
theorem dX1_placesOfChain_0 : decode cX1_placesOfChain 0 = .ok (.iconst 0, 1) := by decide +kernel
theorem dX1_placesOfChain_1 : decode cX1_placesOfChain 1 = .ok (.istore_n 2, 1) := by decide +kernel
theorem dX1_placesOfChain_2 : decode cX1_placesOfChain 2 = .ok (.iconst 0, 1) := by decide +kernel
theorem dX1_placesOfChain_3 : decode cX1_placesOfChain 3 = .ok (.istore_n 3, 1) := by decide +kernel
theorem dX1_placesOfChain_4 : decode cX1_placesOfChain 4 = .ok (.iload_n 3, 1) := by decide +kernel
theorem dX1_placesOfChain_5 : decode cX1_placesOfChain 5 = .ok (.bipush 32, 2) := by decide +kernel
theorem dX1_placesOfChain_7 : decode cX1_placesOfChain 7 = .ok (.if_icmp .ge 22, 3) := by decide +kernel
theorem dX1_placesOfChain_10 : decode cX1_placesOfChain 10 = .ok (.aload_n 0, 1) := by decide +kernel
theorem dX1_placesOfChain_11 : decode cX1_placesOfChain 11 = .ok (.getfield 27, 3) := by decide +kernel
theorem dX1_placesOfChain_14 : decode cX1_placesOfChain 14 = .ok (.iload_n 3, 1) := by decide +kernel
theorem dX1_placesOfChain_15 : decode cX1_placesOfChain 15 = .ok (.iaload, 1) := by decide +kernel
theorem dX1_placesOfChain_16 : decode cX1_placesOfChain 16 = .ok (.iload_n 1, 1) := by decide +kernel
theorem dX1_placesOfChain_17 : decode cX1_placesOfChain 17 = .ok (.if_icmp .ne 6, 3) := by decide +kernel
theorem dX1_placesOfChain_20 : decode cX1_placesOfChain 20 = .ok (.iinc 2 1, 3) := by decide +kernel
theorem dX1_placesOfChain_23 : decode cX1_placesOfChain 23 = .ok (.iinc 3 1, 3) := by decide +kernel
theorem dX1_placesOfChain_26 : decode cX1_placesOfChain 26 = .ok (.goto (-22), 3) := by decide +kernel
theorem dX1_placesOfChain_29 : decode cX1_placesOfChain 29 = .ok (.iload_n 2, 1) := by decide +kernel
theorem dX1_placesOfChain_30 : decode cX1_placesOfChain 30 = .ok (.ireturn, 1) := by decide +kernel
theorem dX1_longestChain_0 : decode cX1_longestChain 0 = .ok (.iconst 0, 1) := by decide +kernel
theorem dX1_longestChain_1 : decode cX1_longestChain 1 = .ok (.istore_n 1, 1) := by decide +kernel
theorem dX1_longestChain_2 : decode cX1_longestChain 2 = .ok (.iconst 0, 1) := by decide +kernel
theorem dX1_longestChain_3 : decode cX1_longestChain 3 = .ok (.istore_n 2, 1) := by decide +kernel
theorem dX1_longestChain_4 : decode cX1_longestChain 4 = .ok (.iload_n 2, 1) := by decide +kernel
theorem dX1_longestChain_5 : decode cX1_longestChain 5 = .ok (.bipush 32, 2) := by decide +kernel
theorem dX1_longestChain_7 : decode cX1_longestChain 7 = .ok (.if_icmp .ge 19, 3) := by decide +kernel
theorem dX1_longestChain_10 : decode cX1_longestChain 10 = .ok (.iload_n 1, 1) := by decide +kernel
theorem dX1_longestChain_11 : decode cX1_longestChain 11 = .ok (.aload_n 0, 1) := by decide +kernel
theorem dX1_longestChain_12 : decode cX1_longestChain 12 = .ok (.iload_n 2, 1) := by decide +kernel
theorem dX1_longestChain_13 : decode cX1_longestChain 13 = .ok (.invokevirtual 114, 3) := by decide +kernel
theorem dX1_longestChain_16 : decode cX1_longestChain 16 = .ok (.invokestatic 99, 3) := by decide +kernel
theorem dX1_longestChain_19 : decode cX1_longestChain 19 = .ok (.istore_n 1, 1) := by decide +kernel
theorem dX1_longestChain_20 : decode cX1_longestChain 20 = .ok (.iinc 2 1, 3) := by decide +kernel
theorem dX1_longestChain_23 : decode cX1_longestChain 23 = .ok (.goto (-19), 3) := by decide +kernel
theorem dX1_longestChain_26 : decode cX1_longestChain 26 = .ok (.iload_n 1, 1) := by decide +kernel
theorem dX1_longestChain_27 : decode cX1_longestChain 27 = .ok (.ireturn, 1) := by decide +kernel
theorem dX1_differentDots_0 : decode cX1_differentDots 0 = .ok (.iconst 0, 1) := by decide +kernel
theorem dX1_differentDots_1 : decode cX1_differentDots 1 = .ok (.istore_n 1, 1) := by decide +kernel
theorem dX1_differentDots_2 : decode cX1_differentDots 2 = .ok (.iconst 0, 1) := by decide +kernel
theorem dX1_differentDots_3 : decode cX1_differentDots 3 = .ok (.istore_n 2, 1) := by decide +kernel
theorem dX1_differentDots_4 : decode cX1_differentDots 4 = .ok (.iload_n 2, 1) := by decide +kernel
theorem dX1_differentDots_5 : decode cX1_differentDots 5 = .ok (.bipush 32, 2) := by decide +kernel
theorem dX1_differentDots_7 : decode cX1_differentDots 7 = .ok (.if_icmp .ge 20, 3) := by decide +kernel
theorem dX1_differentDots_10 : decode cX1_differentDots 10 = .ok (.iload_n 1, 1) := by decide +kernel
theorem dX1_differentDots_11 : decode cX1_differentDots 11 = .ok (.iconst 1, 1) := by decide +kernel
theorem dX1_differentDots_12 : decode cX1_differentDots 12 = .ok (.aload_n 0, 1) := by decide +kernel
theorem dX1_differentDots_13 : decode cX1_differentDots 13 = .ok (.getfield 15, 3) := by decide +kernel
theorem dX1_differentDots_16 : decode cX1_differentDots 16 = .ok (.iload_n 2, 1) := by decide +kernel
theorem dX1_differentDots_17 : decode cX1_differentDots 17 = .ok (.iaload, 1) := by decide +kernel
theorem dX1_differentDots_18 : decode cX1_differentDots 18 = .ok (.ishl, 1) := by decide +kernel
theorem dX1_differentDots_19 : decode cX1_differentDots 19 = .ok (.ior, 1) := by decide +kernel
theorem dX1_differentDots_20 : decode cX1_differentDots 20 = .ok (.istore_n 1, 1) := by decide +kernel
theorem dX1_differentDots_21 : decode cX1_differentDots 21 = .ok (.iinc 2 1, 3) := by decide +kernel
theorem dX1_differentDots_24 : decode cX1_differentDots 24 = .ok (.goto (-20), 3) := by decide +kernel
theorem dX1_differentDots_27 : decode cX1_differentDots 27 = .ok (.iload_n 1, 1) := by decide +kernel
theorem dX1_differentDots_28 : decode cX1_differentDots 28 = .ok (.invokestatic 117, 3) := by decide +kernel
theorem dX1_differentDots_31 : decode cX1_differentDots 31 = .ok (.ireturn, 1) := by decide +kernel
theorem dX1_changesOfPlane_0 : decode cX1_changesOfPlane 0 = .ok (.iconst 0, 1) := by decide +kernel
theorem dX1_changesOfPlane_1 : decode cX1_changesOfPlane 1 = .ok (.istore_n 1, 1) := by decide +kernel
theorem dX1_changesOfPlane_2 : decode cX1_changesOfPlane 2 = .ok (.bipush (-4), 2) := by decide +kernel
theorem dX1_changesOfPlane_4 : decode cX1_changesOfPlane 4 = .ok (.istore_n 2, 1) := by decide +kernel
theorem dX1_changesOfPlane_5 : decode cX1_changesOfPlane 5 = .ok (.iconst 0, 1) := by decide +kernel
theorem dX1_changesOfPlane_6 : decode cX1_changesOfPlane 6 = .ok (.istore_n 3, 1) := by decide +kernel
theorem dX1_changesOfPlane_7 : decode cX1_changesOfPlane 7 = .ok (.iload_n 3, 1) := by decide +kernel
theorem dX1_changesOfPlane_8 : decode cX1_changesOfPlane 8 = .ok (.bipush 32, 2) := by decide +kernel
theorem dX1_changesOfPlane_10 : decode cX1_changesOfPlane 10 = .ok (.if_icmp .ge 46, 3) := by decide +kernel
theorem dX1_changesOfPlane_13 : decode cX1_changesOfPlane 13 = .ok (.aload_n 0, 1) := by decide +kernel
theorem dX1_changesOfPlane_14 : decode cX1_changesOfPlane 14 = .ok (.getfield 21, 3) := by decide +kernel
theorem dX1_changesOfPlane_17 : decode cX1_changesOfPlane 17 = .ok (.iload_n 3, 1) := by decide +kernel
theorem dX1_changesOfPlane_18 : decode cX1_changesOfPlane 18 = .ok (.iaload, 1) := by decide +kernel
theorem dX1_changesOfPlane_19 : decode cX1_changesOfPlane 19 = .ok (.bipush (-4), 2) := by decide +kernel
theorem dX1_changesOfPlane_21 : decode cX1_changesOfPlane 21 = .ok (.if_icmp .eq 29, 3) := by decide +kernel
theorem dX1_changesOfPlane_24 : decode cX1_changesOfPlane 24 = .ok (.iload_n 2, 1) := by decide +kernel
theorem dX1_changesOfPlane_25 : decode cX1_changesOfPlane 25 = .ok (.bipush (-4), 2) := by decide +kernel
theorem dX1_changesOfPlane_27 : decode cX1_changesOfPlane 27 = .ok (.if_icmp .eq 16, 3) := by decide +kernel
theorem dX1_changesOfPlane_30 : decode cX1_changesOfPlane 30 = .ok (.aload_n 0, 1) := by decide +kernel
theorem dX1_changesOfPlane_31 : decode cX1_changesOfPlane 31 = .ok (.getfield 21, 3) := by decide +kernel
theorem dX1_changesOfPlane_34 : decode cX1_changesOfPlane 34 = .ok (.iload_n 3, 1) := by decide +kernel
theorem dX1_changesOfPlane_35 : decode cX1_changesOfPlane 35 = .ok (.iaload, 1) := by decide +kernel
theorem dX1_changesOfPlane_36 : decode cX1_changesOfPlane 36 = .ok (.iload_n 2, 1) := by decide +kernel
theorem dX1_changesOfPlane_37 : decode cX1_changesOfPlane 37 = .ok (.if_icmp .eq 6, 3) := by decide +kernel
theorem dX1_changesOfPlane_40 : decode cX1_changesOfPlane 40 = .ok (.iinc 1 1, 3) := by decide +kernel
theorem dX1_changesOfPlane_43 : decode cX1_changesOfPlane 43 = .ok (.aload_n 0, 1) := by decide +kernel
theorem dX1_changesOfPlane_44 : decode cX1_changesOfPlane 44 = .ok (.getfield 21, 3) := by decide +kernel
theorem dX1_changesOfPlane_47 : decode cX1_changesOfPlane 47 = .ok (.iload_n 3, 1) := by decide +kernel
theorem dX1_changesOfPlane_48 : decode cX1_changesOfPlane 48 = .ok (.iaload, 1) := by decide +kernel
theorem dX1_changesOfPlane_49 : decode cX1_changesOfPlane 49 = .ok (.istore_n 2, 1) := by decide +kernel
theorem dX1_changesOfPlane_50 : decode cX1_changesOfPlane 50 = .ok (.iinc 3 1, 3) := by decide +kernel
theorem dX1_changesOfPlane_53 : decode cX1_changesOfPlane 53 = .ok (.goto (-46), 3) := by decide +kernel
theorem dX1_changesOfPlane_56 : decode cX1_changesOfPlane 56 = .ok (.iload_n 1, 1) := by decide +kernel
theorem dX1_changesOfPlane_57 : decode cX1_changesOfPlane 57 = .ok (.ireturn, 1) := by decide +kernel
theorem dX1_echoOf_0 : decode cX1_echoOf 0 = .ok (.iconst 0, 1) := by decide +kernel
theorem dX1_echoOf_1 : decode cX1_echoOf 1 = .ok (.istore_n 2, 1) := by decide +kernel
theorem dX1_echoOf_2 : decode cX1_echoOf 2 = .ok (.iload_n 1, 1) := by decide +kernel
theorem dX1_echoOf_3 : decode cX1_echoOf 3 = .ok (.iconst 0, 1) := by decide +kernel
theorem dX1_echoOf_4 : decode cX1_echoOf 4 = .ok (.invokestatic 99, 3) := by decide +kernel
theorem dX1_echoOf_7 : decode cX1_echoOf 7 = .ok (.istore_n 3, 1) := by decide +kernel
theorem dX1_echoOf_8 : decode cX1_echoOf 8 = .ok (.iload_n 3, 1) := by decide +kernel
theorem dX1_echoOf_9 : decode cX1_echoOf 9 = .ok (.bipush 32, 2) := by decide +kernel
theorem dX1_echoOf_11 : decode cX1_echoOf 11 = .ok (.if_icmp .ge 29, 3) := by decide +kernel
theorem dX1_echoOf_14 : decode cX1_echoOf 14 = .ok (.aload_n 0, 1) := by decide +kernel
theorem dX1_echoOf_15 : decode cX1_echoOf 15 = .ok (.getfield 15, 3) := by decide +kernel
theorem dX1_echoOf_18 : decode cX1_echoOf 18 = .ok (.iload_n 3, 1) := by decide +kernel
theorem dX1_echoOf_19 : decode cX1_echoOf 19 = .ok (.iaload, 1) := by decide +kernel
theorem dX1_echoOf_20 : decode cX1_echoOf 20 = .ok (.aload_n 0, 1) := by decide +kernel
theorem dX1_echoOf_21 : decode cX1_echoOf 21 = .ok (.getfield 15, 3) := by decide +kernel
theorem dX1_echoOf_24 : decode cX1_echoOf 24 = .ok (.iload_n 3, 1) := by decide +kernel
theorem dX1_echoOf_25 : decode cX1_echoOf 25 = .ok (.iload_n 1, 1) := by decide +kernel
theorem dX1_echoOf_26 : decode cX1_echoOf 26 = .ok (.isub, 1) := by decide +kernel
theorem dX1_echoOf_27 : decode cX1_echoOf 27 = .ok (.iaload, 1) := by decide +kernel
theorem dX1_echoOf_28 : decode cX1_echoOf 28 = .ok (.if_icmp .ne 6, 3) := by decide +kernel
theorem dX1_echoOf_31 : decode cX1_echoOf 31 = .ok (.iinc 2 1, 3) := by decide +kernel
theorem dX1_echoOf_34 : decode cX1_echoOf 34 = .ok (.iinc 3 1, 3) := by decide +kernel
theorem dX1_echoOf_37 : decode cX1_echoOf 37 = .ok (.goto (-29), 3) := by decide +kernel
theorem dX1_echoOf_40 : decode cX1_echoOf 40 = .ok (.iload_n 2, 1) := by decide +kernel
theorem dX1_echoOf_41 : decode cX1_echoOf 41 = .ok (.ireturn, 1) := by decide +kernel
theorem dX1_numberOfPlane_0 : decode cX1_numberOfPlane 0 = .ok (.iconst 0, 1) := by decide +kernel
theorem dX1_numberOfPlane_1 : decode cX1_numberOfPlane 1 = .ok (.istore_n 3, 1) := by decide +kernel
theorem dX1_numberOfPlane_2 : decode cX1_numberOfPlane 2 = .ok (.iconst 0, 1) := by decide +kernel
theorem dX1_numberOfPlane_3 : decode cX1_numberOfPlane 3 = .ok (.istore 4, 2) := by decide +kernel
theorem dX1_numberOfPlane_5 : decode cX1_numberOfPlane 5 = .ok (.iconst 0, 1) := by decide +kernel
theorem dX1_numberOfPlane_6 : decode cX1_numberOfPlane 6 = .ok (.istore 5, 2) := by decide +kernel
theorem dX1_numberOfPlane_8 : decode cX1_numberOfPlane 8 = .ok (.iconst 0, 1) := by decide +kernel
theorem dX1_numberOfPlane_9 : decode cX1_numberOfPlane 9 = .ok (.istore 6, 2) := by decide +kernel
theorem dX1_numberOfPlane_11 : decode cX1_numberOfPlane 11 = .ok (.iload 6, 2) := by decide +kernel
theorem dX1_numberOfPlane_13 : decode cX1_numberOfPlane 13 = .ok (.bipush 32, 2) := by decide +kernel
theorem dX1_numberOfPlane_15 : decode cX1_numberOfPlane 15 = .ok (.if_icmp .ge 93, 3) := by decide +kernel
theorem dX1_numberOfPlane_18 : decode cX1_numberOfPlane 18 = .ok (.aload_n 0, 1) := by decide +kernel
theorem dX1_numberOfPlane_19 : decode cX1_numberOfPlane 19 = .ok (.getfield 9, 3) := by decide +kernel
theorem dX1_numberOfPlane_22 : decode cX1_numberOfPlane 22 = .ok (.iload 6, 2) := by decide +kernel
theorem dX1_numberOfPlane_24 : decode cX1_numberOfPlane 24 = .ok (.iaload, 1) := by decide +kernel
theorem dX1_numberOfPlane_25 : decode cX1_numberOfPlane 25 = .ok (.iload_n 1, 1) := by decide +kernel
theorem dX1_numberOfPlane_26 : decode cX1_numberOfPlane 26 = .ok (.if_icmp .ne 7, 3) := by decide +kernel
theorem dX1_numberOfPlane_29 : decode cX1_numberOfPlane 29 = .ok (.iconst 1, 1) := by decide +kernel
theorem dX1_numberOfPlane_30 : decode cX1_numberOfPlane 30 = .ok (.goto 4, 3) := by decide +kernel
theorem dX1_numberOfPlane_33 : decode cX1_numberOfPlane 33 = .ok (.iconst 0, 1) := by decide +kernel
theorem dX1_numberOfPlane_34 : decode cX1_numberOfPlane 34 = .ok (.istore 7, 2) := by decide +kernel
theorem dX1_numberOfPlane_36 : decode cX1_numberOfPlane 36 = .ok (.aload_n 0, 1) := by decide +kernel
theorem dX1_numberOfPlane_37 : decode cX1_numberOfPlane 37 = .ok (.getfield 21, 3) := by decide +kernel
theorem dX1_numberOfPlane_40 : decode cX1_numberOfPlane 40 = .ok (.iload 6, 2) := by decide +kernel
theorem dX1_numberOfPlane_42 : decode cX1_numberOfPlane 42 = .ok (.iaload, 1) := by decide +kernel
theorem dX1_numberOfPlane_43 : decode cX1_numberOfPlane 43 = .ok (.iload_n 1, 1) := by decide +kernel
theorem dX1_numberOfPlane_44 : decode cX1_numberOfPlane 44 = .ok (.if_icmp .ne 7, 3) := by decide +kernel
theorem dX1_numberOfPlane_47 : decode cX1_numberOfPlane 47 = .ok (.iconst 1, 1) := by decide +kernel
theorem dX1_numberOfPlane_48 : decode cX1_numberOfPlane 48 = .ok (.goto 4, 3) := by decide +kernel
theorem dX1_numberOfPlane_51 : decode cX1_numberOfPlane 51 = .ok (.iconst 0, 1) := by decide +kernel
theorem dX1_numberOfPlane_52 : decode cX1_numberOfPlane 52 = .ok (.istore 8, 2) := by decide +kernel
theorem dX1_numberOfPlane_54 : decode cX1_numberOfPlane 54 = .ok (.iload_n 3, 1) := by decide +kernel
theorem dX1_numberOfPlane_55 : decode cX1_numberOfPlane 55 = .ok (.iload 7, 2) := by decide +kernel
theorem dX1_numberOfPlane_57 : decode cX1_numberOfPlane 57 = .ok (.ifCond .eq 7, 3) := by decide +kernel
theorem dX1_numberOfPlane_60 : decode cX1_numberOfPlane 60 = .ok (.iconst 1, 1) := by decide +kernel
theorem dX1_numberOfPlane_61 : decode cX1_numberOfPlane 61 = .ok (.goto 4, 3) := by decide +kernel
theorem dX1_numberOfPlane_64 : decode cX1_numberOfPlane 64 = .ok (.iconst 0, 1) := by decide +kernel
theorem dX1_numberOfPlane_65 : decode cX1_numberOfPlane 65 = .ok (.iadd, 1) := by decide +kernel
theorem dX1_numberOfPlane_66 : decode cX1_numberOfPlane 66 = .ok (.istore_n 3, 1) := by decide +kernel
theorem dX1_numberOfPlane_67 : decode cX1_numberOfPlane 67 = .ok (.iload 4, 2) := by decide +kernel
theorem dX1_numberOfPlane_69 : decode cX1_numberOfPlane 69 = .ok (.iload 8, 2) := by decide +kernel
theorem dX1_numberOfPlane_71 : decode cX1_numberOfPlane 71 = .ok (.ifCond .eq 7, 3) := by decide +kernel
theorem dX1_numberOfPlane_74 : decode cX1_numberOfPlane 74 = .ok (.iconst 1, 1) := by decide +kernel
theorem dX1_numberOfPlane_75 : decode cX1_numberOfPlane 75 = .ok (.goto 4, 3) := by decide +kernel
theorem dX1_numberOfPlane_78 : decode cX1_numberOfPlane 78 = .ok (.iconst 0, 1) := by decide +kernel
theorem dX1_numberOfPlane_79 : decode cX1_numberOfPlane 79 = .ok (.iadd, 1) := by decide +kernel
theorem dX1_numberOfPlane_80 : decode cX1_numberOfPlane 80 = .ok (.istore 4, 2) := by decide +kernel
theorem dX1_numberOfPlane_82 : decode cX1_numberOfPlane 82 = .ok (.iload 5, 2) := by decide +kernel
theorem dX1_numberOfPlane_84 : decode cX1_numberOfPlane 84 = .ok (.iload 7, 2) := by decide +kernel
theorem dX1_numberOfPlane_86 : decode cX1_numberOfPlane 86 = .ok (.ifCond .eq 12, 3) := by decide +kernel
theorem dX1_numberOfPlane_89 : decode cX1_numberOfPlane 89 = .ok (.iload 8, 2) := by decide +kernel
theorem dX1_numberOfPlane_91 : decode cX1_numberOfPlane 91 = .ok (.ifCond .eq 7, 3) := by decide +kernel
theorem dX1_numberOfPlane_94 : decode cX1_numberOfPlane 94 = .ok (.iconst 1, 1) := by decide +kernel
theorem dX1_numberOfPlane_95 : decode cX1_numberOfPlane 95 = .ok (.goto 4, 3) := by decide +kernel
theorem dX1_numberOfPlane_98 : decode cX1_numberOfPlane 98 = .ok (.iconst 0, 1) := by decide +kernel
theorem dX1_numberOfPlane_99 : decode cX1_numberOfPlane 99 = .ok (.iadd, 1) := by decide +kernel
theorem dX1_numberOfPlane_100 : decode cX1_numberOfPlane 100 = .ok (.istore 5, 2) := by decide +kernel
theorem dX1_numberOfPlane_102 : decode cX1_numberOfPlane 102 = .ok (.iinc 6 1, 3) := by decide +kernel
theorem dX1_numberOfPlane_105 : decode cX1_numberOfPlane 105 = .ok (.goto (-94), 3) := by decide +kernel
theorem dX1_numberOfPlane_108 : decode cX1_numberOfPlane 108 = .ok (.iload_n 2, 1) := by decide +kernel
theorem dX1_numberOfPlane_109 : decode cX1_numberOfPlane 109 = .ok (.tableswitch 35 0 2 #[27, 29, 32], 27) := by decide +kernel
theorem dX1_numberOfPlane_136 : decode cX1_numberOfPlane 136 = .ok (.iload_n 3, 1) := by decide +kernel
theorem dX1_numberOfPlane_137 : decode cX1_numberOfPlane 137 = .ok (.ireturn, 1) := by decide +kernel
theorem dX1_numberOfPlane_138 : decode cX1_numberOfPlane 138 = .ok (.iload 4, 2) := by decide +kernel
theorem dX1_numberOfPlane_140 : decode cX1_numberOfPlane 140 = .ok (.ireturn, 1) := by decide +kernel
theorem dX1_numberOfPlane_141 : decode cX1_numberOfPlane 141 = .ok (.iload 5, 2) := by decide +kernel
theorem dX1_numberOfPlane_143 : decode cX1_numberOfPlane 143 = .ok (.ireturn, 1) := by decide +kernel
theorem dX1_numberOfPlane_144 : decode cX1_numberOfPlane 144 = .ok (.iload_n 3, 1) := by decide +kernel
theorem dX1_numberOfPlane_145 : decode cX1_numberOfPlane 145 = .ok (.ifCond .le 7, 3) := by decide +kernel
theorem dX1_numberOfPlane_148 : decode cX1_numberOfPlane 148 = .ok (.iconst 1, 1) := by decide +kernel
theorem dX1_numberOfPlane_149 : decode cX1_numberOfPlane 149 = .ok (.goto 4, 3) := by decide +kernel
theorem dX1_numberOfPlane_152 : decode cX1_numberOfPlane 152 = .ok (.iconst 0, 1) := by decide +kernel
theorem dX1_numberOfPlane_153 : decode cX1_numberOfPlane 153 = .ok (.ireturn, 1) := by decide +kernel
theorem dX1_placesSeenAs_0 : decode cX1_placesSeenAs 0 = .ok (.iconst 0, 1) := by decide +kernel
theorem dX1_placesSeenAs_1 : decode cX1_placesSeenAs 1 = .ok (.istore_n 2, 1) := by decide +kernel
theorem dX1_placesSeenAs_2 : decode cX1_placesSeenAs 2 = .ok (.iconst 0, 1) := by decide +kernel
theorem dX1_placesSeenAs_3 : decode cX1_placesSeenAs 3 = .ok (.istore_n 3, 1) := by decide +kernel
theorem dX1_placesSeenAs_4 : decode cX1_placesSeenAs 4 = .ok (.iload_n 3, 1) := by decide +kernel
theorem dX1_placesSeenAs_5 : decode cX1_placesSeenAs 5 = .ok (.bipush 32, 2) := by decide +kernel
theorem dX1_placesSeenAs_7 : decode cX1_placesSeenAs 7 = .ok (.if_icmp .ge 27, 3) := by decide +kernel
theorem dX1_placesSeenAs_10 : decode cX1_placesSeenAs 10 = .ok (.aload_n 0, 1) := by decide +kernel
theorem dX1_placesSeenAs_11 : decode cX1_placesSeenAs 11 = .ok (.getfield 21, 3) := by decide +kernel
theorem dX1_placesSeenAs_14 : decode cX1_placesSeenAs 14 = .ok (.iload_n 3, 1) := by decide +kernel
theorem dX1_placesSeenAs_15 : decode cX1_placesSeenAs 15 = .ok (.iaload, 1) := by decide +kernel
theorem dX1_placesSeenAs_16 : decode cX1_placesSeenAs 16 = .ok (.aload_n 1, 1) := by decide +kernel
theorem dX1_placesSeenAs_17 : decode cX1_placesSeenAs 17 = .ok (.getfield 21, 3) := by decide +kernel
theorem dX1_placesSeenAs_20 : decode cX1_placesSeenAs 20 = .ok (.iload_n 3, 1) := by decide +kernel
theorem dX1_placesSeenAs_21 : decode cX1_placesSeenAs 21 = .ok (.iaload, 1) := by decide +kernel
theorem dX1_placesSeenAs_22 : decode cX1_placesSeenAs 22 = .ok (.if_icmp .ne 6, 3) := by decide +kernel
theorem dX1_placesSeenAs_25 : decode cX1_placesSeenAs 25 = .ok (.iinc 2 1, 3) := by decide +kernel
theorem dX1_placesSeenAs_28 : decode cX1_placesSeenAs 28 = .ok (.iinc 3 1, 3) := by decide +kernel
theorem dX1_placesSeenAs_31 : decode cX1_placesSeenAs 31 = .ok (.goto (-27), 3) := by decide +kernel
theorem dX1_placesSeenAs_34 : decode cX1_placesSeenAs 34 = .ok (.iload_n 2, 1) := by decide +kernel
theorem dX1_placesSeenAs_35 : decode cX1_placesSeenAs 35 = .ok (.ireturn, 1) := by decide +kernel
theorem dX1_farthestSeenOtherwise_0 : decode cX1_farthestSeenOtherwise 0 = .ok (.bipush (-4), 2) := by decide +kernel
theorem dX1_farthestSeenOtherwise_2 : decode cX1_farthestSeenOtherwise 2 = .ok (.istore_n 3, 1) := by decide +kernel
theorem dX1_farthestSeenOtherwise_3 : decode cX1_farthestSeenOtherwise 3 = .ok (.iconst 0, 1) := by decide +kernel
theorem dX1_farthestSeenOtherwise_4 : decode cX1_farthestSeenOtherwise 4 = .ok (.istore 4, 2) := by decide +kernel
theorem dX1_farthestSeenOtherwise_6 : decode cX1_farthestSeenOtherwise 6 = .ok (.iload 4, 2) := by decide +kernel
theorem dX1_farthestSeenOtherwise_8 : decode cX1_farthestSeenOtherwise 8 = .ok (.bipush 32, 2) := by decide +kernel
theorem dX1_farthestSeenOtherwise_10 : decode cX1_farthestSeenOtherwise 10 = .ok (.if_icmp .ge 38, 3) := by decide +kernel
theorem dX1_farthestSeenOtherwise_13 : decode cX1_farthestSeenOtherwise 13 = .ok (.aload_n 0, 1) := by decide +kernel
theorem dX1_farthestSeenOtherwise_14 : decode cX1_farthestSeenOtherwise 14 = .ok (.getfield 21, 3) := by decide +kernel
theorem dX1_farthestSeenOtherwise_17 : decode cX1_farthestSeenOtherwise 17 = .ok (.iload 4, 2) := by decide +kernel
theorem dX1_farthestSeenOtherwise_19 : decode cX1_farthestSeenOtherwise 19 = .ok (.iaload, 1) := by decide +kernel
theorem dX1_farthestSeenOtherwise_20 : decode cX1_farthestSeenOtherwise 20 = .ok (.aload_n 1, 1) := by decide +kernel
theorem dX1_farthestSeenOtherwise_21 : decode cX1_farthestSeenOtherwise 21 = .ok (.getfield 21, 3) := by decide +kernel
theorem dX1_farthestSeenOtherwise_24 : decode cX1_farthestSeenOtherwise 24 = .ok (.iload 4, 2) := by decide +kernel
theorem dX1_farthestSeenOtherwise_26 : decode cX1_farthestSeenOtherwise 26 = .ok (.iaload, 1) := by decide +kernel
theorem dX1_farthestSeenOtherwise_27 : decode cX1_farthestSeenOtherwise 27 = .ok (.if_icmp .eq 15, 3) := by decide +kernel
theorem dX1_farthestSeenOtherwise_30 : decode cX1_farthestSeenOtherwise 30 = .ok (.iload_n 3, 1) := by decide +kernel
theorem dX1_farthestSeenOtherwise_31 : decode cX1_farthestSeenOtherwise 31 = .ok (.iload 4, 2) := by decide +kernel
theorem dX1_farthestSeenOtherwise_33 : decode cX1_farthestSeenOtherwise 33 = .ok (.iload_n 2, 1) := by decide +kernel
theorem dX1_farthestSeenOtherwise_34 : decode cX1_farthestSeenOtherwise 34 = .ok (.isub, 1) := by decide +kernel
theorem dX1_farthestSeenOtherwise_35 : decode cX1_farthestSeenOtherwise 35 = .ok (.invokestatic 122, 3) := by decide +kernel
theorem dX1_farthestSeenOtherwise_38 : decode cX1_farthestSeenOtherwise 38 = .ok (.invokestatic 99, 3) := by decide +kernel
theorem dX1_farthestSeenOtherwise_41 : decode cX1_farthestSeenOtherwise 41 = .ok (.istore_n 3, 1) := by decide +kernel
theorem dX1_farthestSeenOtherwise_42 : decode cX1_farthestSeenOtherwise 42 = .ok (.iinc 4 1, 3) := by decide +kernel
theorem dX1_farthestSeenOtherwise_45 : decode cX1_farthestSeenOtherwise 45 = .ok (.goto (-39), 3) := by decide +kernel
theorem dX1_farthestSeenOtherwise_48 : decode cX1_farthestSeenOtherwise 48 = .ok (.iload_n 3, 1) := by decide +kernel
theorem dX1_farthestSeenOtherwise_49 : decode cX1_farthestSeenOtherwise 49 = .ok (.ireturn, 1) := by decide +kernel
theorem dX2_init_0 : decode cX2_init 0 = .ok (.aload_n 0, 1) := by decide +kernel
theorem dX2_init_1 : decode cX2_init 1 = .ok (.invokespecial 3, 3) := by decide +kernel
theorem dX2_init_4 : decode cX2_init 4 = .ok (.aload_n 0, 1) := by decide +kernel
theorem dX2_init_5 : decode cX2_init 5 = .ok (.bipush 80, 2) := by decide +kernel
theorem dX2_init_7 : decode cX2_init 7 = .ok (.newarray .int, 2) := by decide +kernel
theorem dX2_init_9 : decode cX2_init 9 = .ok (.putfield 9, 3) := by decide +kernel
theorem dX2_init_12 : decode cX2_init 12 = .ok (.aload_n 0, 1) := by decide +kernel
theorem dX2_init_13 : decode cX2_init 13 = .ok (.new 15, 3) := by decide +kernel
theorem dX2_init_16 : decode cX2_init 16 = .ok (.dup, 1) := by decide +kernel
theorem dX2_init_17 : decode cX2_init 17 = .ok (.invokespecial 17, 3) := by decide +kernel
theorem dX2_init_20 : decode cX2_init 20 = .ok (.putfield 18, 3) := by decide +kernel
theorem dX2_init_23 : decode cX2_init 23 = .ok (.return_, 1) := by decide +kernel
theorem dX2_add_0 : decode cX2_add 0 = .ok (.aload_n 0, 1) := by decide +kernel
theorem dX2_add_1 : decode cX2_add 1 = .ok (.getfield 22, 3) := by decide +kernel
theorem dX2_add_4 : decode cX2_add 4 = .ok (.bipush 80, 2) := by decide +kernel
theorem dX2_add_6 : decode cX2_add 6 = .ok (.if_icmp .lt 5, 3) := by decide +kernel
theorem dX2_add_9 : decode cX2_add 9 = .ok (.iconst 0, 1) := by decide +kernel
theorem dX2_add_10 : decode cX2_add 10 = .ok (.ireturn, 1) := by decide +kernel
theorem dX2_add_11 : decode cX2_add 11 = .ok (.aload_n 0, 1) := by decide +kernel
theorem dX2_add_12 : decode cX2_add 12 = .ok (.getfield 9, 3) := by decide +kernel
theorem dX2_add_15 : decode cX2_add 15 = .ok (.aload_n 0, 1) := by decide +kernel
theorem dX2_add_16 : decode cX2_add 16 = .ok (.getfield 22, 3) := by decide +kernel
theorem dX2_add_19 : decode cX2_add 19 = .ok (.iload_n 1, 1) := by decide +kernel
theorem dX2_add_20 : decode cX2_add 20 = .ok (.iastore, 1) := by decide +kernel
theorem dX2_add_21 : decode cX2_add 21 = .ok (.aload_n 0, 1) := by decide +kernel
theorem dX2_add_22 : decode cX2_add 22 = .ok (.dup, 1) := by decide +kernel
theorem dX2_add_23 : decode cX2_add 23 = .ok (.getfield 22, 3) := by decide +kernel
theorem dX2_add_26 : decode cX2_add 26 = .ok (.iconst 1, 1) := by decide +kernel
theorem dX2_add_27 : decode cX2_add 27 = .ok (.iadd, 1) := by decide +kernel
theorem dX2_add_28 : decode cX2_add 28 = .ok (.putfield 22, 3) := by decide +kernel
theorem dX2_add_31 : decode cX2_add 31 = .ok (.iconst 1, 1) := by decide +kernel
theorem dX2_add_32 : decode cX2_add 32 = .ok (.ireturn, 1) := by decide +kernel
theorem dX2_faultAsStrip_0 : decode cX2_faultAsStrip 0 = .ok (.iconst 0, 1) := by decide +kernel
theorem dX2_faultAsStrip_1 : decode cX2_faultAsStrip 1 = .ok (.istore_n 1, 1) := by decide +kernel
theorem dX2_faultAsStrip_2 : decode cX2_faultAsStrip 2 = .ok (.iload_n 1, 1) := by decide +kernel
theorem dX2_faultAsStrip_3 : decode cX2_faultAsStrip 3 = .ok (.aload_n 0, 1) := by decide +kernel
theorem dX2_faultAsStrip_4 : decode cX2_faultAsStrip 4 = .ok (.getfield 22, 3) := by decide +kernel
theorem dX2_faultAsStrip_7 : decode cX2_faultAsStrip 7 = .ok (.if_icmp .ge 32, 3) := by decide +kernel
theorem dX2_faultAsStrip_10 : decode cX2_faultAsStrip 10 = .ok (.iload_n 1, 1) := by decide +kernel
theorem dX2_faultAsStrip_11 : decode cX2_faultAsStrip 11 = .ok (.bipush 24, 2) := by decide +kernel
theorem dX2_faultAsStrip_13 : decode cX2_faultAsStrip 13 = .ok (.if_icmp .ge 18, 3) := by decide +kernel
theorem dX2_faultAsStrip_16 : decode cX2_faultAsStrip 16 = .ok (.aload_n 0, 1) := by decide +kernel
theorem dX2_faultAsStrip_17 : decode cX2_faultAsStrip 17 = .ok (.getfield 9, 3) := by decide +kernel
theorem dX2_faultAsStrip_20 : decode cX2_faultAsStrip 20 = .ok (.iload_n 1, 1) := by decide +kernel
theorem dX2_faultAsStrip_21 : decode cX2_faultAsStrip 21 = .ok (.iaload, 1) := by decide +kernel
theorem dX2_faultAsStrip_22 : decode cX2_faultAsStrip 22 = .ok (.bipush 48, 2) := by decide +kernel
theorem dX2_faultAsStrip_24 : decode cX2_faultAsStrip 24 = .ok (.isub, 1) := by decide +kernel
theorem dX2_faultAsStrip_25 : decode cX2_faultAsStrip 25 = .ok (.invokestatic 26, 3) := by decide +kernel
theorem dX2_faultAsStrip_28 : decode cX2_faultAsStrip 28 = .ok (.ifCond .ne 5, 3) := by decide +kernel
theorem dX2_faultAsStrip_31 : decode cX2_faultAsStrip 31 = .ok (.iload_n 1, 1) := by decide +kernel
theorem dX2_faultAsStrip_32 : decode cX2_faultAsStrip 32 = .ok (.ireturn, 1) := by decide +kernel
theorem dX2_faultAsStrip_33 : decode cX2_faultAsStrip 33 = .ok (.iinc 1 1, 3) := by decide +kernel
theorem dX2_faultAsStrip_36 : decode cX2_faultAsStrip 36 = .ok (.goto (-34), 3) := by decide +kernel
theorem dX2_faultAsStrip_39 : decode cX2_faultAsStrip 39 = .ok (.aload_n 0, 1) := by decide +kernel
theorem dX2_faultAsStrip_40 : decode cX2_faultAsStrip 40 = .ok (.getfield 22, 3) := by decide +kernel
theorem dX2_faultAsStrip_43 : decode cX2_faultAsStrip 43 = .ok (.ifCond .le 8, 3) := by decide +kernel
theorem dX2_faultAsStrip_46 : decode cX2_faultAsStrip 46 = .ok (.bipush (-4), 2) := by decide +kernel
theorem dX2_faultAsStrip_48 : decode cX2_faultAsStrip 48 = .ok (.goto 7, 3) := by decide +kernel
theorem dX2_faultAsStrip_51 : decode cX2_faultAsStrip 51 = .ok (.aload_n 0, 1) := by decide +kernel
theorem dX2_faultAsStrip_52 : decode cX2_faultAsStrip 52 = .ok (.getfield 22, 3) := by decide +kernel
theorem dX2_faultAsStrip_55 : decode cX2_faultAsStrip 55 = .ok (.ireturn, 1) := by decide +kernel
theorem dX2_putStrip_0 : decode cX2_putStrip 0 = .ok (.aload_n 0, 1) := by decide +kernel
theorem dX2_putStrip_1 : decode cX2_putStrip 1 = .ok (.getfield 22, 3) := by decide +kernel
theorem dX2_putStrip_4 : decode cX2_putStrip 4 = .ok (.bipush 24, 2) := by decide +kernel
theorem dX2_putStrip_6 : decode cX2_putStrip 6 = .ok (.invokestatic 30, 3) := by decide +kernel
theorem dX2_putStrip_9 : decode cX2_putStrip 9 = .ok (.istore_n 2, 1) := by decide +kernel
theorem dX2_putStrip_10 : decode cX2_putStrip 10 = .ok (.iconst 0, 1) := by decide +kernel
theorem dX2_putStrip_11 : decode cX2_putStrip 11 = .ok (.istore_n 3, 1) := by decide +kernel
theorem dX2_putStrip_12 : decode cX2_putStrip 12 = .ok (.iload_n 3, 1) := by decide +kernel
theorem dX2_putStrip_13 : decode cX2_putStrip 13 = .ok (.iload_n 2, 1) := by decide +kernel
theorem dX2_putStrip_14 : decode cX2_putStrip 14 = .ok (.if_icmp .ge 24, 3) := by decide +kernel
theorem dX2_putStrip_17 : decode cX2_putStrip 17 = .ok (.aload_n 1, 1) := by decide +kernel
theorem dX2_putStrip_18 : decode cX2_putStrip 18 = .ok (.getfield 36, 3) := by decide +kernel
theorem dX2_putStrip_21 : decode cX2_putStrip 21 = .ok (.iload_n 3, 1) := by decide +kernel
theorem dX2_putStrip_22 : decode cX2_putStrip 22 = .ok (.aload_n 0, 1) := by decide +kernel
theorem dX2_putStrip_23 : decode cX2_putStrip 23 = .ok (.getfield 9, 3) := by decide +kernel
theorem dX2_putStrip_26 : decode cX2_putStrip 26 = .ok (.iload_n 3, 1) := by decide +kernel
theorem dX2_putStrip_27 : decode cX2_putStrip 27 = .ok (.iaload, 1) := by decide +kernel
theorem dX2_putStrip_28 : decode cX2_putStrip 28 = .ok (.bipush 48, 2) := by decide +kernel
theorem dX2_putStrip_30 : decode cX2_putStrip 30 = .ok (.isub, 1) := by decide +kernel
theorem dX2_putStrip_31 : decode cX2_putStrip 31 = .ok (.iastore, 1) := by decide +kernel
theorem dX2_putStrip_32 : decode cX2_putStrip 32 = .ok (.iinc 3 1, 3) := by decide +kernel
theorem dX2_putStrip_35 : decode cX2_putStrip 35 = .ok (.goto (-23), 3) := by decide +kernel
theorem dX2_putStrip_38 : decode cX2_putStrip 38 = .ok (.aload_n 1, 1) := by decide +kernel
theorem dX2_putStrip_39 : decode cX2_putStrip 39 = .ok (.iload_n 2, 1) := by decide +kernel
theorem dX2_putStrip_40 : decode cX2_putStrip 40 = .ok (.putfield 41, 3) := by decide +kernel
theorem dX2_putStrip_43 : decode cX2_putStrip 43 = .ok (.return_, 1) := by decide +kernel
theorem dX2_faultAsShapes_0 : decode cX2_faultAsShapes 0 = .ok (.aload_n 0, 1) := by decide +kernel
theorem dX2_faultAsShapes_1 : decode cX2_faultAsShapes 1 = .ok (.getfield 18, 3) := by decide +kernel
theorem dX2_faultAsShapes_4 : decode cX2_faultAsShapes 4 = .ok (.invokevirtual 44, 3) := by decide +kernel
theorem dX2_faultAsShapes_7 : decode cX2_faultAsShapes 7 = .ok (.iconst 0, 1) := by decide +kernel
theorem dX2_faultAsShapes_8 : decode cX2_faultAsShapes 8 = .ok (.istore_n 1, 1) := by decide +kernel
theorem dX2_faultAsShapes_9 : decode cX2_faultAsShapes 9 = .ok (.iload_n 1, 1) := by decide +kernel
theorem dX2_faultAsShapes_10 : decode cX2_faultAsShapes 10 = .ok (.aload_n 0, 1) := by decide +kernel
theorem dX2_faultAsShapes_11 : decode cX2_faultAsShapes 11 = .ok (.getfield 22, 3) := by decide +kernel
theorem dX2_faultAsShapes_14 : decode cX2_faultAsShapes 14 = .ok (.if_icmp .ge 27, 3) := by decide +kernel
theorem dX2_faultAsShapes_17 : decode cX2_faultAsShapes 17 = .ok (.aload_n 0, 1) := by decide +kernel
theorem dX2_faultAsShapes_18 : decode cX2_faultAsShapes 18 = .ok (.getfield 18, 3) := by decide +kernel
theorem dX2_faultAsShapes_21 : decode cX2_faultAsShapes 21 = .ok (.aload_n 0, 1) := by decide +kernel
theorem dX2_faultAsShapes_22 : decode cX2_faultAsShapes 22 = .ok (.getfield 9, 3) := by decide +kernel
theorem dX2_faultAsShapes_25 : decode cX2_faultAsShapes 25 = .ok (.iload_n 1, 1) := by decide +kernel
theorem dX2_faultAsShapes_26 : decode cX2_faultAsShapes 26 = .ok (.iaload, 1) := by decide +kernel
theorem dX2_faultAsShapes_27 : decode cX2_faultAsShapes 27 = .ok (.invokevirtual 47, 3) := by decide +kernel
theorem dX2_faultAsShapes_30 : decode cX2_faultAsShapes 30 = .ok (.ifCond .ne 5, 3) := by decide +kernel
theorem dX2_faultAsShapes_33 : decode cX2_faultAsShapes 33 = .ok (.iload_n 1, 1) := by decide +kernel
theorem dX2_faultAsShapes_34 : decode cX2_faultAsShapes 34 = .ok (.ireturn, 1) := by decide +kernel
theorem dX2_faultAsShapes_35 : decode cX2_faultAsShapes 35 = .ok (.iinc 1 1, 3) := by decide +kernel
theorem dX2_faultAsShapes_38 : decode cX2_faultAsShapes 38 = .ok (.goto (-29), 3) := by decide +kernel
theorem dX2_faultAsShapes_41 : decode cX2_faultAsShapes 41 = .ok (.aload_n 0, 1) := by decide +kernel
theorem dX2_faultAsShapes_42 : decode cX2_faultAsShapes 42 = .ok (.getfield 18, 3) := by decide +kernel
theorem dX2_faultAsShapes_45 : decode cX2_faultAsShapes 45 = .ok (.invokevirtual 50, 3) := by decide +kernel
theorem dX2_faultAsShapes_48 : decode cX2_faultAsShapes 48 = .ok (.ifCond .eq 8, 3) := by decide +kernel
theorem dX2_faultAsShapes_51 : decode cX2_faultAsShapes 51 = .ok (.bipush (-4), 2) := by decide +kernel
theorem dX2_faultAsShapes_53 : decode cX2_faultAsShapes 53 = .ok (.goto 7, 3) := by decide +kernel
theorem dX2_faultAsShapes_56 : decode cX2_faultAsShapes 56 = .ok (.aload_n 0, 1) := by decide +kernel
theorem dX2_faultAsShapes_57 : decode cX2_faultAsShapes 57 = .ok (.getfield 22, 3) := by decide +kernel
theorem dX2_faultAsShapes_60 : decode cX2_faultAsShapes 60 = .ok (.ireturn, 1) := by decide +kernel
theorem dX2_layShapes_0 : decode cX2_layShapes 0 = .ok (.aload_n 0, 1) := by decide +kernel
theorem dX2_layShapes_1 : decode cX2_layShapes 1 = .ok (.getfield 18, 3) := by decide +kernel
theorem dX2_layShapes_4 : decode cX2_layShapes 4 = .ok (.invokevirtual 44, 3) := by decide +kernel
theorem dX2_layShapes_7 : decode cX2_layShapes 7 = .ok (.iconst 0, 1) := by decide +kernel
theorem dX2_layShapes_8 : decode cX2_layShapes 8 = .ok (.istore_n 2, 1) := by decide +kernel
theorem dX2_layShapes_9 : decode cX2_layShapes 9 = .ok (.iload_n 2, 1) := by decide +kernel
theorem dX2_layShapes_10 : decode cX2_layShapes 10 = .ok (.aload_n 0, 1) := by decide +kernel
theorem dX2_layShapes_11 : decode cX2_layShapes 11 = .ok (.getfield 22, 3) := by decide +kernel
theorem dX2_layShapes_14 : decode cX2_layShapes 14 = .ok (.if_icmp .ge 74, 3) := by decide +kernel
theorem dX2_layShapes_17 : decode cX2_layShapes 17 = .ok (.aload_n 0, 1) := by decide +kernel
theorem dX2_layShapes_18 : decode cX2_layShapes 18 = .ok (.getfield 18, 3) := by decide +kernel
theorem dX2_layShapes_21 : decode cX2_layShapes 21 = .ok (.aload_n 0, 1) := by decide +kernel
theorem dX2_layShapes_22 : decode cX2_layShapes 22 = .ok (.getfield 9, 3) := by decide +kernel
theorem dX2_layShapes_25 : decode cX2_layShapes 25 = .ok (.iload_n 2, 1) := by decide +kernel
theorem dX2_layShapes_26 : decode cX2_layShapes 26 = .ok (.iaload, 1) := by decide +kernel
theorem dX2_layShapes_27 : decode cX2_layShapes 27 = .ok (.invokevirtual 47, 3) := by decide +kernel
theorem dX2_layShapes_30 : decode cX2_layShapes 30 = .ok (.ifCond .eq 52, 3) := by decide +kernel
theorem dX2_layShapes_33 : decode cX2_layShapes 33 = .ok (.aload_n 0, 1) := by decide +kernel
theorem dX2_layShapes_34 : decode cX2_layShapes 34 = .ok (.getfield 18, 3) := by decide +kernel
theorem dX2_layShapes_37 : decode cX2_layShapes 37 = .ok (.invokevirtual 50, 3) := by decide +kernel
theorem dX2_layShapes_40 : decode cX2_layShapes 40 = .ok (.ifCond .eq 42, 3) := by decide +kernel
theorem dX2_layShapes_43 : decode cX2_layShapes 43 = .ok (.aload_n 1, 1) := by decide +kernel
theorem dX2_layShapes_44 : decode cX2_layShapes 44 = .ok (.aload_n 0, 1) := by decide +kernel
theorem dX2_layShapes_45 : decode cX2_layShapes 45 = .ok (.getfield 18, 3) := by decide +kernel
theorem dX2_layShapes_48 : decode cX2_layShapes 48 = .ok (.getfield 54, 3) := by decide +kernel
theorem dX2_layShapes_51 : decode cX2_layShapes 51 = .ok (.aload_n 0, 1) := by decide +kernel
theorem dX2_layShapes_52 : decode cX2_layShapes 52 = .ok (.getfield 18, 3) := by decide +kernel
theorem dX2_layShapes_55 : decode cX2_layShapes 55 = .ok (.getfield 57, 3) := by decide +kernel
theorem dX2_layShapes_58 : decode cX2_layShapes 58 = .ok (.aload_n 0, 1) := by decide +kernel
theorem dX2_layShapes_59 : decode cX2_layShapes 59 = .ok (.getfield 18, 3) := by decide +kernel
theorem dX2_layShapes_62 : decode cX2_layShapes 62 = .ok (.getfield 60, 3) := by decide +kernel
theorem dX2_layShapes_65 : decode cX2_layShapes 65 = .ok (.aload_n 0, 1) := by decide +kernel
theorem dX2_layShapes_66 : decode cX2_layShapes 66 = .ok (.getfield 18, 3) := by decide +kernel
theorem dX2_layShapes_69 : decode cX2_layShapes 69 = .ok (.getfield 63, 3) := by decide +kernel
theorem dX2_layShapes_72 : decode cX2_layShapes 72 = .ok (.aload_n 0, 1) := by decide +kernel
theorem dX2_layShapes_73 : decode cX2_layShapes 73 = .ok (.getfield 18, 3) := by decide +kernel
theorem dX2_layShapes_76 : decode cX2_layShapes 76 = .ok (.getfield 66, 3) := by decide +kernel
theorem dX2_layShapes_79 : decode cX2_layShapes 79 = .ok (.invokevirtual 69, 3) := by decide +kernel
theorem dX2_layShapes_82 : decode cX2_layShapes 82 = .ok (.iinc 2 1, 3) := by decide +kernel
theorem dX2_layShapes_85 : decode cX2_layShapes 85 = .ok (.goto (-76), 3) := by decide +kernel
theorem dX2_layShapes_88 : decode cX2_layShapes 88 = .ok (.return_, 1) := by decide +kernel
theorem dX3_init_0 : decode cX3_init 0 = .ok (.aload_n 0, 1) := by decide +kernel
theorem dX3_init_1 : decode cX3_init 1 = .ok (.invokespecial 3, 3) := by decide +kernel
theorem dX3_init_4 : decode cX3_init 4 = .ok (.return_, 1) := by decide +kernel
theorem dX3_begin_0 : decode cX3_begin 0 = .ok (.aload_n 0, 1) := by decide +kernel
theorem dX3_begin_1 : decode cX3_begin 1 = .ok (.iconst 0, 1) := by decide +kernel
theorem dX3_begin_2 : decode cX3_begin 2 = .ok (.putfield 11, 3) := by decide +kernel
theorem dX3_begin_5 : decode cX3_begin 5 = .ok (.return_, 1) := by decide +kernel
theorem dX3_isComplete_0 : decode cX3_isComplete 0 = .ok (.aload_n 0, 1) := by decide +kernel
theorem dX3_isComplete_1 : decode cX3_isComplete 1 = .ok (.getfield 11, 3) := by decide +kernel
theorem dX3_isComplete_4 : decode cX3_isComplete 4 = .ok (.bipush 9, 2) := by decide +kernel
theorem dX3_isComplete_6 : decode cX3_isComplete 6 = .ok (.if_icmp .ne 7, 3) := by decide +kernel
theorem dX3_isComplete_9 : decode cX3_isComplete 9 = .ok (.iconst 1, 1) := by decide +kernel
theorem dX3_isComplete_10 : decode cX3_isComplete 10 = .ok (.goto 4, 3) := by decide +kernel
theorem dX3_isComplete_13 : decode cX3_isComplete 13 = .ok (.iconst 0, 1) := by decide +kernel
theorem dX3_isComplete_14 : decode cX3_isComplete 14 = .ok (.ireturn, 1) := by decide +kernel
theorem dX3_takes_0 : decode cX3_takes 0 = .ok (.iload_n 1, 1) := by decide +kernel
theorem dX3_takes_1 : decode cX3_takes 1 = .ok (.bipush 48, 2) := by decide +kernel
theorem dX3_takes_3 : decode cX3_takes 3 = .ok (.if_icmp .lt 16, 3) := by decide +kernel
theorem dX3_takes_6 : decode cX3_takes 6 = .ok (.iload_n 1, 1) := by decide +kernel
theorem dX3_takes_7 : decode cX3_takes 7 = .ok (.bipush 57, 2) := by decide +kernel
theorem dX3_takes_9 : decode cX3_takes 9 = .ok (.if_icmp .gt 10, 3) := by decide +kernel
theorem dX3_takes_12 : decode cX3_takes 12 = .ok (.iload_n 1, 1) := by decide +kernel
theorem dX3_takes_13 : decode cX3_takes 13 = .ok (.bipush 48, 2) := by decide +kernel
theorem dX3_takes_15 : decode cX3_takes 15 = .ok (.isub, 1) := by decide +kernel
theorem dX3_takes_16 : decode cX3_takes 16 = .ok (.goto 5, 3) := by decide +kernel
theorem dX3_takes_19 : decode cX3_takes 19 = .ok (.bipush (-4), 2) := by decide +kernel
theorem dX3_takes_21 : decode cX3_takes 21 = .ok (.istore_n 2, 1) := by decide +kernel
theorem dX3_takes_22 : decode cX3_takes 22 = .ok (.aload_n 0, 1) := by decide +kernel
theorem dX3_takes_23 : decode cX3_takes 23 = .ok (.getfield 11, 3) := by decide +kernel
theorem dX3_takes_26 : decode cX3_takes 26 = .ok (.tableswitch 200 0 9 #[54, 60, 94, 100, 120, 140, 147, 167, 174, 180], 54) := by decide +kernel
theorem dX3_takes_80 : decode cX3_takes 80 = .ok (.aload_n 0, 1) := by decide +kernel
theorem dX3_takes_81 : decode cX3_takes 81 = .ok (.iload_n 2, 1) := by decide +kernel
theorem dX3_takes_82 : decode cX3_takes 82 = .ok (.invokevirtual 15, 3) := by decide +kernel
theorem dX3_takes_85 : decode cX3_takes 85 = .ok (.ireturn, 1) := by decide +kernel
theorem dX3_takes_86 : decode cX3_takes 86 = .ok (.iload_n 1, 1) := by decide +kernel
theorem dX3_takes_87 : decode cX3_takes 87 = .ok (.bipush 45, 2) := by decide +kernel
theorem dX3_takes_89 : decode cX3_takes 89 = .ok (.if_icmp .ne 11, 3) := by decide +kernel
theorem dX3_takes_92 : decode cX3_takes 92 = .ok (.aload_n 0, 1) := by decide +kernel
theorem dX3_takes_93 : decode cX3_takes 93 = .ok (.iconst 2, 1) := by decide +kernel
theorem dX3_takes_94 : decode cX3_takes 94 = .ok (.invokevirtual 19, 3) := by decide +kernel
theorem dX3_takes_97 : decode cX3_takes 97 = .ok (.goto 22, 3) := by decide +kernel
theorem dX3_takes_100 : decode cX3_takes 100 = .ok (.iload_n 1, 1) := by decide +kernel
theorem dX3_takes_101 : decode cX3_takes 101 = .ok (.bipush 44, 2) := by decide +kernel
theorem dX3_takes_103 : decode cX3_takes 103 = .ok (.if_icmp .ne 15, 3) := by decide +kernel
theorem dX3_takes_106 : decode cX3_takes 106 = .ok (.aload_n 0, 1) := by decide +kernel
theorem dX3_takes_107 : decode cX3_takes 107 = .ok (.iconst 4, 1) := by decide +kernel
theorem dX3_takes_108 : decode cX3_takes 108 = .ok (.invokevirtual 19, 3) := by decide +kernel
theorem dX3_takes_111 : decode cX3_takes 111 = .ok (.ifCond .eq 7, 3) := by decide +kernel
theorem dX3_takes_114 : decode cX3_takes 114 = .ok (.iconst 1, 1) := by decide +kernel
theorem dX3_takes_115 : decode cX3_takes 115 = .ok (.goto 4, 3) := by decide +kernel
theorem dX3_takes_118 : decode cX3_takes 118 = .ok (.iconst 0, 1) := by decide +kernel
theorem dX3_takes_119 : decode cX3_takes 119 = .ok (.ireturn, 1) := by decide +kernel
theorem dX3_takes_120 : decode cX3_takes 120 = .ok (.aload_n 0, 1) := by decide +kernel
theorem dX3_takes_121 : decode cX3_takes 121 = .ok (.iload_n 2, 1) := by decide +kernel
theorem dX3_takes_122 : decode cX3_takes 122 = .ok (.invokevirtual 22, 3) := by decide +kernel
theorem dX3_takes_125 : decode cX3_takes 125 = .ok (.ireturn, 1) := by decide +kernel
theorem dX3_takes_126 : decode cX3_takes 126 = .ok (.iload_n 1, 1) := by decide +kernel
theorem dX3_takes_127 : decode cX3_takes 127 = .ok (.bipush 44, 2) := by decide +kernel
theorem dX3_takes_129 : decode cX3_takes 129 = .ok (.if_icmp .ne 15, 3) := by decide +kernel
theorem dX3_takes_132 : decode cX3_takes 132 = .ok (.aload_n 0, 1) := by decide +kernel
theorem dX3_takes_133 : decode cX3_takes 133 = .ok (.iconst 4, 1) := by decide +kernel
theorem dX3_takes_134 : decode cX3_takes 134 = .ok (.invokevirtual 19, 3) := by decide +kernel
theorem dX3_takes_137 : decode cX3_takes 137 = .ok (.ifCond .eq 7, 3) := by decide +kernel
theorem dX3_takes_140 : decode cX3_takes 140 = .ok (.iconst 1, 1) := by decide +kernel
theorem dX3_takes_141 : decode cX3_takes 141 = .ok (.goto 4, 3) := by decide +kernel
theorem dX3_takes_144 : decode cX3_takes 144 = .ok (.iconst 0, 1) := by decide +kernel
theorem dX3_takes_145 : decode cX3_takes 145 = .ok (.ireturn, 1) := by decide +kernel
theorem dX3_takes_146 : decode cX3_takes 146 = .ok (.iload_n 2, 1) := by decide +kernel
theorem dX3_takes_147 : decode cX3_takes 147 = .ok (.bipush (-4), 2) := by decide +kernel
theorem dX3_takes_149 : decode cX3_takes 149 = .ok (.if_icmp .eq 15, 3) := by decide +kernel
theorem dX3_takes_152 : decode cX3_takes 152 = .ok (.aload_n 0, 1) := by decide +kernel
theorem dX3_takes_153 : decode cX3_takes 153 = .ok (.iload_n 2, 1) := by decide +kernel
theorem dX3_takes_154 : decode cX3_takes 154 = .ok (.invokevirtual 25, 3) := by decide +kernel
theorem dX3_takes_157 : decode cX3_takes 157 = .ok (.ifCond .eq 7, 3) := by decide +kernel
theorem dX3_takes_160 : decode cX3_takes 160 = .ok (.iconst 1, 1) := by decide +kernel
theorem dX3_takes_161 : decode cX3_takes 161 = .ok (.goto 4, 3) := by decide +kernel
theorem dX3_takes_164 : decode cX3_takes 164 = .ok (.iconst 0, 1) := by decide +kernel
theorem dX3_takes_165 : decode cX3_takes 165 = .ok (.ireturn, 1) := by decide +kernel
theorem dX3_takes_166 : decode cX3_takes 166 = .ok (.aload_n 0, 1) := by decide +kernel
theorem dX3_takes_167 : decode cX3_takes 167 = .ok (.iload_n 1, 1) := by decide +kernel
theorem dX3_takes_168 : decode cX3_takes 168 = .ok (.iload_n 2, 1) := by decide +kernel
theorem dX3_takes_169 : decode cX3_takes 169 = .ok (.invokevirtual 28, 3) := by decide +kernel
theorem dX3_takes_172 : decode cX3_takes 172 = .ok (.ireturn, 1) := by decide +kernel
theorem dX3_takes_173 : decode cX3_takes 173 = .ok (.iload_n 2, 1) := by decide +kernel
theorem dX3_takes_174 : decode cX3_takes 174 = .ok (.bipush (-4), 2) := by decide +kernel
theorem dX3_takes_176 : decode cX3_takes 176 = .ok (.if_icmp .eq 15, 3) := by decide +kernel
theorem dX3_takes_179 : decode cX3_takes 179 = .ok (.aload_n 0, 1) := by decide +kernel
theorem dX3_takes_180 : decode cX3_takes 180 = .ok (.iload_n 2, 1) := by decide +kernel
theorem dX3_takes_181 : decode cX3_takes 181 = .ok (.invokevirtual 32, 3) := by decide +kernel
theorem dX3_takes_184 : decode cX3_takes 184 = .ok (.ifCond .eq 7, 3) := by decide +kernel
theorem dX3_takes_187 : decode cX3_takes 187 = .ok (.iconst 1, 1) := by decide +kernel
theorem dX3_takes_188 : decode cX3_takes 188 = .ok (.goto 4, 3) := by decide +kernel
theorem dX3_takes_191 : decode cX3_takes 191 = .ok (.iconst 0, 1) := by decide +kernel
theorem dX3_takes_192 : decode cX3_takes 192 = .ok (.ireturn, 1) := by decide +kernel
theorem dX3_takes_193 : decode cX3_takes 193 = .ok (.aload_n 0, 1) := by decide +kernel
theorem dX3_takes_194 : decode cX3_takes 194 = .ok (.iload_n 1, 1) := by decide +kernel
theorem dX3_takes_195 : decode cX3_takes 195 = .ok (.iload_n 2, 1) := by decide +kernel
theorem dX3_takes_196 : decode cX3_takes 196 = .ok (.invokevirtual 35, 3) := by decide +kernel
theorem dX3_takes_199 : decode cX3_takes 199 = .ok (.ireturn, 1) := by decide +kernel
theorem dX3_takes_200 : decode cX3_takes 200 = .ok (.aload_n 0, 1) := by decide +kernel
theorem dX3_takes_201 : decode cX3_takes 201 = .ok (.iload_n 2, 1) := by decide +kernel
theorem dX3_takes_202 : decode cX3_takes 202 = .ok (.invokevirtual 38, 3) := by decide +kernel
theorem dX3_takes_205 : decode cX3_takes 205 = .ok (.ireturn, 1) := by decide +kernel
theorem dX3_takes_206 : decode cX3_takes 206 = .ok (.iload_n 1, 1) := by decide +kernel
theorem dX3_takes_207 : decode cX3_takes 207 = .ok (.bipush 59, 2) := by decide +kernel
theorem dX3_takes_209 : decode cX3_takes 209 = .ok (.if_icmp .ne 15, 3) := by decide +kernel
theorem dX3_takes_212 : decode cX3_takes 212 = .ok (.aload_n 0, 1) := by decide +kernel
theorem dX3_takes_213 : decode cX3_takes 213 = .ok (.iconst 0, 1) := by decide +kernel
theorem dX3_takes_214 : decode cX3_takes 214 = .ok (.invokevirtual 19, 3) := by decide +kernel
theorem dX3_takes_217 : decode cX3_takes 217 = .ok (.ifCond .eq 7, 3) := by decide +kernel
theorem dX3_takes_220 : decode cX3_takes 220 = .ok (.iconst 1, 1) := by decide +kernel
theorem dX3_takes_221 : decode cX3_takes 221 = .ok (.goto 4, 3) := by decide +kernel
theorem dX3_takes_224 : decode cX3_takes 224 = .ok (.iconst 0, 1) := by decide +kernel
theorem dX3_takes_225 : decode cX3_takes 225 = .ok (.ireturn, 1) := by decide +kernel
theorem dX3_takes_226 : decode cX3_takes 226 = .ok (.iconst 0, 1) := by decide +kernel
theorem dX3_takes_227 : decode cX3_takes 227 = .ok (.ireturn, 1) := by decide +kernel
theorem dX3_goesOn_0 : decode cX3_goesOn 0 = .ok (.aload_n 0, 1) := by decide +kernel
theorem dX3_goesOn_1 : decode cX3_goesOn 1 = .ok (.iload_n 1, 1) := by decide +kernel
theorem dX3_goesOn_2 : decode cX3_goesOn 2 = .ok (.putfield 11, 3) := by decide +kernel
theorem dX3_goesOn_5 : decode cX3_goesOn 5 = .ok (.iconst 1, 1) := by decide +kernel
theorem dX3_goesOn_6 : decode cX3_goesOn 6 = .ok (.ireturn, 1) := by decide +kernel
theorem dX3_takesTop_0 : decode cX3_takesTop 0 = .ok (.iload_n 1, 1) := by decide +kernel
theorem dX3_takesTop_1 : decode cX3_takesTop 1 = .ok (.invokestatic 41, 3) := by decide +kernel
theorem dX3_takesTop_4 : decode cX3_takesTop 4 = .ok (.ifCond .ne 5, 3) := by decide +kernel
theorem dX3_takesTop_7 : decode cX3_takesTop 7 = .ok (.iconst 0, 1) := by decide +kernel
theorem dX3_takesTop_8 : decode cX3_takesTop 8 = .ok (.ireturn, 1) := by decide +kernel
theorem dX3_takesTop_9 : decode cX3_takesTop 9 = .ok (.aload_n 0, 1) := by decide +kernel
theorem dX3_takesTop_10 : decode cX3_takesTop 10 = .ok (.iload_n 1, 1) := by decide +kernel
theorem dX3_takesTop_11 : decode cX3_takesTop 11 = .ok (.putfield 44, 3) := by decide +kernel
theorem dX3_takesTop_14 : decode cX3_takesTop 14 = .ok (.aload_n 0, 1) := by decide +kernel
theorem dX3_takesTop_15 : decode cX3_takesTop 15 = .ok (.iload_n 1, 1) := by decide +kernel
theorem dX3_takesTop_16 : decode cX3_takesTop 16 = .ok (.putfield 47, 3) := by decide +kernel
theorem dX3_takesTop_19 : decode cX3_takesTop 19 = .ok (.aload_n 0, 1) := by decide +kernel
theorem dX3_takesTop_20 : decode cX3_takesTop 20 = .ok (.iconst 1, 1) := by decide +kernel
theorem dX3_takesTop_21 : decode cX3_takesTop 21 = .ok (.invokevirtual 19, 3) := by decide +kernel
theorem dX3_takesTop_24 : decode cX3_takesTop 24 = .ok (.ireturn, 1) := by decide +kernel
theorem dX3_takesBottom_0 : decode cX3_takesBottom 0 = .ok (.iload_n 1, 1) := by decide +kernel
theorem dX3_takesBottom_1 : decode cX3_takesBottom 1 = .ok (.invokestatic 41, 3) := by decide +kernel
theorem dX3_takesBottom_4 : decode cX3_takesBottom 4 = .ok (.ifCond .eq 11, 3) := by decide +kernel
theorem dX3_takesBottom_7 : decode cX3_takesBottom 7 = .ok (.iload_n 1, 1) := by decide +kernel
theorem dX3_takesBottom_8 : decode cX3_takesBottom 8 = .ok (.aload_n 0, 1) := by decide +kernel
theorem dX3_takesBottom_9 : decode cX3_takesBottom 9 = .ok (.getfield 44, 3) := by decide +kernel
theorem dX3_takesBottom_12 : decode cX3_takesBottom 12 = .ok (.if_icmp .ge 5, 3) := by decide +kernel
theorem dX3_takesBottom_15 : decode cX3_takesBottom 15 = .ok (.iconst 0, 1) := by decide +kernel
theorem dX3_takesBottom_16 : decode cX3_takesBottom 16 = .ok (.ireturn, 1) := by decide +kernel
theorem dX3_takesBottom_17 : decode cX3_takesBottom 17 = .ok (.aload_n 0, 1) := by decide +kernel
theorem dX3_takesBottom_18 : decode cX3_takesBottom 18 = .ok (.iload_n 1, 1) := by decide +kernel
theorem dX3_takesBottom_19 : decode cX3_takesBottom 19 = .ok (.putfield 47, 3) := by decide +kernel
theorem dX3_takesBottom_22 : decode cX3_takesBottom 22 = .ok (.aload_n 0, 1) := by decide +kernel
theorem dX3_takesBottom_23 : decode cX3_takesBottom 23 = .ok (.iconst 3, 1) := by decide +kernel
theorem dX3_takesBottom_24 : decode cX3_takesBottom 24 = .ok (.invokevirtual 19, 3) := by decide +kernel
theorem dX3_takesBottom_27 : decode cX3_takesBottom 27 = .ok (.ireturn, 1) := by decide +kernel
theorem dX3_takesLeft_0 : decode cX3_takesLeft 0 = .ok (.iload_n 1, 1) := by decide +kernel
theorem dX3_takesLeft_1 : decode cX3_takesLeft 1 = .ok (.invokestatic 50, 3) := by decide +kernel
theorem dX3_takesLeft_4 : decode cX3_takesLeft 4 = .ok (.ifCond .ne 5, 3) := by decide +kernel
theorem dX3_takesLeft_7 : decode cX3_takesLeft 7 = .ok (.iconst 0, 1) := by decide +kernel
theorem dX3_takesLeft_8 : decode cX3_takesLeft 8 = .ok (.ireturn, 1) := by decide +kernel
theorem dX3_takesLeft_9 : decode cX3_takesLeft 9 = .ok (.aload_n 0, 1) := by decide +kernel
theorem dX3_takesLeft_10 : decode cX3_takesLeft 10 = .ok (.iload_n 1, 1) := by decide +kernel
theorem dX3_takesLeft_11 : decode cX3_takesLeft 11 = .ok (.putfield 53, 3) := by decide +kernel
theorem dX3_takesLeft_14 : decode cX3_takesLeft 14 = .ok (.aload_n 0, 1) := by decide +kernel
theorem dX3_takesLeft_15 : decode cX3_takesLeft 15 = .ok (.iload_n 1, 1) := by decide +kernel
theorem dX3_takesLeft_16 : decode cX3_takesLeft 16 = .ok (.putfield 56, 3) := by decide +kernel
theorem dX3_takesLeft_19 : decode cX3_takesLeft 19 = .ok (.aload_n 0, 1) := by decide +kernel
theorem dX3_takesLeft_20 : decode cX3_takesLeft 20 = .ok (.iconst 5, 1) := by decide +kernel
theorem dX3_takesLeft_21 : decode cX3_takesLeft 21 = .ok (.invokevirtual 19, 3) := by decide +kernel
theorem dX3_takesLeft_24 : decode cX3_takesLeft 24 = .ok (.ireturn, 1) := by decide +kernel
theorem dX3_takesBehindLeft_0 : decode cX3_takesBehindLeft 0 = .ok (.iload_n 1, 1) := by decide +kernel
theorem dX3_takesBehindLeft_1 : decode cX3_takesBehindLeft 1 = .ok (.bipush 45, 2) := by decide +kernel
theorem dX3_takesBehindLeft_3 : decode cX3_takesBehindLeft 3 = .ok (.if_icmp .ne 10, 3) := by decide +kernel
theorem dX3_takesBehindLeft_6 : decode cX3_takesBehindLeft 6 = .ok (.aload_n 0, 1) := by decide +kernel
theorem dX3_takesBehindLeft_7 : decode cX3_takesBehindLeft 7 = .ok (.bipush 6, 2) := by decide +kernel
theorem dX3_takesBehindLeft_9 : decode cX3_takesBehindLeft 9 = .ok (.invokevirtual 19, 3) := by decide +kernel
theorem dX3_takesBehindLeft_12 : decode cX3_takesBehindLeft 12 = .ok (.ireturn, 1) := by decide +kernel
theorem dX3_takesBehindLeft_13 : decode cX3_takesBehindLeft 13 = .ok (.iload_n 1, 1) := by decide +kernel
theorem dX3_takesBehindLeft_14 : decode cX3_takesBehindLeft 14 = .ok (.bipush 58, 2) := by decide +kernel
theorem dX3_takesBehindLeft_16 : decode cX3_takesBehindLeft 16 = .ok (.if_icmp .ne 10, 3) := by decide +kernel
theorem dX3_takesBehindLeft_19 : decode cX3_takesBehindLeft 19 = .ok (.aload_n 0, 1) := by decide +kernel
theorem dX3_takesBehindLeft_20 : decode cX3_takesBehindLeft 20 = .ok (.bipush 8, 2) := by decide +kernel
theorem dX3_takesBehindLeft_22 : decode cX3_takesBehindLeft 22 = .ok (.invokevirtual 19, 3) := by decide +kernel
theorem dX3_takesBehindLeft_25 : decode cX3_takesBehindLeft 25 = .ok (.ireturn, 1) := by decide +kernel
theorem dX3_takesBehindLeft_26 : decode cX3_takesBehindLeft 26 = .ok (.iload_n 2, 1) := by decide +kernel
theorem dX3_takesBehindLeft_27 : decode cX3_takesBehindLeft 27 = .ok (.bipush (-4), 2) := by decide +kernel
theorem dX3_takesBehindLeft_29 : decode cX3_takesBehindLeft 29 = .ok (.if_icmp .eq 30, 3) := by decide +kernel
theorem dX3_takesBehindLeft_32 : decode cX3_takesBehindLeft 32 = .ok (.aload_n 0, 1) := by decide +kernel
theorem dX3_takesBehindLeft_33 : decode cX3_takesBehindLeft 33 = .ok (.getfield 53, 3) := by decide +kernel
theorem dX3_takesBehindLeft_36 : decode cX3_takesBehindLeft 36 = .ok (.ifCond .le 23, 3) := by decide +kernel
theorem dX3_takesBehindLeft_39 : decode cX3_takesBehindLeft 39 = .ok (.aload_n 0, 1) := by decide +kernel
theorem dX3_takesBehindLeft_40 : decode cX3_takesBehindLeft 40 = .ok (.bipush 10, 2) := by decide +kernel
theorem dX3_takesBehindLeft_42 : decode cX3_takesBehindLeft 42 = .ok (.aload_n 0, 1) := by decide +kernel
theorem dX3_takesBehindLeft_43 : decode cX3_takesBehindLeft 43 = .ok (.getfield 53, 3) := by decide +kernel
theorem dX3_takesBehindLeft_46 : decode cX3_takesBehindLeft 46 = .ok (.imul, 1) := by decide +kernel
theorem dX3_takesBehindLeft_47 : decode cX3_takesBehindLeft 47 = .ok (.iload_n 2, 1) := by decide +kernel
theorem dX3_takesBehindLeft_48 : decode cX3_takesBehindLeft 48 = .ok (.iadd, 1) := by decide +kernel
theorem dX3_takesBehindLeft_49 : decode cX3_takesBehindLeft 49 = .ok (.invokevirtual 25, 3) := by decide +kernel
theorem dX3_takesBehindLeft_52 : decode cX3_takesBehindLeft 52 = .ok (.ifCond .eq 7, 3) := by decide +kernel
theorem dX3_takesBehindLeft_55 : decode cX3_takesBehindLeft 55 = .ok (.iconst 1, 1) := by decide +kernel
theorem dX3_takesBehindLeft_56 : decode cX3_takesBehindLeft 56 = .ok (.goto 4, 3) := by decide +kernel
theorem dX3_takesBehindLeft_59 : decode cX3_takesBehindLeft 59 = .ok (.iconst 0, 1) := by decide +kernel
theorem dX3_takesBehindLeft_60 : decode cX3_takesBehindLeft 60 = .ok (.ireturn, 1) := by decide +kernel
theorem dX3_takesFirstOfRight_0 : decode cX3_takesFirstOfRight 0 = .ok (.iload_n 1, 1) := by decide +kernel
theorem dX3_takesFirstOfRight_1 : decode cX3_takesFirstOfRight 1 = .ok (.invokestatic 59, 3) := by decide +kernel
theorem dX3_takesFirstOfRight_4 : decode cX3_takesFirstOfRight 4 = .ok (.aload_n 0, 1) := by decide +kernel
theorem dX3_takesFirstOfRight_5 : decode cX3_takesFirstOfRight 5 = .ok (.getfield 53, 3) := by decide +kernel
theorem dX3_takesFirstOfRight_8 : decode cX3_takesFirstOfRight 8 = .ok (.if_icmp .ge 5, 3) := by decide +kernel
theorem dX3_takesFirstOfRight_11 : decode cX3_takesFirstOfRight 11 = .ok (.iconst 0, 1) := by decide +kernel
theorem dX3_takesFirstOfRight_12 : decode cX3_takesFirstOfRight 12 = .ok (.ireturn, 1) := by decide +kernel
theorem dX3_takesFirstOfRight_13 : decode cX3_takesFirstOfRight 13 = .ok (.aload_n 0, 1) := by decide +kernel
theorem dX3_takesFirstOfRight_14 : decode cX3_takesFirstOfRight 14 = .ok (.iload_n 1, 1) := by decide +kernel
theorem dX3_takesFirstOfRight_15 : decode cX3_takesFirstOfRight 15 = .ok (.putfield 56, 3) := by decide +kernel
theorem dX3_takesFirstOfRight_18 : decode cX3_takesFirstOfRight 18 = .ok (.aload_n 0, 1) := by decide +kernel
theorem dX3_takesFirstOfRight_19 : decode cX3_takesFirstOfRight 19 = .ok (.bipush 7, 2) := by decide +kernel
theorem dX3_takesFirstOfRight_21 : decode cX3_takesFirstOfRight 21 = .ok (.invokevirtual 19, 3) := by decide +kernel
theorem dX3_takesFirstOfRight_24 : decode cX3_takesFirstOfRight 24 = .ok (.ireturn, 1) := by decide +kernel
theorem dX3_greatestFrom_0 : decode cX3_greatestFrom 0 = .ok (.iload_n 0, 1) := by decide +kernel
theorem dX3_greatestFrom_1 : decode cX3_greatestFrom 1 = .ok (.ifCond .eq 13, 3) := by decide +kernel
theorem dX3_greatestFrom_4 : decode cX3_greatestFrom 4 = .ok (.bipush 10, 2) := by decide +kernel
theorem dX3_greatestFrom_6 : decode cX3_greatestFrom 6 = .ok (.iload_n 0, 1) := by decide +kernel
theorem dX3_greatestFrom_7 : decode cX3_greatestFrom 7 = .ok (.imul, 1) := by decide +kernel
theorem dX3_greatestFrom_8 : decode cX3_greatestFrom 8 = .ok (.invokestatic 50, 3) := by decide +kernel
theorem dX3_greatestFrom_11 : decode cX3_greatestFrom 11 = .ok (.ifCond .ne 5, 3) := by decide +kernel
theorem dX3_greatestFrom_14 : decode cX3_greatestFrom 14 = .ok (.iload_n 0, 1) := by decide +kernel
theorem dX3_greatestFrom_15 : decode cX3_greatestFrom 15 = .ok (.ireturn, 1) := by decide +kernel
theorem dX3_greatestFrom_16 : decode cX3_greatestFrom 16 = .ok (.bipush 10, 2) := by decide +kernel
theorem dX3_greatestFrom_18 : decode cX3_greatestFrom 18 = .ok (.iload_n 0, 1) := by decide +kernel
theorem dX3_greatestFrom_19 : decode cX3_greatestFrom 19 = .ok (.imul, 1) := by decide +kernel
theorem dX3_greatestFrom_20 : decode cX3_greatestFrom 20 = .ok (.bipush 9, 2) := by decide +kernel
theorem dX3_greatestFrom_22 : decode cX3_greatestFrom 22 = .ok (.iadd, 1) := by decide +kernel
theorem dX3_greatestFrom_23 : decode cX3_greatestFrom 23 = .ok (.bipush 31, 2) := by decide +kernel
theorem dX3_greatestFrom_25 : decode cX3_greatestFrom 25 = .ok (.invokestatic 63, 3) := by decide +kernel
theorem dX3_greatestFrom_28 : decode cX3_greatestFrom 28 = .ok (.ireturn, 1) := by decide +kernel
theorem dX3_takesBehindRight_0 : decode cX3_takesBehindRight 0 = .ok (.iload_n 1, 1) := by decide +kernel
theorem dX3_takesBehindRight_1 : decode cX3_takesBehindRight 1 = .ok (.bipush 58, 2) := by decide +kernel
theorem dX3_takesBehindRight_3 : decode cX3_takesBehindRight 3 = .ok (.if_icmp .ne 29, 3) := by decide +kernel
theorem dX3_takesBehindRight_6 : decode cX3_takesBehindRight 6 = .ok (.aload_n 0, 1) := by decide +kernel
theorem dX3_takesBehindRight_7 : decode cX3_takesBehindRight 7 = .ok (.getfield 56, 3) := by decide +kernel
theorem dX3_takesBehindRight_10 : decode cX3_takesBehindRight 10 = .ok (.aload_n 0, 1) := by decide +kernel
theorem dX3_takesBehindRight_11 : decode cX3_takesBehindRight 11 = .ok (.getfield 53, 3) := by decide +kernel
theorem dX3_takesBehindRight_14 : decode cX3_takesBehindRight 14 = .ok (.if_icmp .lt 16, 3) := by decide +kernel
theorem dX3_takesBehindRight_17 : decode cX3_takesBehindRight 17 = .ok (.aload_n 0, 1) := by decide +kernel
theorem dX3_takesBehindRight_18 : decode cX3_takesBehindRight 18 = .ok (.bipush 8, 2) := by decide +kernel
theorem dX3_takesBehindRight_20 : decode cX3_takesBehindRight 20 = .ok (.invokevirtual 19, 3) := by decide +kernel
theorem dX3_takesBehindRight_23 : decode cX3_takesBehindRight 23 = .ok (.ifCond .eq 7, 3) := by decide +kernel
theorem dX3_takesBehindRight_26 : decode cX3_takesBehindRight 26 = .ok (.iconst 1, 1) := by decide +kernel
theorem dX3_takesBehindRight_27 : decode cX3_takesBehindRight 27 = .ok (.goto 4, 3) := by decide +kernel
theorem dX3_takesBehindRight_30 : decode cX3_takesBehindRight 30 = .ok (.iconst 0, 1) := by decide +kernel
theorem dX3_takesBehindRight_31 : decode cX3_takesBehindRight 31 = .ok (.ireturn, 1) := by decide +kernel
theorem dX3_takesBehindRight_32 : decode cX3_takesBehindRight 32 = .ok (.bipush 10, 2) := by decide +kernel
theorem dX3_takesBehindRight_34 : decode cX3_takesBehindRight 34 = .ok (.aload_n 0, 1) := by decide +kernel
theorem dX3_takesBehindRight_35 : decode cX3_takesBehindRight 35 = .ok (.getfield 56, 3) := by decide +kernel
theorem dX3_takesBehindRight_38 : decode cX3_takesBehindRight 38 = .ok (.imul, 1) := by decide +kernel
theorem dX3_takesBehindRight_39 : decode cX3_takesBehindRight 39 = .ok (.iload_n 2, 1) := by decide +kernel
theorem dX3_takesBehindRight_40 : decode cX3_takesBehindRight 40 = .ok (.iadd, 1) := by decide +kernel
theorem dX3_takesBehindRight_41 : decode cX3_takesBehindRight 41 = .ok (.istore_n 3, 1) := by decide +kernel
theorem dX3_takesBehindRight_42 : decode cX3_takesBehindRight 42 = .ok (.iload_n 2, 1) := by decide +kernel
theorem dX3_takesBehindRight_43 : decode cX3_takesBehindRight 43 = .ok (.bipush (-4), 2) := by decide +kernel
theorem dX3_takesBehindRight_45 : decode cX3_takesBehindRight 45 = .ok (.if_icmp .eq 25, 3) := by decide +kernel
theorem dX3_takesBehindRight_48 : decode cX3_takesBehindRight 48 = .ok (.aload_n 0, 1) := by decide +kernel
theorem dX3_takesBehindRight_49 : decode cX3_takesBehindRight 49 = .ok (.getfield 56, 3) := by decide +kernel
theorem dX3_takesBehindRight_52 : decode cX3_takesBehindRight 52 = .ok (.ifCond .eq 18, 3) := by decide +kernel
theorem dX3_takesBehindRight_55 : decode cX3_takesBehindRight 55 = .ok (.iload_n 3, 1) := by decide +kernel
theorem dX3_takesBehindRight_56 : decode cX3_takesBehindRight 56 = .ok (.invokestatic 50, 3) := by decide +kernel
theorem dX3_takesBehindRight_59 : decode cX3_takesBehindRight 59 = .ok (.ifCond .eq 11, 3) := by decide +kernel
theorem dX3_takesBehindRight_62 : decode cX3_takesBehindRight 62 = .ok (.iload_n 3, 1) := by decide +kernel
theorem dX3_takesBehindRight_63 : decode cX3_takesBehindRight 63 = .ok (.aload_n 0, 1) := by decide +kernel
theorem dX3_takesBehindRight_64 : decode cX3_takesBehindRight 64 = .ok (.getfield 53, 3) := by decide +kernel
theorem dX3_takesBehindRight_67 : decode cX3_takesBehindRight 67 = .ok (.if_icmp .ge 5, 3) := by decide +kernel
theorem dX3_takesBehindRight_70 : decode cX3_takesBehindRight 70 = .ok (.iconst 0, 1) := by decide +kernel
theorem dX3_takesBehindRight_71 : decode cX3_takesBehindRight 71 = .ok (.ireturn, 1) := by decide +kernel
theorem dX3_takesBehindRight_72 : decode cX3_takesBehindRight 72 = .ok (.aload_n 0, 1) := by decide +kernel
theorem dX3_takesBehindRight_73 : decode cX3_takesBehindRight 73 = .ok (.iload_n 3, 1) := by decide +kernel
theorem dX3_takesBehindRight_74 : decode cX3_takesBehindRight 74 = .ok (.putfield 56, 3) := by decide +kernel
theorem dX3_takesBehindRight_77 : decode cX3_takesBehindRight 77 = .ok (.aload_n 0, 1) := by decide +kernel
theorem dX3_takesBehindRight_78 : decode cX3_takesBehindRight 78 = .ok (.bipush 7, 2) := by decide +kernel
theorem dX3_takesBehindRight_80 : decode cX3_takesBehindRight 80 = .ok (.invokevirtual 19, 3) := by decide +kernel
theorem dX3_takesBehindRight_83 : decode cX3_takesBehindRight 83 = .ok (.ireturn, 1) := by decide +kernel
theorem dX3_takesPlane_0 : decode cX3_takesPlane 0 = .ok (.iload_n 1, 1) := by decide +kernel
theorem dX3_takesPlane_1 : decode cX3_takesPlane 1 = .ok (.invokestatic 69, 3) := by decide +kernel
theorem dX3_takesPlane_4 : decode cX3_takesPlane 4 = .ok (.ifCond .ne 5, 3) := by decide +kernel
theorem dX3_takesPlane_7 : decode cX3_takesPlane 7 = .ok (.iconst 0, 1) := by decide +kernel
theorem dX3_takesPlane_8 : decode cX3_takesPlane 8 = .ok (.ireturn, 1) := by decide +kernel
theorem dX3_takesPlane_9 : decode cX3_takesPlane 9 = .ok (.aload_n 0, 1) := by decide +kernel
theorem dX3_takesPlane_10 : decode cX3_takesPlane 10 = .ok (.iload_n 1, 1) := by decide +kernel
theorem dX3_takesPlane_11 : decode cX3_takesPlane 11 = .ok (.putfield 72, 3) := by decide +kernel
theorem dX3_takesPlane_14 : decode cX3_takesPlane 14 = .ok (.aload_n 0, 1) := by decide +kernel
theorem dX3_takesPlane_15 : decode cX3_takesPlane 15 = .ok (.bipush 9, 2) := by decide +kernel
theorem dX3_takesPlane_17 : decode cX3_takesPlane 17 = .ok (.invokevirtual 19, 3) := by decide +kernel
theorem dX3_takesPlane_20 : decode cX3_takesPlane 20 = .ok (.ireturn, 1) := by decide +kernel
theorem dX4_init_0 : decode cX4_init 0 = .ok (.aload_n 0, 1) := by decide +kernel
theorem dX4_init_1 : decode cX4_init 1 = .ok (.invokespecial 3, 3) := by decide +kernel
theorem dX4_init_4 : decode cX4_init 4 = .ok (.aload_n 0, 1) := by decide +kernel
theorem dX4_init_5 : decode cX4_init 5 = .ok (.sipush 256, 3) := by decide +kernel
theorem dX4_init_8 : decode cX4_init 8 = .ok (.newarray .int, 2) := by decide +kernel
theorem dX4_init_10 : decode cX4_init 10 = .ok (.putfield 9, 3) := by decide +kernel
theorem dX4_init_13 : decode cX4_init 13 = .ok (.aload_n 0, 1) := by decide +kernel
theorem dX4_init_14 : decode cX4_init 14 = .ok (.sipush 256, 3) := by decide +kernel
theorem dX4_init_17 : decode cX4_init 17 = .ok (.newarray .int, 2) := by decide +kernel
theorem dX4_init_19 : decode cX4_init 19 = .ok (.putfield 15, 3) := by decide +kernel
theorem dX4_init_22 : decode cX4_init 22 = .ok (.aload_n 0, 1) := by decide +kernel
theorem dX4_init_23 : decode cX4_init 23 = .ok (.sipush 256, 3) := by decide +kernel
theorem dX4_init_26 : decode cX4_init 26 = .ok (.newarray .int, 2) := by decide +kernel
theorem dX4_init_28 : decode cX4_init 28 = .ok (.putfield 18, 3) := by decide +kernel
theorem dX4_init_31 : decode cX4_init 31 = .ok (.aload_n 0, 1) := by decide +kernel
theorem dX4_init_32 : decode cX4_init 32 = .ok (.bipush 6, 2) := by decide +kernel
theorem dX4_init_34 : decode cX4_init 34 = .ok (.newarray .int, 2) := by decide +kernel
theorem dX4_init_36 : decode cX4_init 36 = .ok (.putfield 21, 3) := by decide +kernel
theorem dX4_init_39 : decode cX4_init 39 = .ok (.aload_n 0, 1) := by decide +kernel
theorem dX4_init_40 : decode cX4_init 40 = .ok (.bipush 24, 2) := by decide +kernel
theorem dX4_init_42 : decode cX4_init 42 = .ok (.newarray .int, 2) := by decide +kernel
theorem dX4_init_44 : decode cX4_init 44 = .ok (.putfield 24, 3) := by decide +kernel
theorem dX4_init_47 : decode cX4_init 47 = .ok (.aload_n 0, 1) := by decide +kernel
theorem dX4_init_48 : decode cX4_init 48 = .ok (.iconst 1, 1) := by decide +kernel
theorem dX4_init_49 : decode cX4_init 49 = .ok (.putfield 27, 3) := by decide +kernel
theorem dX4_init_52 : decode cX4_init 52 = .ok (.aload_n 0, 1) := by decide +kernel
theorem dX4_init_53 : decode cX4_init 53 = .ok (.getfield 18, 3) := by decide +kernel
theorem dX4_init_56 : decode cX4_init 56 = .ok (.bipush (-4), 2) := by decide +kernel
theorem dX4_init_58 : decode cX4_init 58 = .ok (.invokestatic 31, 3) := by decide +kernel
theorem dX4_init_61 : decode cX4_init 61 = .ok (.getstatic 37, 3) := by decide +kernel
theorem dX4_init_64 : decode cX4_init 64 = .ok (.iconst 0, 1) := by decide +kernel
theorem dX4_init_65 : decode cX4_init 65 = .ok (.aload_n 0, 1) := by decide +kernel
theorem dX4_init_66 : decode cX4_init 66 = .ok (.getfield 21, 3) := by decide +kernel
theorem dX4_init_69 : decode cX4_init 69 = .ok (.iconst 0, 1) := by decide +kernel
theorem dX4_init_70 : decode cX4_init 70 = .ok (.bipush 6, 2) := by decide +kernel
theorem dX4_init_72 : decode cX4_init 72 = .ok (.invokestatic 40, 3) := by decide +kernel
theorem dX4_init_75 : decode cX4_init 75 = .ok (.return_, 1) := by decide +kernel
theorem dX4_copyFrom_0 : decode cX4_copyFrom 0 = .ok (.aload_n 1, 1) := by decide +kernel
theorem dX4_copyFrom_1 : decode cX4_copyFrom 1 = .ok (.getfield 9, 3) := by decide +kernel
theorem dX4_copyFrom_4 : decode cX4_copyFrom 4 = .ok (.iconst 0, 1) := by decide +kernel
theorem dX4_copyFrom_5 : decode cX4_copyFrom 5 = .ok (.aload_n 0, 1) := by decide +kernel
theorem dX4_copyFrom_6 : decode cX4_copyFrom 6 = .ok (.getfield 9, 3) := by decide +kernel
theorem dX4_copyFrom_9 : decode cX4_copyFrom 9 = .ok (.iconst 0, 1) := by decide +kernel
theorem dX4_copyFrom_10 : decode cX4_copyFrom 10 = .ok (.sipush 256, 3) := by decide +kernel
theorem dX4_copyFrom_13 : decode cX4_copyFrom 13 = .ok (.invokestatic 40, 3) := by decide +kernel
theorem dX4_copyFrom_16 : decode cX4_copyFrom 16 = .ok (.aload_n 1, 1) := by decide +kernel
theorem dX4_copyFrom_17 : decode cX4_copyFrom 17 = .ok (.getfield 15, 3) := by decide +kernel
theorem dX4_copyFrom_20 : decode cX4_copyFrom 20 = .ok (.iconst 0, 1) := by decide +kernel
theorem dX4_copyFrom_21 : decode cX4_copyFrom 21 = .ok (.aload_n 0, 1) := by decide +kernel
theorem dX4_copyFrom_22 : decode cX4_copyFrom 22 = .ok (.getfield 15, 3) := by decide +kernel
theorem dX4_copyFrom_25 : decode cX4_copyFrom 25 = .ok (.iconst 0, 1) := by decide +kernel
theorem dX4_copyFrom_26 : decode cX4_copyFrom 26 = .ok (.sipush 256, 3) := by decide +kernel
theorem dX4_copyFrom_29 : decode cX4_copyFrom 29 = .ok (.invokestatic 40, 3) := by decide +kernel
theorem dX4_copyFrom_32 : decode cX4_copyFrom 32 = .ok (.aload_n 1, 1) := by decide +kernel
theorem dX4_copyFrom_33 : decode cX4_copyFrom 33 = .ok (.getfield 18, 3) := by decide +kernel
theorem dX4_copyFrom_36 : decode cX4_copyFrom 36 = .ok (.iconst 0, 1) := by decide +kernel
theorem dX4_copyFrom_37 : decode cX4_copyFrom 37 = .ok (.aload_n 0, 1) := by decide +kernel
theorem dX4_copyFrom_38 : decode cX4_copyFrom 38 = .ok (.getfield 18, 3) := by decide +kernel
theorem dX4_copyFrom_41 : decode cX4_copyFrom 41 = .ok (.iconst 0, 1) := by decide +kernel
theorem dX4_copyFrom_42 : decode cX4_copyFrom 42 = .ok (.sipush 256, 3) := by decide +kernel
theorem dX4_copyFrom_45 : decode cX4_copyFrom 45 = .ok (.invokestatic 40, 3) := by decide +kernel
theorem dX4_copyFrom_48 : decode cX4_copyFrom 48 = .ok (.aload_n 1, 1) := by decide +kernel
theorem dX4_copyFrom_49 : decode cX4_copyFrom 49 = .ok (.getfield 21, 3) := by decide +kernel
theorem dX4_copyFrom_52 : decode cX4_copyFrom 52 = .ok (.iconst 0, 1) := by decide +kernel
theorem dX4_copyFrom_53 : decode cX4_copyFrom 53 = .ok (.aload_n 0, 1) := by decide +kernel
theorem dX4_copyFrom_54 : decode cX4_copyFrom 54 = .ok (.getfield 21, 3) := by decide +kernel
theorem dX4_copyFrom_57 : decode cX4_copyFrom 57 = .ok (.iconst 0, 1) := by decide +kernel
theorem dX4_copyFrom_58 : decode cX4_copyFrom 58 = .ok (.bipush 6, 2) := by decide +kernel
theorem dX4_copyFrom_60 : decode cX4_copyFrom 60 = .ok (.invokestatic 40, 3) := by decide +kernel
theorem dX4_copyFrom_63 : decode cX4_copyFrom 63 = .ok (.aload_n 1, 1) := by decide +kernel
theorem dX4_copyFrom_64 : decode cX4_copyFrom 64 = .ok (.getfield 24, 3) := by decide +kernel
theorem dX4_copyFrom_67 : decode cX4_copyFrom 67 = .ok (.iconst 0, 1) := by decide +kernel
theorem dX4_copyFrom_68 : decode cX4_copyFrom 68 = .ok (.aload_n 0, 1) := by decide +kernel
theorem dX4_copyFrom_69 : decode cX4_copyFrom 69 = .ok (.getfield 24, 3) := by decide +kernel
theorem dX4_copyFrom_72 : decode cX4_copyFrom 72 = .ok (.iconst 0, 1) := by decide +kernel
theorem dX4_copyFrom_73 : decode cX4_copyFrom 73 = .ok (.bipush 24, 2) := by decide +kernel
theorem dX4_copyFrom_75 : decode cX4_copyFrom 75 = .ok (.invokestatic 40, 3) := by decide +kernel
theorem dX4_copyFrom_78 : decode cX4_copyFrom 78 = .ok (.aload_n 0, 1) := by decide +kernel
theorem dX4_copyFrom_79 : decode cX4_copyFrom 79 = .ok (.aload_n 1, 1) := by decide +kernel
theorem dX4_copyFrom_80 : decode cX4_copyFrom 80 = .ok (.getfield 46, 3) := by decide +kernel
theorem dX4_copyFrom_83 : decode cX4_copyFrom 83 = .ok (.putfield 46, 3) := by decide +kernel
theorem dX4_copyFrom_86 : decode cX4_copyFrom 86 = .ok (.aload_n 0, 1) := by decide +kernel
theorem dX4_copyFrom_87 : decode cX4_copyFrom 87 = .ok (.aload_n 1, 1) := by decide +kernel
theorem dX4_copyFrom_88 : decode cX4_copyFrom 88 = .ok (.getfield 27, 3) := by decide +kernel
theorem dX4_copyFrom_91 : decode cX4_copyFrom 91 = .ok (.putfield 27, 3) := by decide +kernel
theorem dX4_copyFrom_94 : decode cX4_copyFrom 94 = .ok (.return_, 1) := by decide +kernel
theorem dX4_layPlane_0 : decode cX4_layPlane 0 = .ok (.iload_n 1, 1) := by decide +kernel
theorem dX4_layPlane_1 : decode cX4_layPlane 1 = .ok (.istore 6, 2) := by decide +kernel
theorem dX4_layPlane_3 : decode cX4_layPlane 3 = .ok (.iload 6, 2) := by decide +kernel
theorem dX4_layPlane_5 : decode cX4_layPlane 5 = .ok (.iload_n 3, 1) := by decide +kernel
theorem dX4_layPlane_6 : decode cX4_layPlane 6 = .ok (.if_icmp .gt 55, 3) := by decide +kernel
theorem dX4_layPlane_9 : decode cX4_layPlane 9 = .ok (.iload 6, 2) := by decide +kernel
theorem dX4_layPlane_11 : decode cX4_layPlane 11 = .ok (.invokestatic 49, 3) := by decide +kernel
theorem dX4_layPlane_14 : decode cX4_layPlane 14 = .ok (.ifCond .eq 47, 3) := by decide +kernel
theorem dX4_layPlane_17 : decode cX4_layPlane 17 = .ok (.iload_n 2, 1) := by decide +kernel
theorem dX4_layPlane_18 : decode cX4_layPlane 18 = .ok (.istore 7, 2) := by decide +kernel
theorem dX4_layPlane_20 : decode cX4_layPlane 20 = .ok (.iload 7, 2) := by decide +kernel
theorem dX4_layPlane_22 : decode cX4_layPlane 22 = .ok (.iload 4, 2) := by decide +kernel
theorem dX4_layPlane_24 : decode cX4_layPlane 24 = .ok (.if_icmp .gt 31, 3) := by decide +kernel
theorem dX4_layPlane_27 : decode cX4_layPlane 27 = .ok (.iload 7, 2) := by decide +kernel
theorem dX4_layPlane_29 : decode cX4_layPlane 29 = .ok (.invokestatic 53, 3) := by decide +kernel
theorem dX4_layPlane_32 : decode cX4_layPlane 32 = .ok (.ifCond .eq 23, 3) := by decide +kernel
theorem dX4_layPlane_35 : decode cX4_layPlane 35 = .ok (.aload_n 0, 1) := by decide +kernel
theorem dX4_layPlane_36 : decode cX4_layPlane 36 = .ok (.getfield 9, 3) := by decide +kernel
theorem dX4_layPlane_39 : decode cX4_layPlane 39 = .ok (.iload 6, 2) := by decide +kernel
theorem dX4_layPlane_41 : decode cX4_layPlane 41 = .ok (.iload 7, 2) := by decide +kernel
theorem dX4_layPlane_43 : decode cX4_layPlane 43 = .ok (.invokestatic 56, 3) := by decide +kernel
theorem dX4_layPlane_46 : decode cX4_layPlane 46 = .ok (.iload 5, 2) := by decide +kernel
theorem dX4_layPlane_48 : decode cX4_layPlane 48 = .ok (.iastore, 1) := by decide +kernel
theorem dX4_layPlane_49 : decode cX4_layPlane 49 = .ok (.iinc 7 1, 3) := by decide +kernel
theorem dX4_layPlane_52 : decode cX4_layPlane 52 = .ok (.goto (-32), 3) := by decide +kernel
theorem dX4_layPlane_55 : decode cX4_layPlane 55 = .ok (.iinc 6 1, 3) := by decide +kernel
theorem dX4_layPlane_58 : decode cX4_layPlane 58 = .ok (.goto (-55), 3) := by decide +kernel
theorem dX4_layPlane_61 : decode cX4_layPlane 61 = .ok (.return_, 1) := by decide +kernel
theorem dX4_otherPlanesThan_0 : decode cX4_otherPlanesThan 0 = .ok (.aload_n 0, 1) := by decide +kernel
theorem dX4_otherPlanesThan_1 : decode cX4_otherPlanesThan 1 = .ok (.getfield 9, 3) := by decide +kernel
theorem dX4_otherPlanesThan_4 : decode cX4_otherPlanesThan 4 = .ok (.aload_n 1, 1) := by decide +kernel
theorem dX4_otherPlanesThan_5 : decode cX4_otherPlanesThan 5 = .ok (.getfield 9, 3) := by decide +kernel
theorem dX4_otherPlanesThan_8 : decode cX4_otherPlanesThan 8 = .ok (.invokestatic 60, 3) := by decide +kernel
theorem dX4_otherPlanesThan_11 : decode cX4_otherPlanesThan 11 = .ok (.ireturn, 1) := by decide +kernel
theorem dX4_otherDotsThan_0 : decode cX4_otherDotsThan 0 = .ok (.aload_n 0, 1) := by decide +kernel
theorem dX4_otherDotsThan_1 : decode cX4_otherDotsThan 1 = .ok (.getfield 15, 3) := by decide +kernel
theorem dX4_otherDotsThan_4 : decode cX4_otherDotsThan 4 = .ok (.aload_n 1, 1) := by decide +kernel
theorem dX4_otherDotsThan_5 : decode cX4_otherDotsThan 5 = .ok (.getfield 15, 3) := by decide +kernel
theorem dX4_otherDotsThan_8 : decode cX4_otherDotsThan 8 = .ok (.invokestatic 60, 3) := by decide +kernel
theorem dX4_otherDotsThan_11 : decode cX4_otherDotsThan 11 = .ok (.ireturn, 1) := by decide +kernel
theorem dX4_differences_0 : decode cX4_differences 0 = .ok (.iconst 0, 1) := by decide +kernel
theorem dX4_differences_1 : decode cX4_differences 1 = .ok (.istore_n 2, 1) := by decide +kernel
theorem dX4_differences_2 : decode cX4_differences 2 = .ok (.iconst 0, 1) := by decide +kernel
theorem dX4_differences_3 : decode cX4_differences 3 = .ok (.istore_n 3, 1) := by decide +kernel
theorem dX4_differences_4 : decode cX4_differences 4 = .ok (.iload_n 3, 1) := by decide +kernel
theorem dX4_differences_5 : decode cX4_differences 5 = .ok (.aload_n 0, 1) := by decide +kernel
theorem dX4_differences_6 : decode cX4_differences 6 = .ok (.arraylength, 1) := by decide +kernel
theorem dX4_differences_7 : decode cX4_differences 7 = .ok (.if_icmp .ge 27, 3) := by decide +kernel
theorem dX4_differences_10 : decode cX4_differences 10 = .ok (.iload_n 3, 1) := by decide +kernel
theorem dX4_differences_11 : decode cX4_differences 11 = .ok (.aload_n 1, 1) := by decide +kernel
theorem dX4_differences_12 : decode cX4_differences 12 = .ok (.arraylength, 1) := by decide +kernel
theorem dX4_differences_13 : decode cX4_differences 13 = .ok (.if_icmp .ge 21, 3) := by decide +kernel
theorem dX4_differences_16 : decode cX4_differences 16 = .ok (.aload_n 0, 1) := by decide +kernel
theorem dX4_differences_17 : decode cX4_differences 17 = .ok (.iload_n 3, 1) := by decide +kernel
theorem dX4_differences_18 : decode cX4_differences 18 = .ok (.iaload, 1) := by decide +kernel
theorem dX4_differences_19 : decode cX4_differences 19 = .ok (.aload_n 1, 1) := by decide +kernel
theorem dX4_differences_20 : decode cX4_differences 20 = .ok (.iload_n 3, 1) := by decide +kernel
theorem dX4_differences_21 : decode cX4_differences 21 = .ok (.iaload, 1) := by decide +kernel
theorem dX4_differences_22 : decode cX4_differences 22 = .ok (.if_icmp .eq 6, 3) := by decide +kernel
theorem dX4_differences_25 : decode cX4_differences 25 = .ok (.iinc 2 1, 3) := by decide +kernel
theorem dX4_differences_28 : decode cX4_differences 28 = .ok (.iinc 3 1, 3) := by decide +kernel
theorem dX4_differences_31 : decode cX4_differences 31 = .ok (.goto (-27), 3) := by decide +kernel
theorem dX4_differences_34 : decode cX4_differences 34 = .ok (.iload_n 2, 1) := by decide +kernel
theorem dX4_differences_35 : decode cX4_differences 35 = .ok (.ireturn, 1) := by decide +kernel
theorem dX4_planesAboveZero_0 : decode cX4_planesAboveZero 0 = .ok (.iconst 0, 1) := by decide +kernel
theorem dX4_planesAboveZero_1 : decode cX4_planesAboveZero 1 = .ok (.istore_n 1, 1) := by decide +kernel
theorem dX4_planesAboveZero_2 : decode cX4_planesAboveZero 2 = .ok (.iconst 0, 1) := by decide +kernel
theorem dX4_planesAboveZero_3 : decode cX4_planesAboveZero 3 = .ok (.istore_n 2, 1) := by decide +kernel
theorem dX4_planesAboveZero_4 : decode cX4_planesAboveZero 4 = .ok (.iload_n 2, 1) := by decide +kernel
theorem dX4_planesAboveZero_5 : decode cX4_planesAboveZero 5 = .ok (.sipush 256, 3) := by decide +kernel
theorem dX4_planesAboveZero_8 : decode cX4_planesAboveZero 8 = .ok (.if_icmp .ge 21, 3) := by decide +kernel
theorem dX4_planesAboveZero_11 : decode cX4_planesAboveZero 11 = .ok (.aload_n 0, 1) := by decide +kernel
theorem dX4_planesAboveZero_12 : decode cX4_planesAboveZero 12 = .ok (.getfield 9, 3) := by decide +kernel
theorem dX4_planesAboveZero_15 : decode cX4_planesAboveZero 15 = .ok (.iload_n 2, 1) := by decide +kernel
theorem dX4_planesAboveZero_16 : decode cX4_planesAboveZero 16 = .ok (.iaload, 1) := by decide +kernel
theorem dX4_planesAboveZero_17 : decode cX4_planesAboveZero 17 = .ok (.ifCond .le 6, 3) := by decide +kernel
theorem dX4_planesAboveZero_20 : decode cX4_planesAboveZero 20 = .ok (.iinc 1 1, 3) := by decide +kernel
theorem dX4_planesAboveZero_23 : decode cX4_planesAboveZero 23 = .ok (.iinc 2 1, 3) := by decide +kernel
theorem dX4_planesAboveZero_26 : decode cX4_planesAboveZero 26 = .ok (.goto (-22), 3) := by decide +kernel
theorem dX4_planesAboveZero_29 : decode cX4_planesAboveZero 29 = .ok (.iload_n 1, 1) := by decide +kernel
theorem dX4_planesAboveZero_30 : decode cX4_planesAboveZero 30 = .ok (.ireturn, 1) := by decide +kernel
theorem dX5_init_0 : decode cX5_init 0 = .ok (.aload_n 0, 1) := by decide +kernel
theorem dX5_init_1 : decode cX5_init 1 = .ok (.invokespecial 3, 3) := by decide +kernel
theorem dX5_init_4 : decode cX5_init 4 = .ok (.aload_n 0, 1) := by decide +kernel
theorem dX5_init_5 : decode cX5_init 5 = .ok (.new 9, 3) := by decide +kernel
theorem dX5_init_8 : decode cX5_init 8 = .ok (.dup, 1) := by decide +kernel
theorem dX5_init_9 : decode cX5_init 9 = .ok (.invokespecial 11, 3) := by decide +kernel
theorem dX5_init_12 : decode cX5_init 12 = .ok (.putfield 12, 3) := by decide +kernel
theorem dX5_init_15 : decode cX5_init 15 = .ok (.aload_n 0, 1) := by decide +kernel
theorem dX5_init_16 : decode cX5_init 16 = .ok (.new 9, 3) := by decide +kernel
theorem dX5_init_19 : decode cX5_init 19 = .ok (.dup, 1) := by decide +kernel
theorem dX5_init_20 : decode cX5_init 20 = .ok (.invokespecial 11, 3) := by decide +kernel
theorem dX5_init_23 : decode cX5_init 23 = .ok (.putfield 16, 3) := by decide +kernel
theorem dX5_init_26 : decode cX5_init 26 = .ok (.aload_n 0, 1) := by decide +kernel
theorem dX5_init_27 : decode cX5_init 27 = .ok (.new 19, 3) := by decide +kernel
theorem dX5_init_30 : decode cX5_init 30 = .ok (.dup, 1) := by decide +kernel
theorem dX5_init_31 : decode cX5_init 31 = .ok (.invokespecial 21, 3) := by decide +kernel
theorem dX5_init_34 : decode cX5_init 34 = .ok (.putfield 22, 3) := by decide +kernel
theorem dX5_init_37 : decode cX5_init 37 = .ok (.aload_n 0, 1) := by decide +kernel
theorem dX5_init_38 : decode cX5_init 38 = .ok (.new 26, 3) := by decide +kernel
theorem dX5_init_41 : decode cX5_init 41 = .ok (.dup, 1) := by decide +kernel
theorem dX5_init_42 : decode cX5_init 42 = .ok (.invokespecial 28, 3) := by decide +kernel
theorem dX5_init_45 : decode cX5_init 45 = .ok (.putfield 29, 3) := by decide +kernel
theorem dX5_init_48 : decode cX5_init 48 = .ok (.aload_n 0, 1) := by decide +kernel
theorem dX5_init_49 : decode cX5_init 49 = .ok (.new 33, 3) := by decide +kernel
theorem dX5_init_52 : decode cX5_init 52 = .ok (.dup, 1) := by decide +kernel
theorem dX5_init_53 : decode cX5_init 53 = .ok (.invokespecial 35, 3) := by decide +kernel
theorem dX5_init_56 : decode cX5_init 56 = .ok (.putfield 36, 3) := by decide +kernel
theorem dX5_init_59 : decode cX5_init 59 = .ok (.aload_n 0, 1) := by decide +kernel
theorem dX5_init_60 : decode cX5_init 60 = .ok (.new 33, 3) := by decide +kernel
theorem dX5_init_63 : decode cX5_init 63 = .ok (.dup, 1) := by decide +kernel
theorem dX5_init_64 : decode cX5_init 64 = .ok (.invokespecial 35, 3) := by decide +kernel
theorem dX5_init_67 : decode cX5_init 67 = .ok (.putfield 40, 3) := by decide +kernel
theorem dX5_init_70 : decode cX5_init 70 = .ok (.aload_n 0, 1) := by decide +kernel
theorem dX5_init_71 : decode cX5_init 71 = .ok (.sipush 256, 3) := by decide +kernel
theorem dX5_init_74 : decode cX5_init 74 = .ok (.newarray .int, 2) := by decide +kernel
theorem dX5_init_76 : decode cX5_init 76 = .ok (.putfield 43, 3) := by decide +kernel
theorem dX5_init_79 : decode cX5_init 79 = .ok (.aload_n 0, 1) := by decide +kernel
theorem dX5_init_80 : decode cX5_init 80 = .ok (.bipush 23, 2) := by decide +kernel
theorem dX5_init_82 : decode cX5_init 82 = .ok (.newarray .int, 2) := by decide +kernel
theorem dX5_init_84 : decode cX5_init 84 = .ok (.putfield 47, 3) := by decide +kernel
theorem dX5_init_87 : decode cX5_init 87 = .ok (.return_, 1) := by decide +kernel
theorem dX5_lay_0 : decode cX5_lay 0 = .ok (.iload_n 1, 1) := by decide +kernel
theorem dX5_lay_1 : decode cX5_lay 1 = .ok (.invokestatic 50, 3) := by decide +kernel
theorem dX5_lay_4 : decode cX5_lay 4 = .ok (.ifCond .eq 15, 3) := by decide +kernel
theorem dX5_lay_7 : decode cX5_lay 7 = .ok (.iload_n 3, 1) := by decide +kernel
theorem dX5_lay_8 : decode cX5_lay 8 = .ok (.invokestatic 50, 3) := by decide +kernel
theorem dX5_lay_11 : decode cX5_lay 11 = .ok (.ifCond .eq 8, 3) := by decide +kernel
theorem dX5_lay_14 : decode cX5_lay 14 = .ok (.iload_n 3, 1) := by decide +kernel
theorem dX5_lay_15 : decode cX5_lay 15 = .ok (.iload_n 1, 1) := by decide +kernel
theorem dX5_lay_16 : decode cX5_lay 16 = .ok (.if_icmp .ge 5, 3) := by decide +kernel
theorem dX5_lay_19 : decode cX5_lay 19 = .ok (.iconst (-1), 1) := by decide +kernel
theorem dX5_lay_20 : decode cX5_lay 20 = .ok (.ireturn, 1) := by decide +kernel
theorem dX5_lay_21 : decode cX5_lay 21 = .ok (.iload_n 2, 1) := by decide +kernel
theorem dX5_lay_22 : decode cX5_lay 22 = .ok (.invokestatic 54, 3) := by decide +kernel
theorem dX5_lay_25 : decode cX5_lay 25 = .ok (.ifCond .eq 25, 3) := by decide +kernel
theorem dX5_lay_28 : decode cX5_lay 28 = .ok (.iload 4, 2) := by decide +kernel
theorem dX5_lay_30 : decode cX5_lay 30 = .ok (.invokestatic 54, 3) := by decide +kernel
theorem dX5_lay_33 : decode cX5_lay 33 = .ok (.ifCond .eq 17, 3) := by decide +kernel
theorem dX5_lay_36 : decode cX5_lay 36 = .ok (.iload 4, 2) := by decide +kernel
theorem dX5_lay_38 : decode cX5_lay 38 = .ok (.iload_n 2, 1) := by decide +kernel
theorem dX5_lay_39 : decode cX5_lay 39 = .ok (.if_icmp .lt 11, 3) := by decide +kernel
theorem dX5_lay_42 : decode cX5_lay 42 = .ok (.iload 5, 2) := by decide +kernel
theorem dX5_lay_44 : decode cX5_lay 44 = .ok (.invokestatic 57, 3) := by decide +kernel
theorem dX5_lay_47 : decode cX5_lay 47 = .ok (.ifCond .ne 5, 3) := by decide +kernel
theorem dX5_lay_50 : decode cX5_lay 50 = .ok (.iconst (-1), 1) := by decide +kernel
theorem dX5_lay_51 : decode cX5_lay 51 = .ok (.ireturn, 1) := by decide +kernel
theorem dX5_lay_52 : decode cX5_lay 52 = .ok (.aload_n 0, 1) := by decide +kernel
theorem dX5_lay_53 : decode cX5_lay 53 = .ok (.getfield 22, 3) := by decide +kernel
theorem dX5_lay_56 : decode cX5_lay 56 = .ok (.aload_n 0, 1) := by decide +kernel
theorem dX5_lay_57 : decode cX5_lay 57 = .ok (.getfield 12, 3) := by decide +kernel
theorem dX5_lay_60 : decode cX5_lay 60 = .ok (.invokevirtual 60, 3) := by decide +kernel
theorem dX5_lay_63 : decode cX5_lay 63 = .ok (.astore 6, 2) := by decide +kernel
theorem dX5_lay_65 : decode cX5_lay 65 = .ok (.aload_n 0, 1) := by decide +kernel
theorem dX5_lay_66 : decode cX5_lay 66 = .ok (.getfield 12, 3) := by decide +kernel
theorem dX5_lay_69 : decode cX5_lay 69 = .ok (.iload_n 1, 1) := by decide +kernel
theorem dX5_lay_70 : decode cX5_lay 70 = .ok (.iload_n 2, 1) := by decide +kernel
theorem dX5_lay_71 : decode cX5_lay 71 = .ok (.iload_n 3, 1) := by decide +kernel
theorem dX5_lay_72 : decode cX5_lay 72 = .ok (.iload 4, 2) := by decide +kernel
theorem dX5_lay_74 : decode cX5_lay 74 = .ok (.iload 5, 2) := by decide +kernel
theorem dX5_lay_76 : decode cX5_lay 76 = .ok (.invokevirtual 64, 3) := by decide +kernel
theorem dX5_lay_79 : decode cX5_lay 79 = .ok (.aload_n 0, 1) := by decide +kernel
theorem dX5_lay_80 : decode cX5_lay 80 = .ok (.getfield 12, 3) := by decide +kernel
theorem dX5_lay_83 : decode cX5_lay 83 = .ok (.aload 6, 2) := by decide +kernel
theorem dX5_lay_85 : decode cX5_lay 85 = .ok (.invokevirtual 68, 3) := by decide +kernel
theorem dX5_lay_88 : decode cX5_lay 88 = .ok (.ireturn, 1) := by decide +kernel
theorem dX5_shift_0 : decode cX5_shift 0 = .ok (.iload_n 1, 1) := by decide +kernel
theorem dX5_shift_1 : decode cX5_shift 1 = .ok (.invokestatic 50, 3) := by decide +kernel
theorem dX5_shift_4 : decode cX5_shift 4 = .ok (.ifCond .eq 15, 3) := by decide +kernel
theorem dX5_shift_7 : decode cX5_shift 7 = .ok (.iload_n 2, 1) := by decide +kernel
theorem dX5_shift_8 : decode cX5_shift 8 = .ok (.bipush (-32), 2) := by decide +kernel
theorem dX5_shift_10 : decode cX5_shift 10 = .ok (.if_icmp .le 9, 3) := by decide +kernel
theorem dX5_shift_13 : decode cX5_shift 13 = .ok (.iload_n 2, 1) := by decide +kernel
theorem dX5_shift_14 : decode cX5_shift 14 = .ok (.bipush 32, 2) := by decide +kernel
theorem dX5_shift_16 : decode cX5_shift 16 = .ok (.if_icmp .lt 5, 3) := by decide +kernel
theorem dX5_shift_19 : decode cX5_shift 19 = .ok (.iconst (-1), 1) := by decide +kernel
theorem dX5_shift_20 : decode cX5_shift 20 = .ok (.ireturn, 1) := by decide +kernel
theorem dX5_shift_21 : decode cX5_shift 21 = .ok (.aload_n 0, 1) := by decide +kernel
theorem dX5_shift_22 : decode cX5_shift 22 = .ok (.getfield 22, 3) := by decide +kernel
theorem dX5_shift_25 : decode cX5_shift 25 = .ok (.aload_n 0, 1) := by decide +kernel
theorem dX5_shift_26 : decode cX5_shift 26 = .ok (.getfield 12, 3) := by decide +kernel
theorem dX5_shift_29 : decode cX5_shift 29 = .ok (.invokevirtual 60, 3) := by decide +kernel
theorem dX5_shift_32 : decode cX5_shift 32 = .ok (.pop, 1) := by decide +kernel
theorem dX5_shift_33 : decode cX5_shift 33 = .ok (.aload_n 0, 1) := by decide +kernel
theorem dX5_shift_34 : decode cX5_shift 34 = .ok (.getfield 36, 3) := by decide +kernel
theorem dX5_shift_37 : decode cX5_shift 37 = .ok (.aload_n 0, 1) := by decide +kernel
theorem dX5_shift_38 : decode cX5_shift 38 = .ok (.getfield 12, 3) := by decide +kernel
theorem dX5_shift_41 : decode cX5_shift 41 = .ok (.iload_n 1, 1) := by decide +kernel
theorem dX5_shift_42 : decode cX5_shift 42 = .ok (.invokevirtual 72, 3) := by decide +kernel
theorem dX5_shift_45 : decode cX5_shift 45 = .ok (.iconst 0, 1) := by decide +kernel
theorem dX5_shift_46 : decode cX5_shift 46 = .ok (.istore_n 3, 1) := by decide +kernel
theorem dX5_shift_47 : decode cX5_shift 47 = .ok (.iconst 0, 1) := by decide +kernel
theorem dX5_shift_48 : decode cX5_shift 48 = .ok (.istore 4, 2) := by decide +kernel
theorem dX5_shift_50 : decode cX5_shift 50 = .ok (.iload 4, 2) := by decide +kernel
theorem dX5_shift_52 : decode cX5_shift 52 = .ok (.bipush 32, 2) := by decide +kernel
theorem dX5_shift_54 : decode cX5_shift 54 = .ok (.if_icmp .ge 63, 3) := by decide +kernel
theorem dX5_shift_57 : decode cX5_shift 57 = .ok (.iload 4, 2) := by decide +kernel
theorem dX5_shift_59 : decode cX5_shift 59 = .ok (.iload_n 2, 1) := by decide +kernel
theorem dX5_shift_60 : decode cX5_shift 60 = .ok (.isub, 1) := by decide +kernel
theorem dX5_shift_61 : decode cX5_shift 61 = .ok (.istore 5, 2) := by decide +kernel
theorem dX5_shift_63 : decode cX5_shift 63 = .ok (.iload 5, 2) := by decide +kernel
theorem dX5_shift_65 : decode cX5_shift 65 = .ok (.invokestatic 54, 3) := by decide +kernel
theorem dX5_shift_68 : decode cX5_shift 68 = .ok (.ifCond .eq 16, 3) := by decide +kernel
theorem dX5_shift_71 : decode cX5_shift 71 = .ok (.aload_n 0, 1) := by decide +kernel
theorem dX5_shift_72 : decode cX5_shift 72 = .ok (.getfield 36, 3) := by decide +kernel
theorem dX5_shift_75 : decode cX5_shift 75 = .ok (.getfield 76, 3) := by decide +kernel
theorem dX5_shift_78 : decode cX5_shift 78 = .ok (.iload 5, 2) := by decide +kernel

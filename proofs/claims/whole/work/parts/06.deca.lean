theorem d0_init_0 : decode prog_2_method_1_code 0 = .ok (.aload_n 0, 1) := by decide +kernel
theorem d0_init_1 : decode prog_2_method_1_code 1 = .ok (.invokespecial 3, 3) := by decide +kernel
theorem d0_init_4 : decode prog_2_method_1_code 4 = .ok (.aload_n 0, 1) := by decide +kernel
theorem d0_init_5 : decode prog_2_method_1_code 5 = .ok (.new 9, 3) := by decide +kernel
theorem d0_init_8 : decode prog_2_method_1_code 8 = .ok (.dup, 1) := by decide +kernel
theorem d0_init_9 : decode prog_2_method_1_code 9 = .ok (.invokespecial 11, 3) := by decide +kernel
theorem d0_init_12 : decode prog_2_method_1_code 12 = .ok (.putfield 12, 3) := by decide +kernel
theorem d0_init_15 : decode prog_2_method_1_code 15 = .ok (.aload_n 0, 1) := by decide +kernel
theorem d0_init_16 : decode prog_2_method_1_code 16 = .ok (.iconst 4, 1) := by decide +kernel
theorem d0_init_17 : decode prog_2_method_1_code 17 = .ok (.anewarray 18, 3) := by decide +kernel
theorem d0_init_20 : decode prog_2_method_1_code 20 = .ok (.putfield 20, 3) := by decide +kernel
theorem d0_init_23 : decode prog_2_method_1_code 23 = .ok (.iconst 0, 1) := by decide +kernel
theorem d0_init_24 : decode prog_2_method_1_code 24 = .ok (.istore_n 1, 1) := by decide +kernel
theorem d0_init_25 : decode prog_2_method_1_code 25 = .ok (.iload_n 1, 1) := by decide +kernel
theorem d0_init_26 : decode prog_2_method_1_code 26 = .ok (.iconst 4, 1) := by decide +kernel
theorem d0_init_27 : decode prog_2_method_1_code 27 = .ok (.if_icmp .ge 26, 3) := by decide +kernel
theorem d0_init_30 : decode prog_2_method_1_code 30 = .ok (.aload_n 0, 1) := by decide +kernel
theorem d0_init_31 : decode prog_2_method_1_code 31 = .ok (.getfield 20, 3) := by decide +kernel
theorem d0_init_34 : decode prog_2_method_1_code 34 = .ok (.iload_n 1, 1) := by decide +kernel
theorem d0_init_35 : decode prog_2_method_1_code 35 = .ok (.new 18, 3) := by decide +kernel
theorem d0_init_38 : decode prog_2_method_1_code 38 = .ok (.dup, 1) := by decide +kernel
theorem d0_init_39 : decode prog_2_method_1_code 39 = .ok (.aload_n 0, 1) := by decide +kernel
theorem d0_init_40 : decode prog_2_method_1_code 40 = .ok (.getfield 12, 3) := by decide +kernel
theorem d0_init_43 : decode prog_2_method_1_code 43 = .ok (.invokespecial 24, 3) := by decide +kernel
theorem d0_init_46 : decode prog_2_method_1_code 46 = .ok (.aastore, 1) := by decide +kernel
theorem d0_init_47 : decode prog_2_method_1_code 47 = .ok (.iinc 1 1, 3) := by decide +kernel
theorem d0_init_50 : decode prog_2_method_1_code 50 = .ok (.goto (-25), 3) := by decide +kernel
theorem d0_init_53 : decode prog_2_method_1_code 53 = .ok (.aload_n 0, 1) := by decide +kernel
theorem d0_init_54 : decode prog_2_method_1_code 54 = .ok (.new 27, 3) := by decide +kernel
theorem d0_init_57 : decode prog_2_method_1_code 57 = .ok (.dup, 1) := by decide +kernel
theorem d0_init_58 : decode prog_2_method_1_code 58 = .ok (.invokespecial 29, 3) := by decide +kernel
theorem d0_init_61 : decode prog_2_method_1_code 61 = .ok (.putfield 30, 3) := by decide +kernel
theorem d0_init_64 : decode prog_2_method_1_code 64 = .ok (.aload_n 0, 1) := by decide +kernel
theorem d0_init_65 : decode prog_2_method_1_code 65 = .ok (.sipush 256, 3) := by decide +kernel
theorem d0_init_68 : decode prog_2_method_1_code 68 = .ok (.newarray .int, 2) := by decide +kernel
theorem d0_init_70 : decode prog_2_method_1_code 70 = .ok (.putfield 34, 3) := by decide +kernel
theorem d0_init_73 : decode prog_2_method_1_code 73 = .ok (.return_, 1) := by decide +kernel
theorem d0_copyFrom_0 : decode prog_2_method_2_code 0 = .ok (.aload_n 0, 1) := by decide +kernel
theorem d0_copyFrom_1 : decode prog_2_method_2_code 1 = .ok (.getfield 12, 3) := by decide +kernel
theorem d0_copyFrom_4 : decode prog_2_method_2_code 4 = .ok (.aload_n 1, 1) := by decide +kernel
theorem d0_copyFrom_5 : decode prog_2_method_2_code 5 = .ok (.getfield 12, 3) := by decide +kernel
theorem d0_copyFrom_8 : decode prog_2_method_2_code 8 = .ok (.invokevirtual 38, 3) := by decide +kernel
theorem d0_copyFrom_11 : decode prog_2_method_2_code 11 = .ok (.iconst 0, 1) := by decide +kernel
theorem d0_copyFrom_12 : decode prog_2_method_2_code 12 = .ok (.istore_n 2, 1) := by decide +kernel
theorem d0_copyFrom_13 : decode prog_2_method_2_code 13 = .ok (.iload_n 2, 1) := by decide +kernel
theorem d0_copyFrom_14 : decode prog_2_method_2_code 14 = .ok (.iconst 4, 1) := by decide +kernel
theorem d0_copyFrom_15 : decode prog_2_method_2_code 15 = .ok (.if_icmp .ge 24, 3) := by decide +kernel
theorem d0_copyFrom_18 : decode prog_2_method_2_code 18 = .ok (.aload_n 0, 1) := by decide +kernel
theorem d0_copyFrom_19 : decode prog_2_method_2_code 19 = .ok (.getfield 20, 3) := by decide +kernel
theorem d0_copyFrom_22 : decode prog_2_method_2_code 22 = .ok (.iload_n 2, 1) := by decide +kernel
theorem d0_copyFrom_23 : decode prog_2_method_2_code 23 = .ok (.aaload, 1) := by decide +kernel
theorem d0_copyFrom_24 : decode prog_2_method_2_code 24 = .ok (.aload_n 1, 1) := by decide +kernel
theorem d0_copyFrom_25 : decode prog_2_method_2_code 25 = .ok (.getfield 20, 3) := by decide +kernel
theorem d0_copyFrom_28 : decode prog_2_method_2_code 28 = .ok (.iload_n 2, 1) := by decide +kernel
theorem d0_copyFrom_29 : decode prog_2_method_2_code 29 = .ok (.aaload, 1) := by decide +kernel
theorem d0_copyFrom_30 : decode prog_2_method_2_code 30 = .ok (.invokevirtual 41, 3) := by decide +kernel
theorem d0_copyFrom_33 : decode prog_2_method_2_code 33 = .ok (.iinc 2 1, 3) := by decide +kernel
theorem d0_copyFrom_36 : decode prog_2_method_2_code 36 = .ok (.goto (-23), 3) := by decide +kernel
theorem d0_copyFrom_39 : decode prog_2_method_2_code 39 = .ok (.aload_n 0, 1) := by decide +kernel
theorem d0_copyFrom_40 : decode prog_2_method_2_code 40 = .ok (.getfield 30, 3) := by decide +kernel
theorem d0_copyFrom_43 : decode prog_2_method_2_code 43 = .ok (.aload_n 1, 1) := by decide +kernel
theorem d0_copyFrom_44 : decode prog_2_method_2_code 44 = .ok (.getfield 30, 3) := by decide +kernel
theorem d0_copyFrom_47 : decode prog_2_method_2_code 47 = .ok (.invokevirtual 44, 3) := by decide +kernel
theorem d0_copyFrom_50 : decode prog_2_method_2_code 50 = .ok (.aload_n 1, 1) := by decide +kernel
theorem d0_copyFrom_51 : decode prog_2_method_2_code 51 = .ok (.getfield 34, 3) := by decide +kernel
theorem d0_copyFrom_54 : decode prog_2_method_2_code 54 = .ok (.iconst 0, 1) := by decide +kernel
theorem d0_copyFrom_55 : decode prog_2_method_2_code 55 = .ok (.aload_n 0, 1) := by decide +kernel
theorem d0_copyFrom_56 : decode prog_2_method_2_code 56 = .ok (.getfield 34, 3) := by decide +kernel
theorem d0_copyFrom_59 : decode prog_2_method_2_code 59 = .ok (.iconst 0, 1) := by decide +kernel
theorem d0_copyFrom_60 : decode prog_2_method_2_code 60 = .ok (.sipush 256, 3) := by decide +kernel
theorem d0_copyFrom_63 : decode prog_2_method_2_code 63 = .ok (.invokestatic 47, 3) := by decide +kernel
theorem d0_copyFrom_66 : decode prog_2_method_2_code 66 = .ok (.aload_n 0, 1) := by decide +kernel
theorem d0_copyFrom_67 : decode prog_2_method_2_code 67 = .ok (.aload_n 1, 1) := by decide +kernel
theorem d0_copyFrom_68 : decode prog_2_method_2_code 68 = .ok (.getfield 53, 3) := by decide +kernel
theorem d0_copyFrom_71 : decode prog_2_method_2_code 71 = .ok (.putfield 53, 3) := by decide +kernel
theorem d0_copyFrom_74 : decode prog_2_method_2_code 74 = .ok (.return_, 1) := by decide +kernel
theorem d0_passBit_0 : decode prog_2_method_3_code 0 = .ok (.iconst 1, 1) := by decide +kernel
theorem d0_passBit_1 : decode prog_2_method_3_code 1 = .ok (.istore_n 1, 1) := by decide +kernel
theorem d0_passBit_2 : decode prog_2_method_3_code 2 = .ok (.iconst 0, 1) := by decide +kernel
theorem d0_passBit_3 : decode prog_2_method_3_code 3 = .ok (.istore_n 2, 1) := by decide +kernel
theorem d0_passBit_4 : decode prog_2_method_3_code 4 = .ok (.iload_n 2, 1) := by decide +kernel
theorem d0_passBit_5 : decode prog_2_method_3_code 5 = .ok (.iconst 4, 1) := by decide +kernel
theorem d0_passBit_6 : decode prog_2_method_3_code 6 = .ok (.if_icmp .ge 21, 3) := by decide +kernel
theorem d0_passBit_9 : decode prog_2_method_3_code 9 = .ok (.iload_n 1, 1) := by decide +kernel
theorem d0_passBit_10 : decode prog_2_method_3_code 10 = .ok (.aload_n 0, 1) := by decide +kernel
theorem d0_passBit_11 : decode prog_2_method_3_code 11 = .ok (.getfield 20, 3) := by decide +kernel
theorem d0_passBit_14 : decode prog_2_method_3_code 14 = .ok (.iload_n 2, 1) := by decide +kernel
theorem d0_passBit_15 : decode prog_2_method_3_code 15 = .ok (.aaload, 1) := by decide +kernel
theorem d0_passBit_16 : decode prog_2_method_3_code 16 = .ok (.invokevirtual 57, 3) := by decide +kernel
theorem d0_passBit_19 : decode prog_2_method_3_code 19 = .ok (.iand, 1) := by decide +kernel
theorem d0_passBit_20 : decode prog_2_method_3_code 20 = .ok (.istore_n 1, 1) := by decide +kernel
theorem d0_passBit_21 : decode prog_2_method_3_code 21 = .ok (.iinc 2 1, 3) := by decide +kernel
theorem d0_passBit_24 : decode prog_2_method_3_code 24 = .ok (.goto (-20), 3) := by decide +kernel
theorem d0_passBit_27 : decode prog_2_method_3_code 27 = .ok (.aload_n 0, 1) := by decide +kernel
theorem d0_passBit_28 : decode prog_2_method_3_code 28 = .ok (.getfield 30, 3) := by decide +kernel
theorem d0_passBit_31 : decode prog_2_method_3_code 31 = .ok (.aload_n 0, 1) := by decide +kernel
theorem d0_passBit_32 : decode prog_2_method_3_code 32 = .ok (.getfield 53, 3) := by decide +kernel
theorem d0_passBit_35 : decode prog_2_method_3_code 35 = .ok (.invokevirtual 61, 3) := by decide +kernel
theorem d0_passBit_38 : decode prog_2_method_3_code 38 = .ok (.istore_n 2, 1) := by decide +kernel
theorem d0_passBit_39 : decode prog_2_method_3_code 39 = .ok (.iconst 0, 1) := by decide +kernel
theorem d0_passBit_40 : decode prog_2_method_3_code 40 = .ok (.istore_n 3, 1) := by decide +kernel
theorem d0_passBit_41 : decode prog_2_method_3_code 41 = .ok (.iload_n 3, 1) := by decide +kernel
theorem d0_passBit_42 : decode prog_2_method_3_code 42 = .ok (.iconst 4, 1) := by decide +kernel
theorem d0_passBit_43 : decode prog_2_method_3_code 43 = .ok (.if_icmp .ge 25, 3) := by decide +kernel
theorem d0_passBit_46 : decode prog_2_method_3_code 46 = .ok (.aload_n 0, 1) := by decide +kernel
theorem d0_passBit_47 : decode prog_2_method_3_code 47 = .ok (.getfield 20, 3) := by decide +kernel
theorem d0_passBit_50 : decode prog_2_method_3_code 50 = .ok (.iload_n 3, 1) := by decide +kernel
theorem d0_passBit_51 : decode prog_2_method_3_code 51 = .ok (.aaload, 1) := by decide +kernel
theorem d0_passBit_52 : decode prog_2_method_3_code 52 = .ok (.iload_n 1, 1) := by decide +kernel
theorem d0_passBit_53 : decode prog_2_method_3_code 53 = .ok (.iload_n 2, 1) := by decide +kernel
theorem d0_passBit_54 : decode prog_2_method_3_code 54 = .ok (.iload_n 3, 1) := by decide +kernel
theorem d0_passBit_55 : decode prog_2_method_3_code 55 = .ok (.ishr, 1) := by decide +kernel
theorem d0_passBit_56 : decode prog_2_method_3_code 56 = .ok (.iconst 1, 1) := by decide +kernel
theorem d0_passBit_57 : decode prog_2_method_3_code 57 = .ok (.iand, 1) := by decide +kernel
theorem d0_passBit_58 : decode prog_2_method_3_code 58 = .ok (.ixor, 1) := by decide +kernel
theorem d0_passBit_59 : decode prog_2_method_3_code 59 = .ok (.invokevirtual 65, 3) := by decide +kernel
theorem d0_passBit_62 : decode prog_2_method_3_code 62 = .ok (.iinc 3 1, 3) := by decide +kernel
theorem d0_passBit_65 : decode prog_2_method_3_code 65 = .ok (.goto (-24), 3) := by decide +kernel
theorem d0_passBit_68 : decode prog_2_method_3_code 68 = .ok (.aload_n 0, 1) := by decide +kernel
theorem d0_passBit_69 : decode prog_2_method_3_code 69 = .ok (.getfield 34, 3) := by decide +kernel
theorem d0_passBit_72 : decode prog_2_method_3_code 72 = .ok (.aload_n 0, 1) := by decide +kernel
theorem d0_passBit_73 : decode prog_2_method_3_code 73 = .ok (.getfield 53, 3) := by decide +kernel
theorem d0_passBit_76 : decode prog_2_method_3_code 76 = .ok (.sipush 255, 3) := by decide +kernel
theorem d0_passBit_79 : decode prog_2_method_3_code 79 = .ok (.iand, 1) := by decide +kernel
theorem d0_passBit_80 : decode prog_2_method_3_code 80 = .ok (.iload_n 1, 1) := by decide +kernel
theorem d0_passBit_81 : decode prog_2_method_3_code 81 = .ok (.iastore, 1) := by decide +kernel
theorem d0_passBit_82 : decode prog_2_method_3_code 82 = .ok (.aload_n 0, 1) := by decide +kernel
theorem d0_passBit_83 : decode prog_2_method_3_code 83 = .ok (.dup, 1) := by decide +kernel
theorem d0_passBit_84 : decode prog_2_method_3_code 84 = .ok (.getfield 53, 3) := by decide +kernel
theorem d0_passBit_87 : decode prog_2_method_3_code 87 = .ok (.iconst 1, 1) := by decide +kernel
theorem d0_passBit_88 : decode prog_2_method_3_code 88 = .ok (.iadd, 1) := by decide +kernel
theorem d0_passBit_89 : decode prog_2_method_3_code 89 = .ok (.putfield 53, 3) := by decide +kernel
theorem d0_passBit_92 : decode prog_2_method_3_code 92 = .ok (.aload_n 0, 1) := by decide +kernel
theorem d0_passBit_93 : decode prog_2_method_3_code 93 = .ok (.getfield 30, 3) := by decide +kernel
theorem d0_passBit_96 : decode prog_2_method_3_code 96 = .ok (.aload_n 0, 1) := by decide +kernel
theorem d0_passBit_97 : decode prog_2_method_3_code 97 = .ok (.getfield 53, 3) := by decide +kernel
theorem d0_passBit_100 : decode prog_2_method_3_code 100 = .ok (.invokevirtual 69, 3) := by decide +kernel
theorem d0_passBit_103 : decode prog_2_method_3_code 103 = .ok (.return_, 1) := by decide +kernel
theorem d0_levelBefore_0 : decode prog_2_method_4_code 0 = .ok (.iload_n 1, 1) := by decide +kernel
theorem d0_levelBefore_1 : decode prog_2_method_4_code 1 = .ok (.aload_n 0, 1) := by decide +kernel
theorem d0_levelBefore_2 : decode prog_2_method_4_code 2 = .ok (.getfield 53, 3) := by decide +kernel
theorem d0_levelBefore_5 : decode prog_2_method_4_code 5 = .ok (.if_icmp .le 8, 3) := by decide +kernel
theorem d0_levelBefore_8 : decode prog_2_method_4_code 8 = .ok (.bipush (-5), 2) := by decide +kernel
theorem d0_levelBefore_10 : decode prog_2_method_4_code 10 = .ok (.goto 18, 3) := by decide +kernel
theorem d0_levelBefore_13 : decode prog_2_method_4_code 13 = .ok (.aload_n 0, 1) := by decide +kernel
theorem d0_levelBefore_14 : decode prog_2_method_4_code 14 = .ok (.getfield 34, 3) := by decide +kernel
theorem d0_levelBefore_17 : decode prog_2_method_4_code 17 = .ok (.aload_n 0, 1) := by decide +kernel
theorem d0_levelBefore_18 : decode prog_2_method_4_code 18 = .ok (.getfield 53, 3) := by decide +kernel
theorem d0_levelBefore_21 : decode prog_2_method_4_code 21 = .ok (.iload_n 1, 1) := by decide +kernel
theorem d0_levelBefore_22 : decode prog_2_method_4_code 22 = .ok (.isub, 1) := by decide +kernel
theorem d0_levelBefore_23 : decode prog_2_method_4_code 23 = .ok (.sipush 255, 3) := by decide +kernel
theorem d0_levelBefore_26 : decode prog_2_method_4_code 26 = .ok (.iand, 1) := by decide +kernel
theorem d0_levelBefore_27 : decode prog_2_method_4_code 27 = .ok (.iaload, 1) := by decide +kernel
theorem d0_levelBefore_28 : decode prog_2_method_4_code 28 = .ok (.ireturn, 1) := by decide +kernel
theorem d0_isSettled_0 : decode prog_2_method_5_code 0 = .ok (.iconst 0, 1) := by decide +kernel
theorem d0_isSettled_1 : decode prog_2_method_5_code 1 = .ok (.istore_n 1, 1) := by decide +kernel
theorem d0_isSettled_2 : decode prog_2_method_5_code 2 = .ok (.iload_n 1, 1) := by decide +kernel
theorem d0_isSettled_3 : decode prog_2_method_5_code 3 = .ok (.iconst 4, 1) := by decide +kernel
theorem d0_isSettled_4 : decode prog_2_method_5_code 4 = .ok (.if_icmp .ge 43, 3) := by decide +kernel
theorem d0_isSettled_7 : decode prog_2_method_5_code 7 = .ok (.aload_n 0, 1) := by decide +kernel
theorem d0_isSettled_8 : decode prog_2_method_5_code 8 = .ok (.getfield 20, 3) := by decide +kernel
theorem d0_isSettled_11 : decode prog_2_method_5_code 11 = .ok (.iload_n 1, 1) := by decide +kernel
theorem d0_isSettled_12 : decode prog_2_method_5_code 12 = .ok (.aaload, 1) := by decide +kernel
theorem d0_isSettled_13 : decode prog_2_method_5_code 13 = .ok (.astore_n 2, 1) := by decide +kernel
theorem d0_isSettled_14 : decode prog_2_method_5_code 14 = .ok (.aload_n 2, 1) := by decide +kernel
theorem d0_isSettled_15 : decode prog_2_method_5_code 15 = .ok (.invokevirtual 72, 3) := by decide +kernel
theorem d0_isSettled_18 : decode prog_2_method_5_code 18 = .ok (.ifCond .eq 23, 3) := by decide +kernel
theorem d0_isSettled_21 : decode prog_2_method_5_code 21 = .ok (.aload_n 2, 1) := by decide +kernel
theorem d0_isSettled_22 : decode prog_2_method_5_code 22 = .ok (.getfield 76, 3) := by decide +kernel
theorem d0_isSettled_25 : decode prog_2_method_5_code 25 = .ok (.iconst 3, 1) := by decide +kernel
theorem d0_isSettled_26 : decode prog_2_method_5_code 26 = .ok (.if_icmp .ne 13, 3) := by decide +kernel
theorem d0_isSettled_29 : decode prog_2_method_5_code 29 = .ok (.aload_n 2, 1) := by decide +kernel
theorem d0_isSettled_30 : decode prog_2_method_5_code 30 = .ok (.getfield 79, 3) := by decide +kernel
theorem d0_isSettled_33 : decode prog_2_method_5_code 33 = .ok (.getfield 83, 3) := by decide +kernel
theorem d0_isSettled_36 : decode prog_2_method_5_code 36 = .ok (.ifCond .le 5, 3) := by decide +kernel
theorem d0_isSettled_39 : decode prog_2_method_5_code 39 = .ok (.iconst 0, 1) := by decide +kernel
theorem d0_isSettled_40 : decode prog_2_method_5_code 40 = .ok (.ireturn, 1) := by decide +kernel
theorem d0_isSettled_41 : decode prog_2_method_5_code 41 = .ok (.iinc 1 1, 3) := by decide +kernel
theorem d0_isSettled_44 : decode prog_2_method_5_code 44 = .ok (.goto (-42), 3) := by decide +kernel
theorem d0_isSettled_47 : decode prog_2_method_5_code 47 = .ok (.iconst 1, 1) := by decide +kernel
theorem d0_isSettled_48 : decode prog_2_method_5_code 48 = .ok (.ireturn, 1) := by decide +kernel
theorem d0_nextWinner_0 : decode prog_2_method_6_code 0 = .ok (.bipush (-5), 2) := by decide +kernel
theorem d0_nextWinner_2 : decode prog_2_method_6_code 2 = .ok (.istore_n 1, 1) := by decide +kernel
theorem d0_nextWinner_3 : decode prog_2_method_6_code 3 = .ok (.iconst 0, 1) := by decide +kernel
theorem d0_nextWinner_4 : decode prog_2_method_6_code 4 = .ok (.istore_n 2, 1) := by decide +kernel
theorem d0_nextWinner_5 : decode prog_2_method_6_code 5 = .ok (.iconst 0, 1) := by decide +kernel
theorem d0_nextWinner_6 : decode prog_2_method_6_code 6 = .ok (.istore_n 3, 1) := by decide +kernel
theorem d0_nextWinner_7 : decode prog_2_method_6_code 7 = .ok (.iload_n 3, 1) := by decide +kernel
theorem d0_nextWinner_8 : decode prog_2_method_6_code 8 = .ok (.iconst 4, 1) := by decide +kernel
theorem d0_nextWinner_9 : decode prog_2_method_6_code 9 = .ok (.if_icmp .ge 67, 3) := by decide +kernel
theorem d0_nextWinner_12 : decode prog_2_method_6_code 12 = .ok (.aload_n 0, 1) := by decide +kernel
theorem d0_nextWinner_13 : decode prog_2_method_6_code 13 = .ok (.getfield 20, 3) := by decide +kernel
theorem d0_nextWinner_16 : decode prog_2_method_6_code 16 = .ok (.iload_n 3, 1) := by decide +kernel
theorem d0_nextWinner_17 : decode prog_2_method_6_code 17 = .ok (.aaload, 1) := by decide +kernel
theorem d0_nextWinner_18 : decode prog_2_method_6_code 18 = .ok (.astore 4, 2) := by decide +kernel
theorem d0_nextWinner_20 : decode prog_2_method_6_code 20 = .ok (.aload 4, 2) := by decide +kernel
theorem d0_nextWinner_22 : decode prog_2_method_6_code 22 = .ok (.invokevirtual 72, 3) := by decide +kernel
theorem d0_nextWinner_25 : decode prog_2_method_6_code 25 = .ok (.ifCond .eq 45, 3) := by decide +kernel
theorem d0_nextWinner_28 : decode prog_2_method_6_code 28 = .ok (.aload 4, 2) := by decide +kernel
theorem d0_nextWinner_30 : decode prog_2_method_6_code 30 = .ok (.getfield 79, 3) := by decide +kernel
theorem d0_nextWinner_33 : decode prog_2_method_6_code 33 = .ok (.getfield 83, 3) := by decide +kernel
theorem d0_nextWinner_36 : decode prog_2_method_6_code 36 = .ok (.ifCond .ne 6, 3) := by decide +kernel
theorem d0_nextWinner_39 : decode prog_2_method_6_code 39 = .ok (.goto 31, 3) := by decide +kernel
theorem d0_nextWinner_42 : decode prog_2_method_6_code 42 = .ok (.aload 4, 2) := by decide +kernel
theorem d0_nextWinner_44 : decode prog_2_method_6_code 44 = .ok (.getfield 79, 3) := by decide +kernel
theorem d0_nextWinner_47 : decode prog_2_method_6_code 47 = .ok (.iconst 0, 1) := by decide +kernel
theorem d0_nextWinner_48 : decode prog_2_method_6_code 48 = .ok (.invokevirtual 88, 3) := by decide +kernel
theorem d0_nextWinner_51 : decode prog_2_method_6_code 51 = .ok (.istore 5, 2) := by decide +kernel
theorem d0_nextWinner_53 : decode prog_2_method_6_code 53 = .ok (.iload_n 1, 1) := by decide +kernel
theorem d0_nextWinner_54 : decode prog_2_method_6_code 54 = .ok (.bipush (-5), 2) := by decide +kernel
theorem d0_nextWinner_56 : decode prog_2_method_6_code 56 = .ok (.if_icmp .eq 9, 3) := by decide +kernel
theorem d0_nextWinner_59 : decode prog_2_method_6_code 59 = .ok (.iload 5, 2) := by decide +kernel
theorem d0_nextWinner_61 : decode prog_2_method_6_code 61 = .ok (.iload_n 2, 1) := by decide +kernel
theorem d0_nextWinner_62 : decode prog_2_method_6_code 62 = .ok (.if_icmp .ge 8, 3) := by decide +kernel
theorem d0_nextWinner_65 : decode prog_2_method_6_code 65 = .ok (.iload_n 3, 1) := by decide +kernel
theorem d0_nextWinner_66 : decode prog_2_method_6_code 66 = .ok (.istore_n 1, 1) := by decide +kernel
theorem d0_nextWinner_67 : decode prog_2_method_6_code 67 = .ok (.iload 5, 2) := by decide +kernel
theorem d0_nextWinner_69 : decode prog_2_method_6_code 69 = .ok (.istore_n 2, 1) := by decide +kernel
theorem d0_nextWinner_70 : decode prog_2_method_6_code 70 = .ok (.iinc 3 1, 3) := by decide +kernel
theorem d0_nextWinner_73 : decode prog_2_method_6_code 73 = .ok (.goto (-66), 3) := by decide +kernel
theorem d0_nextWinner_76 : decode prog_2_method_6_code 76 = .ok (.iload_n 1, 1) := by decide +kernel
theorem d0_nextWinner_77 : decode prog_2_method_6_code 77 = .ok (.ireturn, 1) := by decide +kernel
theorem d0_countAttached_0 : decode prog_2_method_7_code 0 = .ok (.iconst 0, 1) := by decide +kernel
theorem d0_countAttached_1 : decode prog_2_method_7_code 1 = .ok (.istore_n 1, 1) := by decide +kernel
theorem d0_countAttached_2 : decode prog_2_method_7_code 2 = .ok (.iconst 0, 1) := by decide +kernel
theorem d0_countAttached_3 : decode prog_2_method_7_code 3 = .ok (.istore_n 2, 1) := by decide +kernel
theorem d0_countAttached_4 : decode prog_2_method_7_code 4 = .ok (.iload_n 2, 1) := by decide +kernel
theorem d0_countAttached_5 : decode prog_2_method_7_code 5 = .ok (.iconst 4, 1) := by decide +kernel
theorem d0_countAttached_6 : decode prog_2_method_7_code 6 = .ok (.if_icmp .ge 24, 3) := by decide +kernel
theorem d0_countAttached_9 : decode prog_2_method_7_code 9 = .ok (.aload_n 0, 1) := by decide +kernel
theorem d0_countAttached_10 : decode prog_2_method_7_code 10 = .ok (.getfield 20, 3) := by decide +kernel
theorem d0_countAttached_13 : decode prog_2_method_7_code 13 = .ok (.iload_n 2, 1) := by decide +kernel
theorem d0_countAttached_14 : decode prog_2_method_7_code 14 = .ok (.aaload, 1) := by decide +kernel
theorem d0_countAttached_15 : decode prog_2_method_7_code 15 = .ok (.getfield 76, 3) := by decide +kernel
theorem d0_countAttached_18 : decode prog_2_method_7_code 18 = .ok (.ifCond .eq 6, 3) := by decide +kernel
theorem d0_countAttached_21 : decode prog_2_method_7_code 21 = .ok (.iinc 1 1, 3) := by decide +kernel
theorem d0_countAttached_24 : decode prog_2_method_7_code 24 = .ok (.iinc 2 1, 3) := by decide +kernel
theorem d0_countAttached_27 : decode prog_2_method_7_code 27 = .ok (.goto (-23), 3) := by decide +kernel
theorem d0_countAttached_30 : decode prog_2_method_7_code 30 = .ok (.iload_n 1, 1) := by decide +kernel
theorem d0_countAttached_31 : decode prog_2_method_7_code 31 = .ok (.ireturn, 1) := by decide +kernel
theorem d0_countSent_0 : decode prog_2_method_8_code 0 = .ok (.iconst 0, 1) := by decide +kernel
theorem d0_countSent_1 : decode prog_2_method_8_code 1 = .ok (.istore_n 1, 1) := by decide +kernel
theorem d0_countSent_2 : decode prog_2_method_8_code 2 = .ok (.iconst 0, 1) := by decide +kernel
theorem d0_countSent_3 : decode prog_2_method_8_code 3 = .ok (.istore_n 2, 1) := by decide +kernel
theorem d0_countSent_4 : decode prog_2_method_8_code 4 = .ok (.iload_n 2, 1) := by decide +kernel
theorem d0_countSent_5 : decode prog_2_method_8_code 5 = .ok (.iconst 4, 1) := by decide +kernel
theorem d0_countSent_6 : decode prog_2_method_8_code 6 = .ok (.if_icmp .ge 24, 3) := by decide +kernel
theorem d0_countSent_9 : decode prog_2_method_8_code 9 = .ok (.iload_n 1, 1) := by decide +kernel
theorem d0_countSent_10 : decode prog_2_method_8_code 10 = .ok (.aload_n 0, 1) := by decide +kernel
theorem d0_countSent_11 : decode prog_2_method_8_code 11 = .ok (.getfield 20, 3) := by decide +kernel
theorem d0_countSent_14 : decode prog_2_method_8_code 14 = .ok (.iload_n 2, 1) := by decide +kernel
theorem d0_countSent_15 : decode prog_2_method_8_code 15 = .ok (.aaload, 1) := by decide +kernel
theorem d0_countSent_16 : decode prog_2_method_8_code 16 = .ok (.getfield 91, 3) := by decide +kernel
theorem d0_countSent_19 : decode prog_2_method_8_code 19 = .ok (.getfield 95, 3) := by decide +kernel
theorem d0_countSent_22 : decode prog_2_method_8_code 22 = .ok (.iadd, 1) := by decide +kernel
theorem d0_countSent_23 : decode prog_2_method_8_code 23 = .ok (.istore_n 1, 1) := by decide +kernel
theorem d0_countSent_24 : decode prog_2_method_8_code 24 = .ok (.iinc 2 1, 3) := by decide +kernel
theorem d0_countSent_27 : decode prog_2_method_8_code 27 = .ok (.goto (-23), 3) := by decide +kernel
theorem d0_countSent_30 : decode prog_2_method_8_code 30 = .ok (.iload_n 1, 1) := by decide +kernel
theorem d0_countSent_31 : decode prog_2_method_8_code 31 = .ok (.ireturn, 1) := by decide +kernel
theorem d1_init_0 : decode prog_3_method_1_code 0 = .ok (.aload_n 0, 1) := by decide +kernel
theorem d1_init_1 : decode prog_3_method_1_code 1 = .ok (.invokespecial 1, 3) := by decide +kernel
theorem d1_init_4 : decode prog_3_method_1_code 4 = .ok (.aload_n 0, 1) := by decide +kernel
theorem d1_init_5 : decode prog_3_method_1_code 5 = .ok (.bipush 8, 2) := by decide +kernel
theorem d1_init_7 : decode prog_3_method_1_code 7 = .ok (.newarray .int, 2) := by decide +kernel
theorem d1_init_9 : decode prog_3_method_1_code 9 = .ok (.putfield 9, 3) := by decide +kernel
theorem d1_init_12 : decode prog_3_method_1_code 12 = .ok (.aload_n 0, 1) := by decide +kernel
theorem d1_init_13 : decode prog_3_method_1_code 13 = .ok (.bipush 8, 2) := by decide +kernel
theorem d1_init_15 : decode prog_3_method_1_code 15 = .ok (.newarray .int, 2) := by decide +kernel
theorem d1_init_17 : decode prog_3_method_1_code 17 = .ok (.putfield 13, 3) := by decide +kernel
theorem d1_init_20 : decode prog_3_method_1_code 20 = .ok (.return_, 1) := by decide +kernel
theorem d1_copyFrom_0 : decode prog_3_method_2_code 0 = .ok (.aload_n 1, 1) := by decide +kernel
theorem d1_copyFrom_1 : decode prog_3_method_2_code 1 = .ok (.getfield 9, 3) := by decide +kernel
theorem d1_copyFrom_4 : decode prog_3_method_2_code 4 = .ok (.iconst 0, 1) := by decide +kernel
theorem d1_copyFrom_5 : decode prog_3_method_2_code 5 = .ok (.aload_n 0, 1) := by decide +kernel
theorem d1_copyFrom_6 : decode prog_3_method_2_code 6 = .ok (.getfield 9, 3) := by decide +kernel
theorem d1_copyFrom_9 : decode prog_3_method_2_code 9 = .ok (.iconst 0, 1) := by decide +kernel
theorem d1_copyFrom_10 : decode prog_3_method_2_code 10 = .ok (.bipush 8, 2) := by decide +kernel
theorem d1_copyFrom_12 : decode prog_3_method_2_code 12 = .ok (.invokestatic 16, 3) := by decide +kernel
theorem d1_copyFrom_15 : decode prog_3_method_2_code 15 = .ok (.aload_n 1, 1) := by decide +kernel
theorem d1_copyFrom_16 : decode prog_3_method_2_code 16 = .ok (.getfield 13, 3) := by decide +kernel
theorem d1_copyFrom_19 : decode prog_3_method_2_code 19 = .ok (.iconst 0, 1) := by decide +kernel
theorem d1_copyFrom_20 : decode prog_3_method_2_code 20 = .ok (.aload_n 0, 1) := by decide +kernel
theorem d1_copyFrom_21 : decode prog_3_method_2_code 21 = .ok (.getfield 13, 3) := by decide +kernel
theorem d1_copyFrom_24 : decode prog_3_method_2_code 24 = .ok (.iconst 0, 1) := by decide +kernel
theorem d1_copyFrom_25 : decode prog_3_method_2_code 25 = .ok (.bipush 8, 2) := by decide +kernel
theorem d1_copyFrom_27 : decode prog_3_method_2_code 27 = .ok (.invokestatic 16, 3) := by decide +kernel
theorem d1_copyFrom_30 : decode prog_3_method_2_code 30 = .ok (.aload_n 0, 1) := by decide +kernel
theorem d1_copyFrom_31 : decode prog_3_method_2_code 31 = .ok (.aload_n 1, 1) := by decide +kernel
theorem d1_copyFrom_32 : decode prog_3_method_2_code 32 = .ok (.getfield 22, 3) := by decide +kernel
theorem d1_copyFrom_35 : decode prog_3_method_2_code 35 = .ok (.putfield 22, 3) := by decide +kernel
theorem d1_copyFrom_38 : decode prog_3_method_2_code 38 = .ok (.return_, 1) := by decide +kernel
theorem d1_add_0 : decode prog_3_method_3_code 0 = .ok (.aload_n 0, 1) := by decide +kernel
theorem d1_add_1 : decode prog_3_method_3_code 1 = .ok (.getfield 22, 3) := by decide +kernel
theorem d1_add_4 : decode prog_3_method_3_code 4 = .ok (.bipush 8, 2) := by decide +kernel
theorem d1_add_6 : decode prog_3_method_3_code 6 = .ok (.if_icmp .lt 5, 3) := by decide +kernel
theorem d1_add_9 : decode prog_3_method_3_code 9 = .ok (.iconst 0, 1) := by decide +kernel
theorem d1_add_10 : decode prog_3_method_3_code 10 = .ok (.ireturn, 1) := by decide +kernel
theorem d1_add_11 : decode prog_3_method_3_code 11 = .ok (.aload_n 0, 1) := by decide +kernel
theorem d1_add_12 : decode prog_3_method_3_code 12 = .ok (.getfield 9, 3) := by decide +kernel
theorem d1_add_15 : decode prog_3_method_3_code 15 = .ok (.aload_n 0, 1) := by decide +kernel
theorem d1_add_16 : decode prog_3_method_3_code 16 = .ok (.getfield 22, 3) := by decide +kernel
theorem d1_add_19 : decode prog_3_method_3_code 19 = .ok (.iload_n 1, 1) := by decide +kernel
theorem d1_add_20 : decode prog_3_method_3_code 20 = .ok (.iastore, 1) := by decide +kernel
theorem d1_add_21 : decode prog_3_method_3_code 21 = .ok (.aload_n 0, 1) := by decide +kernel
theorem d1_add_22 : decode prog_3_method_3_code 22 = .ok (.getfield 13, 3) := by decide +kernel
theorem d1_add_25 : decode prog_3_method_3_code 25 = .ok (.aload_n 0, 1) := by decide +kernel
theorem d1_add_26 : decode prog_3_method_3_code 26 = .ok (.getfield 22, 3) := by decide +kernel
theorem d1_add_29 : decode prog_3_method_3_code 29 = .ok (.iload_n 2, 1) := by decide +kernel
theorem d1_add_30 : decode prog_3_method_3_code 30 = .ok (.iastore, 1) := by decide +kernel
theorem d1_add_31 : decode prog_3_method_3_code 31 = .ok (.aload_n 0, 1) := by decide +kernel
theorem d1_add_32 : decode prog_3_method_3_code 32 = .ok (.dup, 1) := by decide +kernel
theorem d1_add_33 : decode prog_3_method_3_code 33 = .ok (.getfield 22, 3) := by decide +kernel
theorem d1_add_36 : decode prog_3_method_3_code 36 = .ok (.iconst 1, 1) := by decide +kernel
theorem d1_add_37 : decode prog_3_method_3_code 37 = .ok (.iadd, 1) := by decide +kernel
theorem d1_add_38 : decode prog_3_method_3_code 38 = .ok (.putfield 22, 3) := by decide +kernel
theorem d1_add_41 : decode prog_3_method_3_code 41 = .ok (.iconst 1, 1) := by decide +kernel
theorem d1_add_42 : decode prog_3_method_3_code 42 = .ok (.ireturn, 1) := by decide +kernel
theorem d1_nodesAt_0 : decode prog_3_method_4_code 0 = .ok (.iconst 0, 1) := by decide +kernel
theorem d1_nodesAt_1 : decode prog_3_method_4_code 1 = .ok (.istore_n 2, 1) := by decide +kernel
theorem d1_nodesAt_2 : decode prog_3_method_4_code 2 = .ok (.iconst 0, 1) := by decide +kernel
theorem d1_nodesAt_3 : decode prog_3_method_4_code 3 = .ok (.istore_n 3, 1) := by decide +kernel
theorem d1_nodesAt_4 : decode prog_3_method_4_code 4 = .ok (.iload_n 3, 1) := by decide +kernel
theorem d1_nodesAt_5 : decode prog_3_method_4_code 5 = .ok (.aload_n 0, 1) := by decide +kernel
theorem d1_nodesAt_6 : decode prog_3_method_4_code 6 = .ok (.getfield 22, 3) := by decide +kernel
theorem d1_nodesAt_9 : decode prog_3_method_4_code 9 = .ok (.if_icmp .ge 28, 3) := by decide +kernel
theorem d1_nodesAt_12 : decode prog_3_method_4_code 12 = .ok (.aload_n 0, 1) := by decide +kernel
theorem d1_nodesAt_13 : decode prog_3_method_4_code 13 = .ok (.getfield 13, 3) := by decide +kernel
theorem d1_nodesAt_16 : decode prog_3_method_4_code 16 = .ok (.iload_n 3, 1) := by decide +kernel
theorem d1_nodesAt_17 : decode prog_3_method_4_code 17 = .ok (.iaload, 1) := by decide +kernel
theorem d1_nodesAt_18 : decode prog_3_method_4_code 18 = .ok (.iload_n 1, 1) := by decide +kernel
theorem d1_nodesAt_19 : decode prog_3_method_4_code 19 = .ok (.if_icmp .ne 12, 3) := by decide +kernel
theorem d1_nodesAt_22 : decode prog_3_method_4_code 22 = .ok (.iload_n 2, 1) := by decide +kernel
theorem d1_nodesAt_23 : decode prog_3_method_4_code 23 = .ok (.aload_n 0, 1) := by decide +kernel
theorem d1_nodesAt_24 : decode prog_3_method_4_code 24 = .ok (.getfield 9, 3) := by decide +kernel
theorem d1_nodesAt_27 : decode prog_3_method_4_code 27 = .ok (.iload_n 3, 1) := by decide +kernel
theorem d1_nodesAt_28 : decode prog_3_method_4_code 28 = .ok (.iaload, 1) := by decide +kernel
theorem d1_nodesAt_29 : decode prog_3_method_4_code 29 = .ok (.ior, 1) := by decide +kernel
theorem d1_nodesAt_30 : decode prog_3_method_4_code 30 = .ok (.istore_n 2, 1) := by decide +kernel
theorem d1_nodesAt_31 : decode prog_3_method_4_code 31 = .ok (.iinc 3 1, 3) := by decide +kernel
theorem d1_nodesAt_34 : decode prog_3_method_4_code 34 = .ok (.goto (-30), 3) := by decide +kernel
theorem d1_nodesAt_37 : decode prog_3_method_4_code 37 = .ok (.iload_n 2, 1) := by decide +kernel
theorem d1_nodesAt_38 : decode prog_3_method_4_code 38 = .ok (.ireturn, 1) := by decide +kernel
theorem d1_dropBefore_0 : decode prog_3_method_5_code 0 = .ok (.iconst 0, 1) := by decide +kernel
theorem d1_dropBefore_1 : decode prog_3_method_5_code 1 = .ok (.istore_n 2, 1) := by decide +kernel
theorem d1_dropBefore_2 : decode prog_3_method_5_code 2 = .ok (.iconst 0, 1) := by decide +kernel
theorem d1_dropBefore_3 : decode prog_3_method_5_code 3 = .ok (.istore_n 3, 1) := by decide +kernel
theorem d1_dropBefore_4 : decode prog_3_method_5_code 4 = .ok (.iload_n 3, 1) := by decide +kernel
theorem d1_dropBefore_5 : decode prog_3_method_5_code 5 = .ok (.aload_n 0, 1) := by decide +kernel
theorem d1_dropBefore_6 : decode prog_3_method_5_code 6 = .ok (.getfield 22, 3) := by decide +kernel
theorem d1_dropBefore_9 : decode prog_3_method_5_code 9 = .ok (.if_icmp .ge 46, 3) := by decide +kernel
theorem d1_dropBefore_12 : decode prog_3_method_5_code 12 = .ok (.aload_n 0, 1) := by decide +kernel
theorem d1_dropBefore_13 : decode prog_3_method_5_code 13 = .ok (.getfield 13, 3) := by decide +kernel
theorem d1_dropBefore_16 : decode prog_3_method_5_code 16 = .ok (.iload_n 3, 1) := by decide +kernel
theorem d1_dropBefore_17 : decode prog_3_method_5_code 17 = .ok (.iaload, 1) := by decide +kernel
theorem d1_dropBefore_18 : decode prog_3_method_5_code 18 = .ok (.iload_n 1, 1) := by decide +kernel
theorem d1_dropBefore_19 : decode prog_3_method_5_code 19 = .ok (.if_icmp .lt 30, 3) := by decide +kernel
theorem d1_dropBefore_22 : decode prog_3_method_5_code 22 = .ok (.aload_n 0, 1) := by decide +kernel
theorem d1_dropBefore_23 : decode prog_3_method_5_code 23 = .ok (.getfield 9, 3) := by decide +kernel
theorem d1_dropBefore_26 : decode prog_3_method_5_code 26 = .ok (.iload_n 2, 1) := by decide +kernel
theorem d1_dropBefore_27 : decode prog_3_method_5_code 27 = .ok (.aload_n 0, 1) := by decide +kernel
theorem d1_dropBefore_28 : decode prog_3_method_5_code 28 = .ok (.getfield 9, 3) := by decide +kernel
theorem d1_dropBefore_31 : decode prog_3_method_5_code 31 = .ok (.iload_n 3, 1) := by decide +kernel
theorem d1_dropBefore_32 : decode prog_3_method_5_code 32 = .ok (.iaload, 1) := by decide +kernel
theorem d1_dropBefore_33 : decode prog_3_method_5_code 33 = .ok (.iastore, 1) := by decide +kernel
theorem d1_dropBefore_34 : decode prog_3_method_5_code 34 = .ok (.aload_n 0, 1) := by decide +kernel
theorem d1_dropBefore_35 : decode prog_3_method_5_code 35 = .ok (.getfield 13, 3) := by decide +kernel
theorem d1_dropBefore_38 : decode prog_3_method_5_code 38 = .ok (.iload_n 2, 1) := by decide +kernel
theorem d1_dropBefore_39 : decode prog_3_method_5_code 39 = .ok (.aload_n 0, 1) := by decide +kernel
theorem d1_dropBefore_40 : decode prog_3_method_5_code 40 = .ok (.getfield 13, 3) := by decide +kernel
theorem d1_dropBefore_43 : decode prog_3_method_5_code 43 = .ok (.iload_n 3, 1) := by decide +kernel
theorem d1_dropBefore_44 : decode prog_3_method_5_code 44 = .ok (.iaload, 1) := by decide +kernel
theorem d1_dropBefore_45 : decode prog_3_method_5_code 45 = .ok (.iastore, 1) := by decide +kernel
theorem d1_dropBefore_46 : decode prog_3_method_5_code 46 = .ok (.iinc 2 1, 3) := by decide +kernel
theorem d1_dropBefore_49 : decode prog_3_method_5_code 49 = .ok (.iinc 3 1, 3) := by decide +kernel
theorem d1_dropBefore_52 : decode prog_3_method_5_code 52 = .ok (.goto (-48), 3) := by decide +kernel
theorem d1_dropBefore_55 : decode prog_3_method_5_code 55 = .ok (.aload_n 0, 1) := by decide +kernel
theorem d1_dropBefore_56 : decode prog_3_method_5_code 56 = .ok (.iload_n 2, 1) := by decide +kernel
theorem d1_dropBefore_57 : decode prog_3_method_5_code 57 = .ok (.putfield 22, 3) := by decide +kernel
theorem d1_dropBefore_60 : decode prog_3_method_5_code 60 = .ok (.return_, 1) := by decide +kernel
theorem d2_init_0 : decode prog_4_method_1_code 0 = .ok (.aload_n 0, 1) := by decide +kernel
theorem d2_init_1 : decode prog_4_method_1_code 1 = .ok (.invokespecial 3, 3) := by decide +kernel
theorem d2_init_4 : decode prog_4_method_1_code 4 = .ok (.return_, 1) := by decide +kernel
theorem d2_copyFrom_0 : decode prog_4_method_2_code 0 = .ok (.aload_n 0, 1) := by decide +kernel
theorem d2_copyFrom_1 : decode prog_4_method_2_code 1 = .ok (.aload_n 1, 1) := by decide +kernel
theorem d2_copyFrom_2 : decode prog_4_method_2_code 2 = .ok (.getfield 9, 3) := by decide +kernel
theorem d2_copyFrom_5 : decode prog_4_method_2_code 5 = .ok (.putfield 9, 3) := by decide +kernel
theorem d2_copyFrom_8 : decode prog_4_method_2_code 8 = .ok (.aload_n 0, 1) := by decide +kernel
theorem d2_copyFrom_9 : decode prog_4_method_2_code 9 = .ok (.aload_n 1, 1) := by decide +kernel
theorem d2_copyFrom_10 : decode prog_4_method_2_code 10 = .ok (.getfield 15, 3) := by decide +kernel
theorem d2_copyFrom_13 : decode prog_4_method_2_code 13 = .ok (.putfield 15, 3) := by decide +kernel
theorem d2_copyFrom_16 : decode prog_4_method_2_code 16 = .ok (.aload_n 0, 1) := by decide +kernel
theorem d2_copyFrom_17 : decode prog_4_method_2_code 17 = .ok (.aload_n 1, 1) := by decide +kernel
theorem d2_copyFrom_18 : decode prog_4_method_2_code 18 = .ok (.getfield 18, 3) := by decide +kernel
theorem d2_copyFrom_21 : decode prog_4_method_2_code 21 = .ok (.putfield 18, 3) := by decide +kernel
theorem d2_copyFrom_24 : decode prog_4_method_2_code 24 = .ok (.aload_n 0, 1) := by decide +kernel
theorem d2_copyFrom_25 : decode prog_4_method_2_code 25 = .ok (.aload_n 1, 1) := by decide +kernel
theorem d2_copyFrom_26 : decode prog_4_method_2_code 26 = .ok (.getfield 22, 3) := by decide +kernel
theorem d2_copyFrom_29 : decode prog_4_method_2_code 29 = .ok (.putfield 22, 3) := by decide +kernel
theorem d2_copyFrom_32 : decode prog_4_method_2_code 32 = .ok (.aload_n 0, 1) := by decide +kernel
theorem d2_copyFrom_33 : decode prog_4_method_2_code 33 = .ok (.aload_n 1, 1) := by decide +kernel
theorem d2_copyFrom_34 : decode prog_4_method_2_code 34 = .ok (.getfield 25, 3) := by decide +kernel
theorem d2_copyFrom_37 : decode prog_4_method_2_code 37 = .ok (.putfield 25, 3) := by decide +kernel
theorem d2_copyFrom_40 : decode prog_4_method_2_code 40 = .ok (.aload_n 0, 1) := by decide +kernel
theorem d2_copyFrom_41 : decode prog_4_method_2_code 41 = .ok (.aload_n 1, 1) := by decide +kernel
theorem d2_copyFrom_42 : decode prog_4_method_2_code 42 = .ok (.getfield 28, 3) := by decide +kernel
theorem d2_copyFrom_45 : decode prog_4_method_2_code 45 = .ok (.putfield 28, 3) := by decide +kernel
theorem d2_copyFrom_48 : decode prog_4_method_2_code 48 = .ok (.aload_n 0, 1) := by decide +kernel
theorem d2_copyFrom_49 : decode prog_4_method_2_code 49 = .ok (.aload_n 1, 1) := by decide +kernel
theorem d2_copyFrom_50 : decode prog_4_method_2_code 50 = .ok (.getfield 31, 3) := by decide +kernel
theorem d2_copyFrom_53 : decode prog_4_method_2_code 53 = .ok (.putfield 31, 3) := by decide +kernel
theorem d2_copyFrom_56 : decode prog_4_method_2_code 56 = .ok (.aload_n 0, 1) := by decide +kernel
theorem d2_copyFrom_57 : decode prog_4_method_2_code 57 = .ok (.aload_n 1, 1) := by decide +kernel
theorem d2_copyFrom_58 : decode prog_4_method_2_code 58 = .ok (.getfield 34, 3) := by decide +kernel
theorem d2_copyFrom_61 : decode prog_4_method_2_code 61 = .ok (.putfield 34, 3) := by decide +kernel
theorem d2_copyFrom_64 : decode prog_4_method_2_code 64 = .ok (.aload_n 0, 1) := by decide +kernel
theorem d2_copyFrom_65 : decode prog_4_method_2_code 65 = .ok (.aload_n 1, 1) := by decide +kernel
theorem d2_copyFrom_66 : decode prog_4_method_2_code 66 = .ok (.getfield 37, 3) := by decide +kernel
theorem d2_copyFrom_69 : decode prog_4_method_2_code 69 = .ok (.putfield 37, 3) := by decide +kernel
theorem d2_copyFrom_72 : decode prog_4_method_2_code 72 = .ok (.return_, 1) := by decide +kernel
theorem d2_outgoingBits_0 : decode prog_4_method_3_code 0 = .ok (.iload_n 0, 1) := by decide +kernel
theorem d2_outgoingBits_1 : decode prog_4_method_3_code 1 = .ok (.i2l, 1) := by decide +kernel
theorem d2_outgoingBits_2 : decode prog_4_method_3_code 2 = .ok (.bipush 6, 2) := by decide +kernel
theorem d2_outgoingBits_4 : decode prog_4_method_3_code 4 = .ok (.lshl, 1) := by decide +kernel
theorem d2_outgoingBits_5 : decode prog_4_method_3_code 5 = .ok (.iload_n 1, 1) := by decide +kernel
theorem d2_outgoingBits_6 : decode prog_4_method_3_code 6 = .ok (.i2l, 1) := by decide +kernel
theorem d2_outgoingBits_7 : decode prog_4_method_3_code 7 = .ok (.lor, 1) := by decide +kernel
theorem d2_outgoingBits_8 : decode prog_4_method_3_code 8 = .ok (.lstore_n 3, 1) := by decide +kernel
theorem d2_outgoingBits_9 : decode prog_4_method_3_code 9 = .ok (.iload_n 0, 1) := by decide +kernel
theorem d2_outgoingBits_10 : decode prog_4_method_3_code 10 = .ok (.iload_n 1, 1) := by decide +kernel
theorem d2_outgoingBits_11 : decode prog_4_method_3_code 11 = .ok (.invokestatic 40, 3) := by decide +kernel
theorem d2_outgoingBits_14 : decode prog_4_method_3_code 14 = .ok (.istore 5, 2) := by decide +kernel
theorem d2_outgoingBits_16 : decode prog_4_method_3_code 16 = .ok (.lload_n 3, 1) := by decide +kernel
theorem d2_outgoingBits_17 : decode prog_4_method_3_code 17 = .ok (.iload 5, 2) := by decide +kernel
theorem d2_outgoingBits_19 : decode prog_4_method_3_code 19 = .ok (.lshl, 1) := by decide +kernel
theorem d2_outgoingBits_20 : decode prog_4_method_3_code 20 = .ok (.iload_n 2, 1) := by decide +kernel
theorem d2_outgoingBits_21 : decode prog_4_method_3_code 21 = .ok (.i2l, 1) := by decide +kernel
theorem d2_outgoingBits_22 : decode prog_4_method_3_code 22 = .ok (.ldc2_w 44, 3) := by decide +kernel
theorem d2_outgoingBits_25 : decode prog_4_method_3_code 25 = .ok (.land, 1) := by decide +kernel
theorem d2_outgoingBits_26 : decode prog_4_method_3_code 26 = .ok (.lor, 1) := by decide +kernel
theorem d2_outgoingBits_27 : decode prog_4_method_3_code 27 = .ok (.lstore 6, 2) := by decide +kernel
theorem d2_outgoingBits_29 : decode prog_4_method_3_code 29 = .ok (.lload 6, 2) := by decide +kernel
theorem d2_outgoingBits_31 : decode prog_4_method_3_code 31 = .ok (.bipush 45, 2) := by decide +kernel
theorem d2_outgoingBits_33 : decode prog_4_method_3_code 33 = .ok (.iload 5, 2) := by decide +kernel
theorem d2_outgoingBits_35 : decode prog_4_method_3_code 35 = .ok (.isub, 1) := by decide +kernel
theorem d2_outgoingBits_36 : decode prog_4_method_3_code 36 = .ok (.lshl, 1) := by decide +kernel
theorem d2_outgoingBits_37 : decode prog_4_method_3_code 37 = .ok (.lreturn, 1) := by decide +kernel
theorem d2_dataBitsOf_0 : decode prog_4_method_4_code 0 = .ok (.iload_n 0, 1) := by decide +kernel
theorem d2_dataBitsOf_1 : decode prog_4_method_4_code 1 = .ok (.iconst 1, 1) := by decide +kernel
theorem d2_dataBitsOf_2 : decode prog_4_method_4_code 2 = .ok (.iand, 1) := by decide +kernel
theorem d2_dataBitsOf_3 : decode prog_4_method_4_code 3 = .ok (.iconst 1, 1) := by decide +kernel
theorem d2_dataBitsOf_4 : decode prog_4_method_4_code 4 = .ok (.if_icmp .ne 7, 3) := by decide +kernel
theorem d2_dataBitsOf_7 : decode prog_4_method_4_code 7 = .ok (.iconst 0, 1) := by decide +kernel
theorem d2_dataBitsOf_8 : decode prog_4_method_4_code 8 = .ok (.goto 7, 3) := by decide +kernel
theorem d2_dataBitsOf_11 : decode prog_4_method_4_code 11 = .ok (.bipush 8, 2) := by decide +kernel
theorem d2_dataBitsOf_13 : decode prog_4_method_4_code 13 = .ok (.iload_n 1, 1) := by decide +kernel
theorem d2_dataBitsOf_14 : decode prog_4_method_4_code 14 = .ok (.imul, 1) := by decide +kernel
theorem d2_dataBitsOf_15 : decode prog_4_method_4_code 15 = .ok (.ireturn, 1) := by decide +kernel
theorem d2_begin_0 : decode prog_4_method_5_code 0 = .ok (.aload_n 0, 1) := by decide +kernel
theorem d2_begin_1 : decode prog_4_method_5_code 1 = .ok (.iconst 1, 1) := by decide +kernel
theorem d2_begin_2 : decode prog_4_method_5_code 2 = .ok (.putfield 9, 3) := by decide +kernel
theorem d2_begin_5 : decode prog_4_method_5_code 5 = .ok (.aload_n 0, 1) := by decide +kernel
theorem d2_begin_6 : decode prog_4_method_5_code 6 = .ok (.bipush 19, 2) := by decide +kernel
theorem d2_begin_8 : decode prog_4_method_5_code 8 = .ok (.putfield 15, 3) := by decide +kernel
theorem d2_begin_11 : decode prog_4_method_5_code 11 = .ok (.aload_n 0, 1) := by decide +kernel
theorem d2_begin_12 : decode prog_4_method_5_code 12 = .ok (.lconst 0, 1) := by decide +kernel
theorem d2_begin_13 : decode prog_4_method_5_code 13 = .ok (.putfield 18, 3) := by decide +kernel
theorem d2_begin_16 : decode prog_4_method_5_code 16 = .ok (.aload_n 0, 1) := by decide +kernel
theorem d2_begin_17 : decode prog_4_method_5_code 17 = .ok (.iconst 0, 1) := by decide +kernel
theorem d2_begin_18 : decode prog_4_method_5_code 18 = .ok (.putfield 22, 3) := by decide +kernel
theorem d2_begin_21 : decode prog_4_method_5_code 21 = .ok (.aload_n 0, 1) := by decide +kernel
theorem d2_begin_22 : decode prog_4_method_5_code 22 = .ok (.iconst 0, 1) := by decide +kernel
theorem d2_begin_23 : decode prog_4_method_5_code 23 = .ok (.putfield 25, 3) := by decide +kernel
theorem d2_begin_26 : decode prog_4_method_5_code 26 = .ok (.aload_n 0, 1) := by decide +kernel
theorem d2_begin_27 : decode prog_4_method_5_code 27 = .ok (.iconst 0, 1) := by decide +kernel
theorem d2_begin_28 : decode prog_4_method_5_code 28 = .ok (.putfield 28, 3) := by decide +kernel
theorem d2_begin_31 : decode prog_4_method_5_code 31 = .ok (.aload_n 0, 1) := by decide +kernel
theorem d2_begin_32 : decode prog_4_method_5_code 32 = .ok (.iconst 0, 1) := by decide +kernel
theorem d2_begin_33 : decode prog_4_method_5_code 33 = .ok (.putfield 31, 3) := by decide +kernel
theorem d2_begin_36 : decode prog_4_method_5_code 36 = .ok (.aload_n 0, 1) := by decide +kernel
theorem d2_begin_37 : decode prog_4_method_5_code 37 = .ok (.iconst 1, 1) := by decide +kernel
theorem d2_begin_38 : decode prog_4_method_5_code 38 = .ok (.putfield 34, 3) := by decide +kernel
theorem d2_begin_41 : decode prog_4_method_5_code 41 = .ok (.aload_n 0, 1) := by decide +kernel
theorem d2_begin_42 : decode prog_4_method_5_code 42 = .ok (.iconst 0, 1) := by decide +kernel
theorem d2_begin_43 : decode prog_4_method_5_code 43 = .ok (.putfield 37, 3) := by decide +kernel
theorem d2_begin_46 : decode prog_4_method_5_code 46 = .ok (.return_, 1) := by decide +kernel
theorem d2_isStuffBitDue_0 : decode prog_4_method_6_code 0 = .ok (.aload_n 0, 1) := by decide +kernel
theorem d2_isStuffBitDue_1 : decode prog_4_method_6_code 1 = .ok (.getfield 34, 3) := by decide +kernel
theorem d2_isStuffBitDue_4 : decode prog_4_method_6_code 4 = .ok (.iconst 5, 1) := by decide +kernel
theorem d2_isStuffBitDue_5 : decode prog_4_method_6_code 5 = .ok (.if_icmp .ne 7, 3) := by decide +kernel
theorem d2_isStuffBitDue_8 : decode prog_4_method_6_code 8 = .ok (.iconst 1, 1) := by decide +kernel
theorem d2_isStuffBitDue_9 : decode prog_4_method_6_code 9 = .ok (.goto 4, 3) := by decide +kernel
theorem d2_isStuffBitDue_12 : decode prog_4_method_6_code 12 = .ok (.iconst 0, 1) := by decide +kernel
theorem d2_isStuffBitDue_13 : decode prog_4_method_6_code 13 = .ok (.ireturn, 1) := by decide +kernel
theorem d2_isInStuffedPart_0 : decode prog_4_method_7_code 0 = .ok (.aload_n 0, 1) := by decide +kernel
theorem d2_isInStuffedPart_1 : decode prog_4_method_7_code 1 = .ok (.getfield 9, 3) := by decide +kernel
theorem d2_isInStuffedPart_4 : decode prog_4_method_7_code 4 = .ok (.aload_n 0, 1) := by decide +kernel
theorem d2_isInStuffedPart_5 : decode prog_4_method_7_code 5 = .ok (.getfield 15, 3) := by decide +kernel
theorem d2_isInStuffedPart_8 : decode prog_4_method_7_code 8 = .ok (.bipush 15, 2) := by decide +kernel
theorem d2_isInStuffedPart_10 : decode prog_4_method_7_code 10 = .ok (.iadd, 1) := by decide +kernel
theorem d2_isInStuffedPart_11 : decode prog_4_method_7_code 11 = .ok (.if_icmp .lt 10, 3) := by decide +kernel
theorem d2_isInStuffedPart_14 : decode prog_4_method_7_code 14 = .ok (.aload_n 0, 1) := by decide +kernel
theorem d2_isInStuffedPart_15 : decode prog_4_method_7_code 15 = .ok (.invokevirtual 46, 3) := by decide +kernel
theorem d2_isInStuffedPart_18 : decode prog_4_method_7_code 18 = .ok (.ifCond .eq 7, 3) := by decide +kernel
theorem d2_isInStuffedPart_21 : decode prog_4_method_7_code 21 = .ok (.iconst 1, 1) := by decide +kernel
theorem d2_isInStuffedPart_22 : decode prog_4_method_7_code 22 = .ok (.goto 4, 3) := by decide +kernel
theorem d2_isInStuffedPart_25 : decode prog_4_method_7_code 25 = .ok (.iconst 0, 1) := by decide +kernel
theorem d2_isInStuffedPart_26 : decode prog_4_method_7_code 26 = .ok (.ireturn, 1) := by decide +kernel
theorem d2_isInArbitration_0 : decode prog_4_method_8_code 0 = .ok (.aload_n 0, 1) := by decide +kernel
theorem d2_isInArbitration_1 : decode prog_4_method_8_code 1 = .ok (.getfield 9, 3) := by decide +kernel
theorem d2_isInArbitration_4 : decode prog_4_method_8_code 4 = .ok (.iconst 1, 1) := by decide +kernel
theorem d2_isInArbitration_5 : decode prog_4_method_8_code 5 = .ok (.if_icmp .lt 16, 3) := by decide +kernel
theorem d2_isInArbitration_8 : decode prog_4_method_8_code 8 = .ok (.aload_n 0, 1) := by decide +kernel
theorem d2_isInArbitration_9 : decode prog_4_method_8_code 9 = .ok (.getfield 9, 3) := by decide +kernel
theorem d2_isInArbitration_12 : decode prog_4_method_8_code 12 = .ok (.bipush 12, 2) := by decide +kernel
theorem d2_isInArbitration_14 : decode prog_4_method_8_code 14 = .ok (.if_icmp .gt 7, 3) := by decide +kernel
theorem d2_isInArbitration_17 : decode prog_4_method_8_code 17 = .ok (.iconst 1, 1) := by decide +kernel
theorem d2_isInArbitration_18 : decode prog_4_method_8_code 18 = .ok (.goto 4, 3) := by decide +kernel
theorem d2_isInArbitration_21 : decode prog_4_method_8_code 21 = .ok (.iconst 0, 1) := by decide +kernel
theorem d2_isInArbitration_22 : decode prog_4_method_8_code 22 = .ok (.ireturn, 1) := by decide +kernel
theorem d2_nextOf_0 : decode prog_4_method_9_code 0 = .ok (.aload_n 0, 1) := by decide +kernel
theorem d2_nextOf_1 : decode prog_4_method_9_code 1 = .ok (.invokevirtual 50, 3) := by decide +kernel
theorem d2_nextOf_4 : decode prog_4_method_9_code 4 = .ok (.ifCond .ne 5, 3) := by decide +kernel
theorem d2_nextOf_7 : decode prog_4_method_9_code 7 = .ok (.iconst 1, 1) := by decide +kernel
theorem d2_nextOf_8 : decode prog_4_method_9_code 8 = .ok (.ireturn, 1) := by decide +kernel
theorem d2_nextOf_9 : decode prog_4_method_9_code 9 = .ok (.aload_n 0, 1) := by decide +kernel
theorem d2_nextOf_10 : decode prog_4_method_9_code 10 = .ok (.invokevirtual 46, 3) := by decide +kernel
theorem d2_nextOf_13 : decode prog_4_method_9_code 13 = .ok (.ifCond .eq 10, 3) := by decide +kernel
theorem d2_nextOf_16 : decode prog_4_method_9_code 16 = .ok (.iconst 1, 1) := by decide +kernel
theorem d2_nextOf_17 : decode prog_4_method_9_code 17 = .ok (.aload_n 0, 1) := by decide +kernel
theorem d2_nextOf_18 : decode prog_4_method_9_code 18 = .ok (.getfield 31, 3) := by decide +kernel
theorem d2_nextOf_21 : decode prog_4_method_9_code 21 = .ok (.isub, 1) := by decide +kernel
theorem d2_nextOf_22 : decode prog_4_method_9_code 22 = .ok (.ireturn, 1) := by decide +kernel
theorem d2_nextOf_23 : decode prog_4_method_9_code 23 = .ok (.aload_n 0, 1) := by decide +kernel
theorem d2_nextOf_24 : decode prog_4_method_9_code 24 = .ok (.getfield 9, 3) := by decide +kernel
theorem d2_nextOf_27 : decode prog_4_method_9_code 27 = .ok (.aload_n 0, 1) := by decide +kernel
theorem d2_nextOf_28 : decode prog_4_method_9_code 28 = .ok (.getfield 15, 3) := by decide +kernel
theorem d2_nextOf_31 : decode prog_4_method_9_code 31 = .ok (.if_icmp .ge 16, 3) := by decide +kernel
theorem d2_nextOf_34 : decode prog_4_method_9_code 34 = .ok (.lload_n 1, 1) := by decide +kernel
theorem d2_nextOf_35 : decode prog_4_method_9_code 35 = .ok (.bipush 63, 2) := by decide +kernel
theorem d2_nextOf_37 : decode prog_4_method_9_code 37 = .ok (.aload_n 0, 1) := by decide +kernel
theorem d2_nextOf_38 : decode prog_4_method_9_code 38 = .ok (.getfield 9, 3) := by decide +kernel
theorem d2_nextOf_41 : decode prog_4_method_9_code 41 = .ok (.isub, 1) := by decide +kernel
theorem d2_nextOf_42 : decode prog_4_method_9_code 42 = .ok (.lushr, 1) := by decide +kernel
theorem d2_nextOf_43 : decode prog_4_method_9_code 43 = .ok (.l2i, 1) := by decide +kernel
theorem d2_nextOf_44 : decode prog_4_method_9_code 44 = .ok (.iconst 1, 1) := by decide +kernel
theorem d2_nextOf_45 : decode prog_4_method_9_code 45 = .ok (.iand, 1) := by decide +kernel
theorem d2_nextOf_46 : decode prog_4_method_9_code 46 = .ok (.ireturn, 1) := by decide +kernel
theorem d2_nextOf_47 : decode prog_4_method_9_code 47 = .ok (.aload_n 0, 1) := by decide +kernel
theorem d2_nextOf_48 : decode prog_4_method_9_code 48 = .ok (.getfield 25, 3) := by decide +kernel
theorem d2_nextOf_51 : decode prog_4_method_9_code 51 = .ok (.aload_n 0, 1) := by decide +kernel
theorem d2_nextOf_52 : decode prog_4_method_9_code 52 = .ok (.getfield 15, 3) := by decide +kernel
theorem d2_nextOf_55 : decode prog_4_method_9_code 55 = .ok (.bipush 15, 2) := by decide +kernel
theorem d2_nextOf_57 : decode prog_4_method_9_code 57 = .ok (.iadd, 1) := by decide +kernel
theorem d2_nextOf_58 : decode prog_4_method_9_code 58 = .ok (.iconst 1, 1) := by decide +kernel
theorem d2_nextOf_59 : decode prog_4_method_9_code 59 = .ok (.isub, 1) := by decide +kernel
theorem d2_nextOf_60 : decode prog_4_method_9_code 60 = .ok (.aload_n 0, 1) := by decide +kernel
theorem d2_nextOf_61 : decode prog_4_method_9_code 61 = .ok (.getfield 9, 3) := by decide +kernel
theorem d2_nextOf_64 : decode prog_4_method_9_code 64 = .ok (.isub, 1) := by decide +kernel
theorem d2_nextOf_65 : decode prog_4_method_9_code 65 = .ok (.ishr, 1) := by decide +kernel
theorem d2_nextOf_66 : decode prog_4_method_9_code 66 = .ok (.iconst 1, 1) := by decide +kernel
theorem d2_nextOf_67 : decode prog_4_method_9_code 67 = .ok (.iand, 1) := by decide +kernel
theorem d2_nextOf_68 : decode prog_4_method_9_code 68 = .ok (.ireturn, 1) := by decide +kernel
theorem d2_nextOfReceiver_0 : decode prog_4_method_10_code 0 = .ok (.aload_n 0, 1) := by decide +kernel
theorem d2_nextOfReceiver_1 : decode prog_4_method_10_code 1 = .ok (.getfield 37, 3) := by decide +kernel
theorem d2_nextOfReceiver_4 : decode prog_4_method_10_code 4 = .ok (.iconst 1, 1) := by decide +kernel
theorem d2_nextOfReceiver_5 : decode prog_4_method_10_code 5 = .ok (.if_icmp .ne 14, 3) := by decide +kernel
theorem d2_nextOfReceiver_8 : decode prog_4_method_10_code 8 = .ok (.aload_n 0, 1) := by decide +kernel
theorem d2_nextOfReceiver_9 : decode prog_4_method_10_code 9 = .ok (.invokevirtual 53, 3) := by decide +kernel
theorem d2_nextOfReceiver_12 : decode prog_4_method_10_code 12 = .ok (.ifCond .eq 7, 3) := by decide +kernel
theorem d2_nextOfReceiver_15 : decode prog_4_method_10_code 15 = .ok (.iconst 0, 1) := by decide +kernel
theorem d2_nextOfReceiver_16 : decode prog_4_method_10_code 16 = .ok (.goto 4, 3) := by decide +kernel
theorem d2_nextOfReceiver_19 : decode prog_4_method_10_code 19 = .ok (.iconst 1, 1) := by decide +kernel
theorem d2_nextOfReceiver_20 : decode prog_4_method_10_code 20 = .ok (.ireturn, 1) := by decide +kernel
theorem d2_takeStuffBit_0 : decode prog_4_method_11_code 0 = .ok (.aload_n 0, 1) := by decide +kernel
theorem d2_takeStuffBit_1 : decode prog_4_method_11_code 1 = .ok (.iconst 1, 1) := by decide +kernel
theorem d2_takeStuffBit_2 : decode prog_4_method_11_code 2 = .ok (.putfield 34, 3) := by decide +kernel
theorem d2_takeStuffBit_5 : decode prog_4_method_11_code 5 = .ok (.aload_n 0, 1) := by decide +kernel
theorem d2_takeStuffBit_6 : decode prog_4_method_11_code 6 = .ok (.iload_n 1, 1) := by decide +kernel
theorem d2_takeStuffBit_7 : decode prog_4_method_11_code 7 = .ok (.putfield 31, 3) := by decide +kernel
theorem d2_takeStuffBit_10 : decode prog_4_method_11_code 10 = .ok (.return_, 1) := by decide +kernel
theorem d2_takeBasicBit_0 : decode prog_4_method_12_code 0 = .ok (.aload_n 0, 1) := by decide +kernel
theorem d2_takeBasicBit_1 : decode prog_4_method_12_code 1 = .ok (.iload_n 1, 1) := by decide +kernel
theorem d2_takeBasicBit_2 : decode prog_4_method_12_code 2 = .ok (.aload_n 0, 1) := by decide +kernel
theorem d2_takeBasicBit_3 : decode prog_4_method_12_code 3 = .ok (.getfield 31, 3) := by decide +kernel
theorem d2_takeBasicBit_6 : decode prog_4_method_12_code 6 = .ok (.if_icmp .ne 12, 3) := by decide +kernel
theorem d2_takeBasicBit_9 : decode prog_4_method_12_code 9 = .ok (.aload_n 0, 1) := by decide +kernel
theorem d2_takeBasicBit_10 : decode prog_4_method_12_code 10 = .ok (.getfield 34, 3) := by decide +kernel
theorem d2_takeBasicBit_13 : decode prog_4_method_12_code 13 = .ok (.iconst 1, 1) := by decide +kernel
theorem d2_takeBasicBit_14 : decode prog_4_method_12_code 14 = .ok (.iadd, 1) := by decide +kernel
theorem d2_takeBasicBit_15 : decode prog_4_method_12_code 15 = .ok (.goto 4, 3) := by decide +kernel
theorem d2_takeBasicBit_18 : decode prog_4_method_12_code 18 = .ok (.iconst 1, 1) := by decide +kernel
theorem d2_takeBasicBit_19 : decode prog_4_method_12_code 19 = .ok (.putfield 34, 3) := by decide +kernel
theorem d2_takeBasicBit_22 : decode prog_4_method_12_code 22 = .ok (.aload_n 0, 1) := by decide +kernel
theorem d2_takeBasicBit_23 : decode prog_4_method_12_code 23 = .ok (.iload_n 1, 1) := by decide +kernel
theorem d2_takeBasicBit_24 : decode prog_4_method_12_code 24 = .ok (.putfield 31, 3) := by decide +kernel
theorem d2_takeBasicBit_27 : decode prog_4_method_12_code 27 = .ok (.aload_n 0, 1) := by decide +kernel
theorem d2_takeBasicBit_28 : decode prog_4_method_12_code 28 = .ok (.getfield 9, 3) := by decide +kernel
theorem d2_takeBasicBit_31 : decode prog_4_method_12_code 31 = .ok (.aload_n 0, 1) := by decide +kernel
theorem d2_takeBasicBit_32 : decode prog_4_method_12_code 32 = .ok (.getfield 15, 3) := by decide +kernel
theorem d2_takeBasicBit_35 : decode prog_4_method_12_code 35 = .ok (.if_icmp .lt 26, 3) := by decide +kernel
theorem d2_takeBasicBit_38 : decode prog_4_method_12_code 38 = .ok (.aload_n 0, 1) := by decide +kernel
theorem d2_takeBasicBit_39 : decode prog_4_method_12_code 39 = .ok (.aload_n 0, 1) := by decide +kernel
theorem d2_takeBasicBit_40 : decode prog_4_method_12_code 40 = .ok (.getfield 28, 3) := by decide +kernel
theorem d2_takeBasicBit_43 : decode prog_4_method_12_code 43 = .ok (.iconst 1, 1) := by decide +kernel
theorem d2_takeBasicBit_44 : decode prog_4_method_12_code 44 = .ok (.ishl, 1) := by decide +kernel
theorem d2_takeBasicBit_45 : decode prog_4_method_12_code 45 = .ok (.iload_n 1, 1) := by decide +kernel
theorem d2_takeBasicBit_46 : decode prog_4_method_12_code 46 = .ok (.ior, 1) := by decide +kernel
theorem d2_takeBasicBit_47 : decode prog_4_method_12_code 47 = .ok (.putfield 28, 3) := by decide +kernel
theorem d2_takeBasicBit_50 : decode prog_4_method_12_code 50 = .ok (.aload_n 0, 1) := by decide +kernel
theorem d2_takeBasicBit_51 : decode prog_4_method_12_code 51 = .ok (.dup, 1) := by decide +kernel
theorem d2_takeBasicBit_52 : decode prog_4_method_12_code 52 = .ok (.getfield 9, 3) := by decide +kernel
theorem d2_takeBasicBit_55 : decode prog_4_method_12_code 55 = .ok (.iconst 1, 1) := by decide +kernel
theorem d2_takeBasicBit_56 : decode prog_4_method_12_code 56 = .ok (.iadd, 1) := by decide +kernel
theorem d2_takeBasicBit_57 : decode prog_4_method_12_code 57 = .ok (.putfield 9, 3) := by decide +kernel
theorem d2_takeBasicBit_60 : decode prog_4_method_12_code 60 = .ok (.return_, 1) := by decide +kernel
theorem d2_takeBasicBit_61 : decode prog_4_method_12_code 61 = .ok (.aload_n 0, 1) := by decide +kernel
theorem d2_takeBasicBit_62 : decode prog_4_method_12_code 62 = .ok (.aload_n 0, 1) := by decide +kernel
theorem d2_takeBasicBit_63 : decode prog_4_method_12_code 63 = .ok (.getfield 18, 3) := by decide +kernel
theorem d2_takeBasicBit_66 : decode prog_4_method_12_code 66 = .ok (.iconst 1, 1) := by decide +kernel
theorem d2_takeBasicBit_67 : decode prog_4_method_12_code 67 = .ok (.lshl, 1) := by decide +kernel
theorem d2_takeBasicBit_68 : decode prog_4_method_12_code 68 = .ok (.iload_n 1, 1) := by decide +kernel
theorem d2_takeBasicBit_69 : decode prog_4_method_12_code 69 = .ok (.i2l, 1) := by decide +kernel
theorem d2_takeBasicBit_70 : decode prog_4_method_12_code 70 = .ok (.lor, 1) := by decide +kernel
theorem d2_takeBasicBit_71 : decode prog_4_method_12_code 71 = .ok (.putfield 18, 3) := by decide +kernel
theorem d2_takeBasicBit_74 : decode prog_4_method_12_code 74 = .ok (.iload_n 1, 1) := by decide +kernel
theorem d2_takeBasicBit_75 : decode prog_4_method_12_code 75 = .ok (.aload_n 0, 1) := by decide +kernel
theorem d2_takeBasicBit_76 : decode prog_4_method_12_code 76 = .ok (.getfield 25, 3) := by decide +kernel
theorem d2_takeBasicBit_79 : decode prog_4_method_12_code 79 = .ok (.bipush 14, 2) := by decide +kernel
theorem d2_takeBasicBit_81 : decode prog_4_method_12_code 81 = .ok (.ishr, 1) := by decide +kernel
theorem d2_takeBasicBit_82 : decode prog_4_method_12_code 82 = .ok (.iconst 1, 1) := by decide +kernel
theorem d2_takeBasicBit_83 : decode prog_4_method_12_code 83 = .ok (.iand, 1) := by decide +kernel
theorem d2_takeBasicBit_84 : decode prog_4_method_12_code 84 = .ok (.ixor, 1) := by decide +kernel
theorem d2_takeBasicBit_85 : decode prog_4_method_12_code 85 = .ok (.istore_n 2, 1) := by decide +kernel
theorem d2_takeBasicBit_86 : decode prog_4_method_12_code 86 = .ok (.aload_n 0, 1) := by decide +kernel
theorem d2_takeBasicBit_87 : decode prog_4_method_12_code 87 = .ok (.aload_n 0, 1) := by decide +kernel
theorem d2_takeBasicBit_88 : decode prog_4_method_12_code 88 = .ok (.getfield 25, 3) := by decide +kernel
theorem d2_takeBasicBit_91 : decode prog_4_method_12_code 91 = .ok (.iconst 1, 1) := by decide +kernel
theorem d2_takeBasicBit_92 : decode prog_4_method_12_code 92 = .ok (.ishl, 1) := by decide +kernel
theorem d2_takeBasicBit_93 : decode prog_4_method_12_code 93 = .ok (.sipush 32767, 3) := by decide +kernel
theorem d2_takeBasicBit_96 : decode prog_4_method_12_code 96 = .ok (.iand, 1) := by decide +kernel
theorem d2_takeBasicBit_97 : decode prog_4_method_12_code 97 = .ok (.iload_n 2, 1) := by decide +kernel
theorem d2_takeBasicBit_98 : decode prog_4_method_12_code 98 = .ok (.iconst 1, 1) := by decide +kernel
theorem d2_takeBasicBit_99 : decode prog_4_method_12_code 99 = .ok (.if_icmp .ne 9, 3) := by decide +kernel
theorem d2_takeBasicBit_102 : decode prog_4_method_12_code 102 = .ok (.sipush 17817, 3) := by decide +kernel
theorem d2_takeBasicBit_105 : decode prog_4_method_12_code 105 = .ok (.goto 4, 3) := by decide +kernel
theorem d2_takeBasicBit_108 : decode prog_4_method_12_code 108 = .ok (.iconst 0, 1) := by decide +kernel
theorem d2_takeBasicBit_109 : decode prog_4_method_12_code 109 = .ok (.ixor, 1) := by decide +kernel
theorem d2_takeBasicBit_110 : decode prog_4_method_12_code 110 = .ok (.putfield 25, 3) := by decide +kernel
theorem d2_takeBasicBit_113 : decode prog_4_method_12_code 113 = .ok (.aload_n 0, 1) := by decide +kernel
theorem d2_takeBasicBit_114 : decode prog_4_method_12_code 114 = .ok (.dup, 1) := by decide +kernel
theorem d2_takeBasicBit_115 : decode prog_4_method_12_code 115 = .ok (.getfield 9, 3) := by decide +kernel
theorem d2_takeBasicBit_118 : decode prog_4_method_12_code 118 = .ok (.iconst 1, 1) := by decide +kernel
theorem d2_takeBasicBit_119 : decode prog_4_method_12_code 119 = .ok (.iadd, 1) := by decide +kernel
theorem d2_takeBasicBit_120 : decode prog_4_method_12_code 120 = .ok (.putfield 9, 3) := by decide +kernel
theorem d2_takeBasicBit_123 : decode prog_4_method_12_code 123 = .ok (.aload_n 0, 1) := by decide +kernel
theorem d2_takeBasicBit_124 : decode prog_4_method_12_code 124 = .ok (.getfield 9, 3) := by decide +kernel
theorem d2_takeBasicBit_127 : decode prog_4_method_12_code 127 = .ok (.bipush 19, 2) := by decide +kernel
theorem d2_takeBasicBit_129 : decode prog_4_method_12_code 129 = .ok (.if_icmp .ne 30, 3) := by decide +kernel
theorem d2_takeBasicBit_132 : decode prog_4_method_12_code 132 = .ok (.aload_n 0, 1) := by decide +kernel
theorem d2_takeBasicBit_133 : decode prog_4_method_12_code 133 = .ok (.aload_n 0, 1) := by decide +kernel
theorem d2_takeBasicBit_134 : decode prog_4_method_12_code 134 = .ok (.getfield 18, 3) := by decide +kernel
theorem d2_takeBasicBit_137 : decode prog_4_method_12_code 137 = .ok (.l2i, 1) := by decide +kernel
theorem d2_takeBasicBit_138 : decode prog_4_method_12_code 138 = .ok (.putfield 22, 3) := by decide +kernel
theorem d2_takeBasicBit_141 : decode prog_4_method_12_code 141 = .ok (.aload_n 0, 1) := by decide +kernel
theorem d2_takeBasicBit_142 : decode prog_4_method_12_code 142 = .ok (.bipush 19, 2) := by decide +kernel
theorem d2_takeBasicBit_144 : decode prog_4_method_12_code 144 = .ok (.aload_n 0, 1) := by decide +kernel
theorem d2_takeBasicBit_145 : decode prog_4_method_12_code 145 = .ok (.invokevirtual 56, 3) := by decide +kernel
theorem d2_takeBasicBit_148 : decode prog_4_method_12_code 148 = .ok (.aload_n 0, 1) := by decide +kernel
theorem d2_takeBasicBit_149 : decode prog_4_method_12_code 149 = .ok (.invokevirtual 60, 3) := by decide +kernel
theorem d2_takeBasicBit_152 : decode prog_4_method_12_code 152 = .ok (.invokestatic 40, 3) := by decide +kernel
theorem d2_takeBasicBit_155 : decode prog_4_method_12_code 155 = .ok (.iadd, 1) := by decide +kernel
theorem d2_takeBasicBit_156 : decode prog_4_method_12_code 156 = .ok (.putfield 15, 3) := by decide +kernel
theorem d2_takeBasicBit_159 : decode prog_4_method_12_code 159 = .ok (.return_, 1) := by decide +kernel
theorem d2_hasWrongHeader_0 : decode prog_4_method_13_code 0 = .ok (.aload_n 0, 1) := by decide +kernel
theorem d2_hasWrongHeader_1 : decode prog_4_method_13_code 1 = .ok (.getfield 9, 3) := by decide +kernel
theorem d2_hasWrongHeader_4 : decode prog_4_method_13_code 4 = .ok (.bipush 14, 2) := by decide +kernel
theorem d2_hasWrongHeader_6 : decode prog_4_method_13_code 6 = .ok (.if_icmp .ne 17, 3) := by decide +kernel
theorem d2_hasWrongHeader_9 : decode prog_4_method_13_code 9 = .ok (.aload_n 0, 1) := by decide +kernel
theorem d2_hasWrongHeader_10 : decode prog_4_method_13_code 10 = .ok (.getfield 31, 3) := by decide +kernel
theorem d2_hasWrongHeader_13 : decode prog_4_method_13_code 13 = .ok (.iconst 1, 1) := by decide +kernel
theorem d2_hasWrongHeader_14 : decode prog_4_method_13_code 14 = .ok (.if_icmp .ne 7, 3) := by decide +kernel
theorem d2_hasWrongHeader_17 : decode prog_4_method_13_code 17 = .ok (.iconst 1, 1) := by decide +kernel
theorem d2_hasWrongHeader_18 : decode prog_4_method_13_code 18 = .ok (.goto 4, 3) := by decide +kernel
theorem d2_hasWrongHeader_21 : decode prog_4_method_13_code 21 = .ok (.iconst 0, 1) := by decide +kernel
theorem d2_hasWrongHeader_22 : decode prog_4_method_13_code 22 = .ok (.ireturn, 1) := by decide +kernel
theorem d2_hasWrongHeader_23 : decode prog_4_method_13_code 23 = .ok (.aload_n 0, 1) := by decide +kernel
theorem d2_hasWrongHeader_24 : decode prog_4_method_13_code 24 = .ok (.getfield 9, 3) := by decide +kernel
theorem d2_hasWrongHeader_27 : decode prog_4_method_13_code 27 = .ok (.bipush 19, 2) := by decide +kernel
theorem d2_hasWrongHeader_29 : decode prog_4_method_13_code 29 = .ok (.if_icmp .ne 15, 3) := by decide +kernel
theorem d2_hasWrongHeader_32 : decode prog_4_method_13_code 32 = .ok (.aload_n 0, 1) := by decide +kernel
theorem d2_hasWrongHeader_33 : decode prog_4_method_13_code 33 = .ok (.invokevirtual 60, 3) := by decide +kernel
theorem d2_hasWrongHeader_36 : decode prog_4_method_13_code 36 = .ok (.iconst 4, 1) := by decide +kernel
theorem d2_hasWrongHeader_37 : decode prog_4_method_13_code 37 = .ok (.if_icmp .le 7, 3) := by decide +kernel
theorem d2_hasWrongHeader_40 : decode prog_4_method_13_code 40 = .ok (.iconst 1, 1) := by decide +kernel
theorem d2_hasWrongHeader_41 : decode prog_4_method_13_code 41 = .ok (.goto 4, 3) := by decide +kernel
theorem d2_hasWrongHeader_44 : decode prog_4_method_13_code 44 = .ok (.iconst 0, 1) := by decide +kernel
theorem d2_hasWrongHeader_45 : decode prog_4_method_13_code 45 = .ok (.ireturn, 1) := by decide +kernel
theorem d2_isCrcRight_0 : decode prog_4_method_14_code 0 = .ok (.aload_n 0, 1) := by decide +kernel
theorem d2_isCrcRight_1 : decode prog_4_method_14_code 1 = .ok (.getfield 28, 3) := by decide +kernel
theorem d2_isCrcRight_4 : decode prog_4_method_14_code 4 = .ok (.aload_n 0, 1) := by decide +kernel
theorem d2_isCrcRight_5 : decode prog_4_method_14_code 5 = .ok (.getfield 25, 3) := by decide +kernel
theorem d2_isCrcRight_8 : decode prog_4_method_14_code 8 = .ok (.if_icmp .ne 7, 3) := by decide +kernel
theorem d2_isCrcRight_11 : decode prog_4_method_14_code 11 = .ok (.iconst 1, 1) := by decide +kernel
theorem d2_isCrcRight_12 : decode prog_4_method_14_code 12 = .ok (.goto 4, 3) := by decide +kernel
theorem d2_isCrcRight_15 : decode prog_4_method_14_code 15 = .ok (.iconst 0, 1) := by decide +kernel
theorem d2_isCrcRight_16 : decode prog_4_method_14_code 16 = .ok (.ireturn, 1) := by decide +kernel
theorem d2_sampledKey_0 : decode prog_4_method_15_code 0 = .ok (.aload_n 0, 1) := by decide +kernel
theorem d2_sampledKey_1 : decode prog_4_method_15_code 1 = .ok (.getfield 22, 3) := by decide +kernel
theorem d2_sampledKey_4 : decode prog_4_method_15_code 4 = .ok (.bipush 6, 2) := by decide +kernel
theorem d2_sampledKey_6 : decode prog_4_method_15_code 6 = .ok (.ishr, 1) := by decide +kernel
theorem d2_sampledKey_7 : decode prog_4_method_15_code 7 = .ok (.sipush 4095, 3) := by decide +kernel
theorem d2_sampledKey_10 : decode prog_4_method_15_code 10 = .ok (.iand, 1) := by decide +kernel
theorem d2_sampledKey_11 : decode prog_4_method_15_code 11 = .ok (.ireturn, 1) := by decide +kernel
theorem d2_sampledLength_0 : decode prog_4_method_16_code 0 = .ok (.aload_n 0, 1) := by decide +kernel
theorem d2_sampledLength_1 : decode prog_4_method_16_code 1 = .ok (.getfield 22, 3) := by decide +kernel
theorem d2_sampledLength_4 : decode prog_4_method_16_code 4 = .ok (.bipush 15, 2) := by decide +kernel
theorem d2_sampledLength_6 : decode prog_4_method_16_code 6 = .ok (.iand, 1) := by decide +kernel
theorem d2_sampledLength_7 : decode prog_4_method_16_code 7 = .ok (.ireturn, 1) := by decide +kernel
theorem d2_sampledData_0 : decode prog_4_method_17_code 0 = .ok (.aload_n 0, 1) := by decide +kernel
theorem d2_sampledData_1 : decode prog_4_method_17_code 1 = .ok (.getfield 15, 3) := by decide +kernel
theorem d2_sampledData_4 : decode prog_4_method_17_code 4 = .ok (.bipush 19, 2) := by decide +kernel
theorem d2_sampledData_6 : decode prog_4_method_17_code 6 = .ok (.isub, 1) := by decide +kernel
theorem d2_sampledData_7 : decode prog_4_method_17_code 7 = .ok (.istore_n 1, 1) := by decide +kernel
theorem d2_sampledData_8 : decode prog_4_method_17_code 8 = .ok (.aload_n 0, 1) := by decide +kernel
theorem d2_sampledData_9 : decode prog_4_method_17_code 9 = .ok (.getfield 18, 3) := by decide +kernel
theorem d2_sampledData_12 : decode prog_4_method_17_code 12 = .ok (.lconst 1, 1) := by decide +kernel
theorem d2_sampledData_13 : decode prog_4_method_17_code 13 = .ok (.iload_n 1, 1) := by decide +kernel
theorem d2_sampledData_14 : decode prog_4_method_17_code 14 = .ok (.lshl, 1) := by decide +kernel
theorem d2_sampledData_15 : decode prog_4_method_17_code 15 = .ok (.lconst 1, 1) := by decide +kernel
theorem d2_sampledData_16 : decode prog_4_method_17_code 16 = .ok (.lsub, 1) := by decide +kernel
theorem d2_sampledData_17 : decode prog_4_method_17_code 17 = .ok (.land, 1) := by decide +kernel
theorem d2_sampledData_18 : decode prog_4_method_17_code 18 = .ok (.l2i, 1) := by decide +kernel
theorem d2_sampledData_19 : decode prog_4_method_17_code 19 = .ok (.ireturn, 1) := by decide +kernel
theorem d3_init_0 : decode prog_5_method_1_code 0 = .ok (.aload_n 0, 1) := by decide +kernel
theorem d3_init_1 : decode prog_5_method_1_code 1 = .ok (.invokespecial 3, 3) := by decide +kernel
theorem d3_init_4 : decode prog_5_method_1_code 4 = .ok (.iconst 0, 1) := by decide +kernel
theorem d3_init_5 : decode prog_5_method_1_code 5 = .ok (.iload_n 1, 1) := by decide +kernel
theorem d3_init_6 : decode prog_5_method_1_code 6 = .ok (.invokestatic 9, 3) := by decide +kernel
theorem d3_init_9 : decode prog_5_method_1_code 9 = .ok (.istore_n 2, 1) := by decide +kernel
theorem d3_init_10 : decode prog_5_method_1_code 10 = .ok (.aload_n 0, 1) := by decide +kernel
theorem d3_init_11 : decode prog_5_method_1_code 11 = .ok (.iload_n 2, 1) := by decide +kernel
theorem d3_init_12 : decode prog_5_method_1_code 12 = .ok (.newarray .int, 2) := by decide +kernel
theorem d3_init_14 : decode prog_5_method_1_code 14 = .ok (.putfield 15, 3) := by decide +kernel
theorem d3_init_17 : decode prog_5_method_1_code 17 = .ok (.aload_n 0, 1) := by decide +kernel
theorem d3_init_18 : decode prog_5_method_1_code 18 = .ok (.iload_n 2, 1) := by decide +kernel
theorem d3_init_19 : decode prog_5_method_1_code 19 = .ok (.newarray .int, 2) := by decide +kernel
theorem d3_init_21 : decode prog_5_method_1_code 21 = .ok (.putfield 21, 3) := by decide +kernel
theorem d3_init_24 : decode prog_5_method_1_code 24 = .ok (.aload_n 0, 1) := by decide +kernel
theorem d3_init_25 : decode prog_5_method_1_code 25 = .ok (.iload_n 2, 1) := by decide +kernel
theorem d3_init_26 : decode prog_5_method_1_code 26 = .ok (.newarray .int, 2) := by decide +kernel
theorem d3_init_28 : decode prog_5_method_1_code 28 = .ok (.putfield 24, 3) := by decide +kernel
theorem d3_init_31 : decode prog_5_method_1_code 31 = .ok (.return_, 1) := by decide +kernel
theorem d3_copyFrom_0 : decode prog_5_method_2_code 0 = .ok (.aload_n 0, 1) := by decide +kernel
theorem d3_copyFrom_1 : decode prog_5_method_2_code 1 = .ok (.aload_n 1, 1) := by decide +kernel
theorem d3_copyFrom_2 : decode prog_5_method_2_code 2 = .ok (.getfield 27, 3) := by decide +kernel
theorem d3_copyFrom_5 : decode prog_5_method_2_code 5 = .ok (.aload_n 0, 1) := by decide +kernel
theorem d3_copyFrom_6 : decode prog_5_method_2_code 6 = .ok (.getfield 15, 3) := by decide +kernel
theorem d3_copyFrom_9 : decode prog_5_method_2_code 9 = .ok (.arraylength, 1) := by decide +kernel
theorem d3_copyFrom_10 : decode prog_5_method_2_code 10 = .ok (.invokestatic 31, 3) := by decide +kernel
theorem d3_copyFrom_13 : decode prog_5_method_2_code 13 = .ok (.putfield 27, 3) := by decide +kernel
theorem d3_copyFrom_16 : decode prog_5_method_2_code 16 = .ok (.iconst 0, 1) := by decide +kernel
theorem d3_copyFrom_17 : decode prog_5_method_2_code 17 = .ok (.istore_n 2, 1) := by decide +kernel
theorem d3_copyFrom_18 : decode prog_5_method_2_code 18 = .ok (.iload_n 2, 1) := by decide +kernel
theorem d3_copyFrom_19 : decode prog_5_method_2_code 19 = .ok (.aload_n 0, 1) := by decide +kernel
theorem d3_copyFrom_20 : decode prog_5_method_2_code 20 = .ok (.getfield 27, 3) := by decide +kernel
theorem d3_copyFrom_23 : decode prog_5_method_2_code 23 = .ok (.if_icmp .ge 45, 3) := by decide +kernel
theorem d3_copyFrom_26 : decode prog_5_method_2_code 26 = .ok (.aload_n 0, 1) := by decide +kernel
theorem d3_copyFrom_27 : decode prog_5_method_2_code 27 = .ok (.getfield 15, 3) := by decide +kernel
theorem d3_copyFrom_30 : decode prog_5_method_2_code 30 = .ok (.iload_n 2, 1) := by decide +kernel
theorem d3_copyFrom_31 : decode prog_5_method_2_code 31 = .ok (.aload_n 1, 1) := by decide +kernel
theorem d3_copyFrom_32 : decode prog_5_method_2_code 32 = .ok (.getfield 15, 3) := by decide +kernel
theorem d3_copyFrom_35 : decode prog_5_method_2_code 35 = .ok (.iload_n 2, 1) := by decide +kernel
theorem d3_copyFrom_36 : decode prog_5_method_2_code 36 = .ok (.iaload, 1) := by decide +kernel
theorem d3_copyFrom_37 : decode prog_5_method_2_code 37 = .ok (.iastore, 1) := by decide +kernel
theorem d3_copyFrom_38 : decode prog_5_method_2_code 38 = .ok (.aload_n 0, 1) := by decide +kernel
theorem d3_copyFrom_39 : decode prog_5_method_2_code 39 = .ok (.getfield 21, 3) := by decide +kernel
theorem d3_copyFrom_42 : decode prog_5_method_2_code 42 = .ok (.iload_n 2, 1) := by decide +kernel
theorem d3_copyFrom_43 : decode prog_5_method_2_code 43 = .ok (.aload_n 1, 1) := by decide +kernel
theorem d3_copyFrom_44 : decode prog_5_method_2_code 44 = .ok (.getfield 21, 3) := by decide +kernel
theorem d3_copyFrom_47 : decode prog_5_method_2_code 47 = .ok (.iload_n 2, 1) := by decide +kernel
theorem d3_copyFrom_48 : decode prog_5_method_2_code 48 = .ok (.iaload, 1) := by decide +kernel
theorem d3_copyFrom_49 : decode prog_5_method_2_code 49 = .ok (.iastore, 1) := by decide +kernel
theorem d3_copyFrom_50 : decode prog_5_method_2_code 50 = .ok (.aload_n 0, 1) := by decide +kernel
theorem d3_copyFrom_51 : decode prog_5_method_2_code 51 = .ok (.getfield 24, 3) := by decide +kernel
theorem d3_copyFrom_54 : decode prog_5_method_2_code 54 = .ok (.iload_n 2, 1) := by decide +kernel
theorem d3_copyFrom_55 : decode prog_5_method_2_code 55 = .ok (.aload_n 1, 1) := by decide +kernel
theorem d3_copyFrom_56 : decode prog_5_method_2_code 56 = .ok (.getfield 24, 3) := by decide +kernel
theorem d3_copyFrom_59 : decode prog_5_method_2_code 59 = .ok (.iload_n 2, 1) := by decide +kernel
theorem d3_copyFrom_60 : decode prog_5_method_2_code 60 = .ok (.iaload, 1) := by decide +kernel
theorem d3_copyFrom_61 : decode prog_5_method_2_code 61 = .ok (.iastore, 1) := by decide +kernel
theorem d3_copyFrom_62 : decode prog_5_method_2_code 62 = .ok (.iinc 2 1, 3) := by decide +kernel
theorem d3_copyFrom_65 : decode prog_5_method_2_code 65 = .ok (.goto (-47), 3) := by decide +kernel
theorem d3_copyFrom_68 : decode prog_5_method_2_code 68 = .ok (.return_, 1) := by decide +kernel
theorem d3_isFull_0 : decode prog_5_method_3_code 0 = .ok (.aload_n 0, 1) := by decide +kernel
theorem d3_isFull_1 : decode prog_5_method_3_code 1 = .ok (.getfield 27, 3) := by decide +kernel
theorem d3_isFull_4 : decode prog_5_method_3_code 4 = .ok (.aload_n 0, 1) := by decide +kernel
theorem d3_isFull_5 : decode prog_5_method_3_code 5 = .ok (.getfield 15, 3) := by decide +kernel
theorem d3_isFull_8 : decode prog_5_method_3_code 8 = .ok (.arraylength, 1) := by decide +kernel
theorem d3_isFull_9 : decode prog_5_method_3_code 9 = .ok (.if_icmp .lt 7, 3) := by decide +kernel
theorem d3_isFull_12 : decode prog_5_method_3_code 12 = .ok (.iconst 1, 1) := by decide +kernel
theorem d3_isFull_13 : decode prog_5_method_3_code 13 = .ok (.goto 4, 3) := by decide +kernel
theorem d3_isFull_16 : decode prog_5_method_3_code 16 = .ok (.iconst 0, 1) := by decide +kernel
theorem d3_isFull_17 : decode prog_5_method_3_code 17 = .ok (.ireturn, 1) := by decide +kernel
theorem d3_has_0 : decode prog_5_method_4_code 0 = .ok (.iload_n 1, 1) := by decide +kernel
theorem d3_has_1 : decode prog_5_method_4_code 1 = .ok (.ifCond .lt 15, 3) := by decide +kernel
theorem d3_has_4 : decode prog_5_method_4_code 4 = .ok (.iload_n 1, 1) := by decide +kernel
theorem d3_has_5 : decode prog_5_method_4_code 5 = .ok (.aload_n 0, 1) := by decide +kernel
theorem d3_has_6 : decode prog_5_method_4_code 6 = .ok (.getfield 27, 3) := by decide +kernel
theorem d3_has_9 : decode prog_5_method_4_code 9 = .ok (.if_icmp .ge 7, 3) := by decide +kernel
theorem d3_has_12 : decode prog_5_method_4_code 12 = .ok (.iconst 1, 1) := by decide +kernel
theorem d3_has_13 : decode prog_5_method_4_code 13 = .ok (.goto 4, 3) := by decide +kernel
theorem d3_has_16 : decode prog_5_method_4_code 16 = .ok (.iconst 0, 1) := by decide +kernel
theorem d3_has_17 : decode prog_5_method_4_code 17 = .ok (.ireturn, 1) := by decide +kernel
theorem d3_keyAt_0 : decode prog_5_method_5_code 0 = .ok (.aload_n 0, 1) := by decide +kernel
theorem d3_keyAt_1 : decode prog_5_method_5_code 1 = .ok (.iload_n 1, 1) := by decide +kernel
theorem d3_keyAt_2 : decode prog_5_method_5_code 2 = .ok (.invokevirtual 34, 3) := by decide +kernel
theorem d3_keyAt_5 : decode prog_5_method_5_code 5 = .ok (.ifCond .eq 12, 3) := by decide +kernel
theorem d3_keyAt_8 : decode prog_5_method_5_code 8 = .ok (.aload_n 0, 1) := by decide +kernel
theorem d3_keyAt_9 : decode prog_5_method_5_code 9 = .ok (.getfield 15, 3) := by decide +kernel
theorem d3_keyAt_12 : decode prog_5_method_5_code 12 = .ok (.iload_n 1, 1) := by decide +kernel
theorem d3_keyAt_13 : decode prog_5_method_5_code 13 = .ok (.iaload, 1) := by decide +kernel
theorem d3_keyAt_14 : decode prog_5_method_5_code 14 = .ok (.goto 5, 3) := by decide +kernel
theorem d3_keyAt_17 : decode prog_5_method_5_code 17 = .ok (.bipush (-5), 2) := by decide +kernel
theorem d3_keyAt_19 : decode prog_5_method_5_code 19 = .ok (.ireturn, 1) := by decide +kernel
theorem d3_lengthAt_0 : decode prog_5_method_6_code 0 = .ok (.aload_n 0, 1) := by decide +kernel
theorem d3_lengthAt_1 : decode prog_5_method_6_code 1 = .ok (.iload_n 1, 1) := by decide +kernel
theorem d3_lengthAt_2 : decode prog_5_method_6_code 2 = .ok (.invokevirtual 34, 3) := by decide +kernel
theorem d3_lengthAt_5 : decode prog_5_method_6_code 5 = .ok (.ifCond .eq 12, 3) := by decide +kernel
theorem d3_lengthAt_8 : decode prog_5_method_6_code 8 = .ok (.aload_n 0, 1) := by decide +kernel
theorem d3_lengthAt_9 : decode prog_5_method_6_code 9 = .ok (.getfield 21, 3) := by decide +kernel
theorem d3_lengthAt_12 : decode prog_5_method_6_code 12 = .ok (.iload_n 1, 1) := by decide +kernel
theorem d3_lengthAt_13 : decode prog_5_method_6_code 13 = .ok (.iaload, 1) := by decide +kernel
theorem d3_lengthAt_14 : decode prog_5_method_6_code 14 = .ok (.goto 5, 3) := by decide +kernel
theorem d3_lengthAt_17 : decode prog_5_method_6_code 17 = .ok (.bipush (-5), 2) := by decide +kernel
theorem d3_lengthAt_19 : decode prog_5_method_6_code 19 = .ok (.ireturn, 1) := by decide +kernel
theorem d3_dataAt_0 : decode prog_5_method_7_code 0 = .ok (.aload_n 0, 1) := by decide +kernel
theorem d3_dataAt_1 : decode prog_5_method_7_code 1 = .ok (.iload_n 1, 1) := by decide +kernel
theorem d3_dataAt_2 : decode prog_5_method_7_code 2 = .ok (.invokevirtual 34, 3) := by decide +kernel
theorem d3_dataAt_5 : decode prog_5_method_7_code 5 = .ok (.ifCond .eq 12, 3) := by decide +kernel
theorem d3_dataAt_8 : decode prog_5_method_7_code 8 = .ok (.aload_n 0, 1) := by decide +kernel
theorem d3_dataAt_9 : decode prog_5_method_7_code 9 = .ok (.getfield 24, 3) := by decide +kernel
theorem d3_dataAt_12 : decode prog_5_method_7_code 12 = .ok (.iload_n 1, 1) := by decide +kernel
theorem d3_dataAt_13 : decode prog_5_method_7_code 13 = .ok (.iaload, 1) := by decide +kernel
theorem d3_dataAt_14 : decode prog_5_method_7_code 14 = .ok (.goto 4, 3) := by decide +kernel
theorem d3_dataAt_17 : decode prog_5_method_7_code 17 = .ok (.iconst 0, 1) := by decide +kernel
theorem d3_dataAt_18 : decode prog_5_method_7_code 18 = .ok (.ireturn, 1) := by decide +kernel
theorem d3_indexOf_0 : decode prog_5_method_8_code 0 = .ok (.iconst 0, 1) := by decide +kernel
theorem d3_indexOf_1 : decode prog_5_method_8_code 1 = .ok (.istore_n 2, 1) := by decide +kernel
theorem d3_indexOf_2 : decode prog_5_method_8_code 2 = .ok (.iload_n 2, 1) := by decide +kernel
theorem d3_indexOf_3 : decode prog_5_method_8_code 3 = .ok (.aload_n 0, 1) := by decide +kernel
theorem d3_indexOf_4 : decode prog_5_method_8_code 4 = .ok (.getfield 27, 3) := by decide +kernel
theorem d3_indexOf_7 : decode prog_5_method_8_code 7 = .ok (.if_icmp .ge 21, 3) := by decide +kernel
theorem d3_indexOf_10 : decode prog_5_method_8_code 10 = .ok (.aload_n 0, 1) := by decide +kernel
theorem d3_indexOf_11 : decode prog_5_method_8_code 11 = .ok (.getfield 15, 3) := by decide +kernel
theorem d3_indexOf_14 : decode prog_5_method_8_code 14 = .ok (.iload_n 2, 1) := by decide +kernel
theorem d3_indexOf_15 : decode prog_5_method_8_code 15 = .ok (.iaload, 1) := by decide +kernel
theorem d3_indexOf_16 : decode prog_5_method_8_code 16 = .ok (.iload_n 1, 1) := by decide +kernel
theorem d3_indexOf_17 : decode prog_5_method_8_code 17 = .ok (.if_icmp .ne 5, 3) := by decide +kernel
theorem d3_indexOf_20 : decode prog_5_method_8_code 20 = .ok (.iload_n 2, 1) := by decide +kernel
theorem d3_indexOf_21 : decode prog_5_method_8_code 21 = .ok (.ireturn, 1) := by decide +kernel
theorem d3_indexOf_22 : decode prog_5_method_8_code 22 = .ok (.iinc 2 1, 3) := by decide +kernel
theorem d3_indexOf_25 : decode prog_5_method_8_code 25 = .ok (.goto (-23), 3) := by decide +kernel
theorem d3_indexOf_28 : decode prog_5_method_8_code 28 = .ok (.iconst (-1), 1) := by decide +kernel
theorem d3_indexOf_29 : decode prog_5_method_8_code 29 = .ok (.ireturn, 1) := by decide +kernel
theorem d3_placeFor_0 : decode prog_5_method_9_code 0 = .ok (.iconst 0, 1) := by decide +kernel
theorem d3_placeFor_1 : decode prog_5_method_9_code 1 = .ok (.istore_n 2, 1) := by decide +kernel
theorem d3_placeFor_2 : decode prog_5_method_9_code 2 = .ok (.iload_n 2, 1) := by decide +kernel
theorem d3_placeFor_3 : decode prog_5_method_9_code 3 = .ok (.aload_n 0, 1) := by decide +kernel
theorem d3_placeFor_4 : decode prog_5_method_9_code 4 = .ok (.getfield 27, 3) := by decide +kernel
theorem d3_placeFor_7 : decode prog_5_method_9_code 7 = .ok (.if_icmp .ge 21, 3) := by decide +kernel
theorem d3_placeFor_10 : decode prog_5_method_9_code 10 = .ok (.aload_n 0, 1) := by decide +kernel
theorem d3_placeFor_11 : decode prog_5_method_9_code 11 = .ok (.getfield 15, 3) := by decide +kernel
theorem d3_placeFor_14 : decode prog_5_method_9_code 14 = .ok (.iload_n 2, 1) := by decide +kernel
theorem d3_placeFor_15 : decode prog_5_method_9_code 15 = .ok (.iaload, 1) := by decide +kernel
theorem d3_placeFor_16 : decode prog_5_method_9_code 16 = .ok (.iload_n 1, 1) := by decide +kernel
theorem d3_placeFor_17 : decode prog_5_method_9_code 17 = .ok (.if_icmp .le 5, 3) := by decide +kernel
theorem d3_placeFor_20 : decode prog_5_method_9_code 20 = .ok (.iload_n 2, 1) := by decide +kernel
theorem d3_placeFor_21 : decode prog_5_method_9_code 21 = .ok (.ireturn, 1) := by decide +kernel
theorem d3_placeFor_22 : decode prog_5_method_9_code 22 = .ok (.iinc 2 1, 3) := by decide +kernel
theorem d3_placeFor_25 : decode prog_5_method_9_code 25 = .ok (.goto (-23), 3) := by decide +kernel
theorem d3_placeFor_28 : decode prog_5_method_9_code 28 = .ok (.aload_n 0, 1) := by decide +kernel
theorem d3_placeFor_29 : decode prog_5_method_9_code 29 = .ok (.getfield 27, 3) := by decide +kernel
theorem d3_placeFor_32 : decode prog_5_method_9_code 32 = .ok (.ireturn, 1) := by decide +kernel
theorem d3_insertAt_0 : decode prog_5_method_10_code 0 = .ok (.aload_n 0, 1) := by decide +kernel
theorem d3_insertAt_1 : decode prog_5_method_10_code 1 = .ok (.getfield 27, 3) := by decide +kernel
theorem d3_insertAt_4 : decode prog_5_method_10_code 4 = .ok (.aload_n 0, 1) := by decide +kernel
theorem d3_insertAt_5 : decode prog_5_method_10_code 5 = .ok (.getfield 15, 3) := by decide +kernel
theorem d3_insertAt_8 : decode prog_5_method_10_code 8 = .ok (.arraylength, 1) := by decide +kernel
theorem d3_insertAt_9 : decode prog_5_method_10_code 9 = .ok (.if_icmp .ge 15, 3) := by decide +kernel
theorem d3_insertAt_12 : decode prog_5_method_10_code 12 = .ok (.iload_n 1, 1) := by decide +kernel
theorem d3_insertAt_13 : decode prog_5_method_10_code 13 = .ok (.ifCond .lt 11, 3) := by decide +kernel
theorem d3_insertAt_16 : decode prog_5_method_10_code 16 = .ok (.iload_n 1, 1) := by decide +kernel
theorem d3_insertAt_17 : decode prog_5_method_10_code 17 = .ok (.aload_n 0, 1) := by decide +kernel
theorem d3_insertAt_18 : decode prog_5_method_10_code 18 = .ok (.getfield 27, 3) := by decide +kernel
theorem d3_insertAt_21 : decode prog_5_method_10_code 21 = .ok (.if_icmp .le 4, 3) := by decide +kernel
theorem d3_insertAt_24 : decode prog_5_method_10_code 24 = .ok (.return_, 1) := by decide +kernel
theorem d3_insertAt_25 : decode prog_5_method_10_code 25 = .ok (.aload_n 0, 1) := by decide +kernel
theorem d3_insertAt_26 : decode prog_5_method_10_code 26 = .ok (.getfield 27, 3) := by decide +kernel
theorem d3_insertAt_29 : decode prog_5_method_10_code 29 = .ok (.istore 5, 2) := by decide +kernel
theorem d3_insertAt_31 : decode prog_5_method_10_code 31 = .ok (.iload 5, 2) := by decide +kernel
theorem d3_insertAt_33 : decode prog_5_method_10_code 33 = .ok (.iload_n 1, 1) := by decide +kernel
theorem d3_insertAt_34 : decode prog_5_method_10_code 34 = .ok (.if_icmp .le 57, 3) := by decide +kernel
theorem d3_insertAt_37 : decode prog_5_method_10_code 37 = .ok (.aload_n 0, 1) := by decide +kernel
theorem d3_insertAt_38 : decode prog_5_method_10_code 38 = .ok (.getfield 15, 3) := by decide +kernel
theorem d3_insertAt_41 : decode prog_5_method_10_code 41 = .ok (.iload 5, 2) := by decide +kernel
theorem d3_insertAt_43 : decode prog_5_method_10_code 43 = .ok (.aload_n 0, 1) := by decide +kernel
theorem d3_insertAt_44 : decode prog_5_method_10_code 44 = .ok (.getfield 15, 3) := by decide +kernel
theorem d3_insertAt_47 : decode prog_5_method_10_code 47 = .ok (.iload 5, 2) := by decide +kernel
theorem d3_insertAt_49 : decode prog_5_method_10_code 49 = .ok (.iconst 1, 1) := by decide +kernel
theorem d3_insertAt_50 : decode prog_5_method_10_code 50 = .ok (.isub, 1) := by decide +kernel
theorem d3_insertAt_51 : decode prog_5_method_10_code 51 = .ok (.iaload, 1) := by decide +kernel
theorem d3_insertAt_52 : decode prog_5_method_10_code 52 = .ok (.iastore, 1) := by decide +kernel
theorem d3_insertAt_53 : decode prog_5_method_10_code 53 = .ok (.aload_n 0, 1) := by decide +kernel
theorem d3_insertAt_54 : decode prog_5_method_10_code 54 = .ok (.getfield 21, 3) := by decide +kernel
theorem d3_insertAt_57 : decode prog_5_method_10_code 57 = .ok (.iload 5, 2) := by decide +kernel
theorem d3_insertAt_59 : decode prog_5_method_10_code 59 = .ok (.aload_n 0, 1) := by decide +kernel
theorem d3_insertAt_60 : decode prog_5_method_10_code 60 = .ok (.getfield 21, 3) := by decide +kernel
theorem d3_insertAt_63 : decode prog_5_method_10_code 63 = .ok (.iload 5, 2) := by decide +kernel
theorem d3_insertAt_65 : decode prog_5_method_10_code 65 = .ok (.iconst 1, 1) := by decide +kernel
theorem d3_insertAt_66 : decode prog_5_method_10_code 66 = .ok (.isub, 1) := by decide +kernel
theorem d3_insertAt_67 : decode prog_5_method_10_code 67 = .ok (.iaload, 1) := by decide +kernel
theorem d3_insertAt_68 : decode prog_5_method_10_code 68 = .ok (.iastore, 1) := by decide +kernel
theorem d3_insertAt_69 : decode prog_5_method_10_code 69 = .ok (.aload_n 0, 1) := by decide +kernel
theorem d3_insertAt_70 : decode prog_5_method_10_code 70 = .ok (.getfield 24, 3) := by decide +kernel
theorem d3_insertAt_73 : decode prog_5_method_10_code 73 = .ok (.iload 5, 2) := by decide +kernel
theorem d3_insertAt_75 : decode prog_5_method_10_code 75 = .ok (.aload_n 0, 1) := by decide +kernel
theorem d3_insertAt_76 : decode prog_5_method_10_code 76 = .ok (.getfield 24, 3) := by decide +kernel
theorem d3_insertAt_79 : decode prog_5_method_10_code 79 = .ok (.iload 5, 2) := by decide +kernel
theorem d3_insertAt_81 : decode prog_5_method_10_code 81 = .ok (.iconst 1, 1) := by decide +kernel
theorem d3_insertAt_82 : decode prog_5_method_10_code 82 = .ok (.isub, 1) := by decide +kernel
theorem d3_insertAt_83 : decode prog_5_method_10_code 83 = .ok (.iaload, 1) := by decide +kernel
theorem d3_insertAt_84 : decode prog_5_method_10_code 84 = .ok (.iastore, 1) := by decide +kernel
theorem d3_insertAt_85 : decode prog_5_method_10_code 85 = .ok (.iinc 5 (-1), 3) := by decide +kernel
theorem d3_insertAt_88 : decode prog_5_method_10_code 88 = .ok (.goto (-57), 3) := by decide +kernel
theorem d3_insertAt_91 : decode prog_5_method_10_code 91 = .ok (.aload_n 0, 1) := by decide +kernel
theorem d3_insertAt_92 : decode prog_5_method_10_code 92 = .ok (.getfield 15, 3) := by decide +kernel
theorem d3_insertAt_95 : decode prog_5_method_10_code 95 = .ok (.iload_n 1, 1) := by decide +kernel
theorem d3_insertAt_96 : decode prog_5_method_10_code 96 = .ok (.iload_n 2, 1) := by decide +kernel
theorem d3_insertAt_97 : decode prog_5_method_10_code 97 = .ok (.iastore, 1) := by decide +kernel
theorem d3_insertAt_98 : decode prog_5_method_10_code 98 = .ok (.aload_n 0, 1) := by decide +kernel
theorem d3_insertAt_99 : decode prog_5_method_10_code 99 = .ok (.getfield 21, 3) := by decide +kernel
theorem d3_insertAt_102 : decode prog_5_method_10_code 102 = .ok (.iload_n 1, 1) := by decide +kernel
theorem d3_insertAt_103 : decode prog_5_method_10_code 103 = .ok (.iload_n 3, 1) := by decide +kernel
theorem d3_insertAt_104 : decode prog_5_method_10_code 104 = .ok (.iastore, 1) := by decide +kernel
theorem d3_insertAt_105 : decode prog_5_method_10_code 105 = .ok (.aload_n 0, 1) := by decide +kernel
theorem d3_insertAt_106 : decode prog_5_method_10_code 106 = .ok (.getfield 24, 3) := by decide +kernel
theorem d3_insertAt_109 : decode prog_5_method_10_code 109 = .ok (.iload_n 1, 1) := by decide +kernel
theorem d3_insertAt_110 : decode prog_5_method_10_code 110 = .ok (.iload 4, 2) := by decide +kernel
theorem d3_insertAt_112 : decode prog_5_method_10_code 112 = .ok (.iastore, 1) := by decide +kernel
theorem d3_insertAt_113 : decode prog_5_method_10_code 113 = .ok (.aload_n 0, 1) := by decide +kernel
theorem d3_insertAt_114 : decode prog_5_method_10_code 114 = .ok (.dup, 1) := by decide +kernel
theorem d3_insertAt_115 : decode prog_5_method_10_code 115 = .ok (.getfield 27, 3) := by decide +kernel
theorem d3_insertAt_118 : decode prog_5_method_10_code 118 = .ok (.iconst 1, 1) := by decide +kernel
theorem d3_insertAt_119 : decode prog_5_method_10_code 119 = .ok (.iadd, 1) := by decide +kernel
theorem d3_insertAt_120 : decode prog_5_method_10_code 120 = .ok (.putfield 27, 3) := by decide +kernel
theorem d3_insertAt_123 : decode prog_5_method_10_code 123 = .ok (.return_, 1) := by decide +kernel
theorem d3_removeAt_0 : decode prog_5_method_11_code 0 = .ok (.aload_n 0, 1) := by decide +kernel
theorem d3_removeAt_1 : decode prog_5_method_11_code 1 = .ok (.iload_n 1, 1) := by decide +kernel
theorem d3_removeAt_2 : decode prog_5_method_11_code 2 = .ok (.invokevirtual 34, 3) := by decide +kernel
theorem d3_removeAt_5 : decode prog_5_method_11_code 5 = .ok (.ifCond .ne 4, 3) := by decide +kernel
theorem d3_removeAt_8 : decode prog_5_method_11_code 8 = .ok (.return_, 1) := by decide +kernel
theorem d3_removeAt_9 : decode prog_5_method_11_code 9 = .ok (.aload_n 0, 1) := by decide +kernel
theorem d3_removeAt_10 : decode prog_5_method_11_code 10 = .ok (.dup, 1) := by decide +kernel
theorem d3_removeAt_11 : decode prog_5_method_11_code 11 = .ok (.getfield 27, 3) := by decide +kernel
theorem d3_removeAt_14 : decode prog_5_method_11_code 14 = .ok (.iconst 1, 1) := by decide +kernel
theorem d3_removeAt_15 : decode prog_5_method_11_code 15 = .ok (.isub, 1) := by decide +kernel
theorem d3_removeAt_16 : decode prog_5_method_11_code 16 = .ok (.putfield 27, 3) := by decide +kernel
theorem d3_removeAt_19 : decode prog_5_method_11_code 19 = .ok (.iload_n 1, 1) := by decide +kernel
theorem d3_removeAt_20 : decode prog_5_method_11_code 20 = .ok (.istore_n 2, 1) := by decide +kernel
theorem d3_removeAt_21 : decode prog_5_method_11_code 21 = .ok (.iload_n 2, 1) := by decide +kernel
theorem d3_removeAt_22 : decode prog_5_method_11_code 22 = .ok (.aload_n 0, 1) := by decide +kernel
theorem d3_removeAt_23 : decode prog_5_method_11_code 23 = .ok (.getfield 27, 3) := by decide +kernel
theorem d3_removeAt_26 : decode prog_5_method_11_code 26 = .ok (.if_icmp .ge 51, 3) := by decide +kernel
theorem d3_removeAt_29 : decode prog_5_method_11_code 29 = .ok (.aload_n 0, 1) := by decide +kernel
theorem d3_removeAt_30 : decode prog_5_method_11_code 30 = .ok (.getfield 15, 3) := by decide +kernel
theorem d3_removeAt_33 : decode prog_5_method_11_code 33 = .ok (.iload_n 2, 1) := by decide +kernel
theorem d3_removeAt_34 : decode prog_5_method_11_code 34 = .ok (.aload_n 0, 1) := by decide +kernel
theorem d3_removeAt_35 : decode prog_5_method_11_code 35 = .ok (.getfield 15, 3) := by decide +kernel
theorem d3_removeAt_38 : decode prog_5_method_11_code 38 = .ok (.iload_n 2, 1) := by decide +kernel
theorem d3_removeAt_39 : decode prog_5_method_11_code 39 = .ok (.iconst 1, 1) := by decide +kernel
theorem d3_removeAt_40 : decode prog_5_method_11_code 40 = .ok (.iadd, 1) := by decide +kernel
theorem d3_removeAt_41 : decode prog_5_method_11_code 41 = .ok (.iaload, 1) := by decide +kernel
theorem d3_removeAt_42 : decode prog_5_method_11_code 42 = .ok (.iastore, 1) := by decide +kernel
theorem d3_removeAt_43 : decode prog_5_method_11_code 43 = .ok (.aload_n 0, 1) := by decide +kernel
theorem d3_removeAt_44 : decode prog_5_method_11_code 44 = .ok (.getfield 21, 3) := by decide +kernel
theorem d3_removeAt_47 : decode prog_5_method_11_code 47 = .ok (.iload_n 2, 1) := by decide +kernel
theorem d3_removeAt_48 : decode prog_5_method_11_code 48 = .ok (.aload_n 0, 1) := by decide +kernel
theorem d3_removeAt_49 : decode prog_5_method_11_code 49 = .ok (.getfield 21, 3) := by decide +kernel
theorem d3_removeAt_52 : decode prog_5_method_11_code 52 = .ok (.iload_n 2, 1) := by decide +kernel
theorem d3_removeAt_53 : decode prog_5_method_11_code 53 = .ok (.iconst 1, 1) := by decide +kernel
theorem d3_removeAt_54 : decode prog_5_method_11_code 54 = .ok (.iadd, 1) := by decide +kernel
theorem d3_removeAt_55 : decode prog_5_method_11_code 55 = .ok (.iaload, 1) := by decide +kernel
theorem d3_removeAt_56 : decode prog_5_method_11_code 56 = .ok (.iastore, 1) := by decide +kernel
theorem d3_removeAt_57 : decode prog_5_method_11_code 57 = .ok (.aload_n 0, 1) := by decide +kernel
theorem d3_removeAt_58 : decode prog_5_method_11_code 58 = .ok (.getfield 24, 3) := by decide +kernel
theorem d3_removeAt_61 : decode prog_5_method_11_code 61 = .ok (.iload_n 2, 1) := by decide +kernel
theorem d3_removeAt_62 : decode prog_5_method_11_code 62 = .ok (.aload_n 0, 1) := by decide +kernel
theorem d3_removeAt_63 : decode prog_5_method_11_code 63 = .ok (.getfield 24, 3) := by decide +kernel
theorem d3_removeAt_66 : decode prog_5_method_11_code 66 = .ok (.iload_n 2, 1) := by decide +kernel
theorem d3_removeAt_67 : decode prog_5_method_11_code 67 = .ok (.iconst 1, 1) := by decide +kernel
theorem d3_removeAt_68 : decode prog_5_method_11_code 68 = .ok (.iadd, 1) := by decide +kernel
theorem d3_removeAt_69 : decode prog_5_method_11_code 69 = .ok (.iaload, 1) := by decide +kernel
theorem d3_removeAt_70 : decode prog_5_method_11_code 70 = .ok (.iastore, 1) := by decide +kernel
theorem d3_removeAt_71 : decode prog_5_method_11_code 71 = .ok (.iinc 2 1, 3) := by decide +kernel
theorem d3_removeAt_74 : decode prog_5_method_11_code 74 = .ok (.goto (-53), 3) := by decide +kernel
theorem d3_removeAt_77 : decode prog_5_method_11_code 77 = .ok (.return_, 1) := by decide +kernel
theorem d4_init_0 : decode prog_6_method_1_code 0 = .ok (.aload_n 0, 1) := by decide +kernel
theorem d4_init_1 : decode prog_6_method_1_code 1 = .ok (.invokespecial 1, 3) := by decide +kernel
theorem d4_init_4 : decode prog_6_method_1_code 4 = .ok (.aload_n 0, 1) := by decide +kernel
theorem d4_init_5 : decode prog_6_method_1_code 5 = .ok (.sipush 128, 3) := by decide +kernel
theorem d4_init_8 : decode prog_6_method_1_code 8 = .ok (.putfield 7, 3) := by decide +kernel
theorem d4_init_11 : decode prog_6_method_1_code 11 = .ok (.aload_n 0, 1) := by decide +kernel
theorem d4_init_12 : decode prog_6_method_1_code 12 = .ok (.sipush 256, 3) := by decide +kernel
theorem d4_init_15 : decode prog_6_method_1_code 15 = .ok (.putfield 13, 3) := by decide +kernel
theorem d4_init_18 : decode prog_6_method_1_code 18 = .ok (.aload_n 0, 1) := by decide +kernel
theorem d4_init_19 : decode prog_6_method_1_code 19 = .ok (.iconst 4, 1) := by decide +kernel
theorem d4_init_20 : decode prog_6_method_1_code 20 = .ok (.putfield 16, 3) := by decide +kernel
theorem d4_init_23 : decode prog_6_method_1_code 23 = .ok (.return_, 1) := by decide +kernel
theorem d4_copyFrom_0 : decode prog_6_method_2_code 0 = .ok (.aload_n 0, 1) := by decide +kernel
theorem d4_copyFrom_1 : decode prog_6_method_2_code 1 = .ok (.aload_n 1, 1) := by decide +kernel
theorem d4_copyFrom_2 : decode prog_6_method_2_code 2 = .ok (.getfield 7, 3) := by decide +kernel
theorem d4_copyFrom_5 : decode prog_6_method_2_code 5 = .ok (.putfield 7, 3) := by decide +kernel
theorem d4_copyFrom_8 : decode prog_6_method_2_code 8 = .ok (.aload_n 0, 1) := by decide +kernel
theorem d4_copyFrom_9 : decode prog_6_method_2_code 9 = .ok (.aload_n 1, 1) := by decide +kernel
theorem d4_copyFrom_10 : decode prog_6_method_2_code 10 = .ok (.getfield 13, 3) := by decide +kernel
theorem d4_copyFrom_13 : decode prog_6_method_2_code 13 = .ok (.putfield 13, 3) := by decide +kernel
theorem d4_copyFrom_16 : decode prog_6_method_2_code 16 = .ok (.aload_n 0, 1) := by decide +kernel
theorem d4_copyFrom_17 : decode prog_6_method_2_code 17 = .ok (.aload_n 1, 1) := by decide +kernel
theorem d4_copyFrom_18 : decode prog_6_method_2_code 18 = .ok (.getfield 16, 3) := by decide +kernel
theorem d4_copyFrom_21 : decode prog_6_method_2_code 21 = .ok (.putfield 16, 3) := by decide +kernel
theorem d4_copyFrom_24 : decode prog_6_method_2_code 24 = .ok (.return_, 1) := by decide +kernel
theorem d5_init_0 : decode prog_7_method_1_code 0 = .ok (.aload_n 0, 1) := by decide +kernel
theorem d5_init_1 : decode prog_7_method_1_code 1 = .ok (.invokespecial 3, 3) := by decide +kernel
theorem d5_init_4 : decode prog_7_method_1_code 4 = .ok (.aload_n 0, 1) := by decide +kernel
theorem d5_init_5 : decode prog_7_method_1_code 5 = .ok (.bipush 8, 2) := by decide +kernel
theorem d5_init_7 : decode prog_7_method_1_code 7 = .ok (.newarray .int, 2) := by decide +kernel
theorem d5_init_9 : decode prog_7_method_1_code 9 = .ok (.putfield 11, 3) := by decide +kernel
theorem d5_init_12 : decode prog_7_method_1_code 12 = .ok (.aload_n 0, 1) := by decide +kernel
theorem d5_init_13 : decode prog_7_method_1_code 13 = .ok (.bipush 8, 2) := by decide +kernel
theorem d5_init_15 : decode prog_7_method_1_code 15 = .ok (.newarray .int, 2) := by decide +kernel
theorem d5_init_17 : decode prog_7_method_1_code 17 = .ok (.putfield 15, 3) := by decide +kernel
theorem d5_init_20 : decode prog_7_method_1_code 20 = .ok (.aload_n 0, 1) := by decide +kernel
theorem d5_init_21 : decode prog_7_method_1_code 21 = .ok (.bipush 8, 2) := by decide +kernel
theorem d5_init_23 : decode prog_7_method_1_code 23 = .ok (.newarray .int, 2) := by decide +kernel
theorem d5_init_25 : decode prog_7_method_1_code 25 = .ok (.putfield 18, 3) := by decide +kernel
theorem d5_init_28 : decode prog_7_method_1_code 28 = .ok (.aload_n 0, 1) := by decide +kernel
theorem d5_init_29 : decode prog_7_method_1_code 29 = .ok (.bipush 8, 2) := by decide +kernel
theorem d5_init_31 : decode prog_7_method_1_code 31 = .ok (.newarray .int, 2) := by decide +kernel
theorem d5_init_33 : decode prog_7_method_1_code 33 = .ok (.putfield 21, 3) := by decide +kernel
theorem d5_init_36 : decode prog_7_method_1_code 36 = .ok (.return_, 1) := by decide +kernel
theorem d5_indexOf_0 : decode prog_7_method_2_code 0 = .ok (.iconst 0, 1) := by decide +kernel
theorem d5_indexOf_1 : decode prog_7_method_2_code 1 = .ok (.istore_n 2, 1) := by decide +kernel
theorem d5_indexOf_2 : decode prog_7_method_2_code 2 = .ok (.iload_n 2, 1) := by decide +kernel
theorem d5_indexOf_3 : decode prog_7_method_2_code 3 = .ok (.aload_n 0, 1) := by decide +kernel
theorem d5_indexOf_4 : decode prog_7_method_2_code 4 = .ok (.getfield 24, 3) := by decide +kernel
theorem d5_indexOf_7 : decode prog_7_method_2_code 7 = .ok (.if_icmp .ge 21, 3) := by decide +kernel
theorem d5_indexOf_10 : decode prog_7_method_2_code 10 = .ok (.aload_n 0, 1) := by decide +kernel
theorem d5_indexOf_11 : decode prog_7_method_2_code 11 = .ok (.getfield 11, 3) := by decide +kernel
theorem d5_indexOf_14 : decode prog_7_method_2_code 14 = .ok (.iload_n 2, 1) := by decide +kernel
theorem d5_indexOf_15 : decode prog_7_method_2_code 15 = .ok (.iaload, 1) := by decide +kernel
theorem d5_indexOf_16 : decode prog_7_method_2_code 16 = .ok (.iload_n 1, 1) := by decide +kernel
theorem d5_indexOf_17 : decode prog_7_method_2_code 17 = .ok (.if_icmp .ne 5, 3) := by decide +kernel
theorem d5_indexOf_20 : decode prog_7_method_2_code 20 = .ok (.iload_n 2, 1) := by decide +kernel
theorem d5_indexOf_21 : decode prog_7_method_2_code 21 = .ok (.ireturn, 1) := by decide +kernel
theorem d5_indexOf_22 : decode prog_7_method_2_code 22 = .ok (.iinc 2 1, 3) := by decide +kernel
theorem d5_indexOf_25 : decode prog_7_method_2_code 25 = .ok (.goto (-23), 3) := by decide +kernel
theorem d5_indexOf_28 : decode prog_7_method_2_code 28 = .ok (.iconst (-1), 1) := by decide +kernel
theorem d5_indexOf_29 : decode prog_7_method_2_code 29 = .ok (.ireturn, 1) := by decide +kernel
theorem d5_put_0 : decode prog_7_method_3_code 0 = .ok (.aload_n 0, 1) := by decide +kernel
theorem d5_put_1 : decode prog_7_method_3_code 1 = .ok (.iload_n 1, 1) := by decide +kernel
theorem d5_put_2 : decode prog_7_method_3_code 2 = .ok (.invokevirtual 28, 3) := by decide +kernel
theorem d5_put_5 : decode prog_7_method_3_code 5 = .ok (.istore 5, 2) := by decide +kernel
theorem d5_put_7 : decode prog_7_method_3_code 7 = .ok (.iload 5, 2) := by decide +kernel
theorem d5_put_9 : decode prog_7_method_3_code 9 = .ok (.ifCond .lt 8, 3) := by decide +kernel
theorem d5_put_12 : decode prog_7_method_3_code 12 = .ok (.iload 5, 2) := by decide +kernel
theorem d5_put_14 : decode prog_7_method_3_code 14 = .ok (.goto 7, 3) := by decide +kernel
theorem d5_put_17 : decode prog_7_method_3_code 17 = .ok (.aload_n 0, 1) := by decide +kernel
theorem d5_put_18 : decode prog_7_method_3_code 18 = .ok (.getfield 24, 3) := by decide +kernel
theorem d5_put_21 : decode prog_7_method_3_code 21 = .ok (.istore 6, 2) := by decide +kernel
theorem d5_put_23 : decode prog_7_method_3_code 23 = .ok (.iload 6, 2) := by decide +kernel
theorem d5_put_25 : decode prog_7_method_3_code 25 = .ok (.bipush 8, 2) := by decide +kernel
theorem d5_put_27 : decode prog_7_method_3_code 27 = .ok (.if_icmp .lt 5, 3) := by decide +kernel
theorem d5_put_30 : decode prog_7_method_3_code 30 = .ok (.iconst 0, 1) := by decide +kernel
theorem d5_put_31 : decode prog_7_method_3_code 31 = .ok (.ireturn, 1) := by decide +kernel
theorem d5_put_32 : decode prog_7_method_3_code 32 = .ok (.aload_n 0, 1) := by decide +kernel
theorem d5_put_33 : decode prog_7_method_3_code 33 = .ok (.getfield 11, 3) := by decide +kernel
theorem d5_put_36 : decode prog_7_method_3_code 36 = .ok (.iload 6, 2) := by decide +kernel
theorem d5_put_38 : decode prog_7_method_3_code 38 = .ok (.iload_n 1, 1) := by decide +kernel
theorem d5_put_39 : decode prog_7_method_3_code 39 = .ok (.iastore, 1) := by decide +kernel
theorem d5_put_40 : decode prog_7_method_3_code 40 = .ok (.aload_n 0, 1) := by decide +kernel
theorem d5_put_41 : decode prog_7_method_3_code 41 = .ok (.getfield 15, 3) := by decide +kernel
theorem d5_put_44 : decode prog_7_method_3_code 44 = .ok (.iload 6, 2) := by decide +kernel
theorem d5_put_46 : decode prog_7_method_3_code 46 = .ok (.iload_n 2, 1) := by decide +kernel
theorem d5_put_47 : decode prog_7_method_3_code 47 = .ok (.invokestatic 32, 3) := by decide +kernel
theorem d5_put_50 : decode prog_7_method_3_code 50 = .ok (.iastore, 1) := by decide +kernel
theorem d5_put_51 : decode prog_7_method_3_code 51 = .ok (.aload_n 0, 1) := by decide +kernel
theorem d5_put_52 : decode prog_7_method_3_code 52 = .ok (.getfield 18, 3) := by decide +kernel
theorem d5_put_55 : decode prog_7_method_3_code 55 = .ok (.iload 6, 2) := by decide +kernel
theorem d5_put_57 : decode prog_7_method_3_code 57 = .ok (.iload_n 3, 1) := by decide +kernel
theorem d5_put_58 : decode prog_7_method_3_code 58 = .ok (.iastore, 1) := by decide +kernel
theorem d5_put_59 : decode prog_7_method_3_code 59 = .ok (.aload_n 0, 1) := by decide +kernel
theorem d5_put_60 : decode prog_7_method_3_code 60 = .ok (.getfield 21, 3) := by decide +kernel
theorem d5_put_63 : decode prog_7_method_3_code 63 = .ok (.iload 6, 2) := by decide +kernel
theorem d5_put_65 : decode prog_7_method_3_code 65 = .ok (.iload 4, 2) := by decide +kernel
theorem d5_put_67 : decode prog_7_method_3_code 67 = .ok (.iastore, 1) := by decide +kernel
theorem d5_put_68 : decode prog_7_method_3_code 68 = .ok (.aload_n 0, 1) := by decide +kernel
theorem d5_put_69 : decode prog_7_method_3_code 69 = .ok (.aload_n 0, 1) := by decide +kernel
theorem d5_put_70 : decode prog_7_method_3_code 70 = .ok (.getfield 24, 3) := by decide +kernel
theorem d5_put_73 : decode prog_7_method_3_code 73 = .ok (.iload 6, 2) := by decide +kernel
theorem d5_put_75 : decode prog_7_method_3_code 75 = .ok (.iconst 1, 1) := by decide +kernel
theorem d5_put_76 : decode prog_7_method_3_code 76 = .ok (.iadd, 1) := by decide +kernel
theorem d5_put_77 : decode prog_7_method_3_code 77 = .ok (.invokestatic 35, 3) := by decide +kernel
theorem d5_put_80 : decode prog_7_method_3_code 80 = .ok (.putfield 24, 3) := by decide +kernel
theorem d5_put_83 : decode prog_7_method_3_code 83 = .ok (.iconst 1, 1) := by decide +kernel
theorem d5_put_84 : decode prog_7_method_3_code 84 = .ok (.ireturn, 1) := by decide +kernel
theorem d5_removeAt_0 : decode prog_7_method_4_code 0 = .ok (.iload_n 1, 1) := by decide +kernel
theorem d5_removeAt_1 : decode prog_7_method_4_code 1 = .ok (.ifCond .lt 11, 3) := by decide +kernel
theorem d5_removeAt_4 : decode prog_7_method_4_code 4 = .ok (.iload_n 1, 1) := by decide +kernel
theorem d5_removeAt_5 : decode prog_7_method_4_code 5 = .ok (.aload_n 0, 1) := by decide +kernel
theorem d5_removeAt_6 : decode prog_7_method_4_code 6 = .ok (.getfield 24, 3) := by decide +kernel
theorem d5_removeAt_9 : decode prog_7_method_4_code 9 = .ok (.if_icmp .lt 4, 3) := by decide +kernel
theorem d5_removeAt_12 : decode prog_7_method_4_code 12 = .ok (.return_, 1) := by decide +kernel
theorem d5_removeAt_13 : decode prog_7_method_4_code 13 = .ok (.aload_n 0, 1) := by decide +kernel
theorem d5_removeAt_14 : decode prog_7_method_4_code 14 = .ok (.dup, 1) := by decide +kernel
theorem d5_removeAt_15 : decode prog_7_method_4_code 15 = .ok (.getfield 24, 3) := by decide +kernel
theorem d5_removeAt_18 : decode prog_7_method_4_code 18 = .ok (.iconst 1, 1) := by decide +kernel
theorem d5_removeAt_19 : decode prog_7_method_4_code 19 = .ok (.isub, 1) := by decide +kernel
theorem d5_removeAt_20 : decode prog_7_method_4_code 20 = .ok (.putfield 24, 3) := by decide +kernel
theorem d5_removeAt_23 : decode prog_7_method_4_code 23 = .ok (.iload_n 1, 1) := by decide +kernel
theorem d5_removeAt_24 : decode prog_7_method_4_code 24 = .ok (.istore_n 2, 1) := by decide +kernel
theorem d5_removeAt_25 : decode prog_7_method_4_code 25 = .ok (.iload_n 2, 1) := by decide +kernel
theorem d5_removeAt_26 : decode prog_7_method_4_code 26 = .ok (.aload_n 0, 1) := by decide +kernel
theorem d5_removeAt_27 : decode prog_7_method_4_code 27 = .ok (.getfield 24, 3) := by decide +kernel
theorem d5_removeAt_30 : decode prog_7_method_4_code 30 = .ok (.if_icmp .ge 65, 3) := by decide +kernel
theorem d5_removeAt_33 : decode prog_7_method_4_code 33 = .ok (.aload_n 0, 1) := by decide +kernel
theorem d5_removeAt_34 : decode prog_7_method_4_code 34 = .ok (.getfield 11, 3) := by decide +kernel
theorem d5_removeAt_37 : decode prog_7_method_4_code 37 = .ok (.iload_n 2, 1) := by decide +kernel
theorem d5_removeAt_38 : decode prog_7_method_4_code 38 = .ok (.aload_n 0, 1) := by decide +kernel
theorem d5_removeAt_39 : decode prog_7_method_4_code 39 = .ok (.getfield 11, 3) := by decide +kernel
theorem d5_removeAt_42 : decode prog_7_method_4_code 42 = .ok (.iload_n 2, 1) := by decide +kernel
theorem d5_removeAt_43 : decode prog_7_method_4_code 43 = .ok (.iconst 1, 1) := by decide +kernel
theorem d5_removeAt_44 : decode prog_7_method_4_code 44 = .ok (.iadd, 1) := by decide +kernel
theorem d5_removeAt_45 : decode prog_7_method_4_code 45 = .ok (.iaload, 1) := by decide +kernel
theorem d5_removeAt_46 : decode prog_7_method_4_code 46 = .ok (.iastore, 1) := by decide +kernel
theorem d5_removeAt_47 : decode prog_7_method_4_code 47 = .ok (.aload_n 0, 1) := by decide +kernel
theorem d5_removeAt_48 : decode prog_7_method_4_code 48 = .ok (.getfield 15, 3) := by decide +kernel
theorem d5_removeAt_51 : decode prog_7_method_4_code 51 = .ok (.iload_n 2, 1) := by decide +kernel
theorem d5_removeAt_52 : decode prog_7_method_4_code 52 = .ok (.aload_n 0, 1) := by decide +kernel
theorem d5_removeAt_53 : decode prog_7_method_4_code 53 = .ok (.getfield 15, 3) := by decide +kernel
theorem d5_removeAt_56 : decode prog_7_method_4_code 56 = .ok (.iload_n 2, 1) := by decide +kernel
theorem d5_removeAt_57 : decode prog_7_method_4_code 57 = .ok (.iconst 1, 1) := by decide +kernel
theorem d5_removeAt_58 : decode prog_7_method_4_code 58 = .ok (.iadd, 1) := by decide +kernel
theorem d5_removeAt_59 : decode prog_7_method_4_code 59 = .ok (.iaload, 1) := by decide +kernel
theorem d5_removeAt_60 : decode prog_7_method_4_code 60 = .ok (.iastore, 1) := by decide +kernel
theorem d5_removeAt_61 : decode prog_7_method_4_code 61 = .ok (.aload_n 0, 1) := by decide +kernel
theorem d5_removeAt_62 : decode prog_7_method_4_code 62 = .ok (.getfield 18, 3) := by decide +kernel
theorem d5_removeAt_65 : decode prog_7_method_4_code 65 = .ok (.iload_n 2, 1) := by decide +kernel
theorem d5_removeAt_66 : decode prog_7_method_4_code 66 = .ok (.aload_n 0, 1) := by decide +kernel
theorem d5_removeAt_67 : decode prog_7_method_4_code 67 = .ok (.getfield 18, 3) := by decide +kernel
theorem d5_removeAt_70 : decode prog_7_method_4_code 70 = .ok (.iload_n 2, 1) := by decide +kernel
theorem d5_removeAt_71 : decode prog_7_method_4_code 71 = .ok (.iconst 1, 1) := by decide +kernel
theorem d5_removeAt_72 : decode prog_7_method_4_code 72 = .ok (.iadd, 1) := by decide +kernel
theorem d5_removeAt_73 : decode prog_7_method_4_code 73 = .ok (.iaload, 1) := by decide +kernel
theorem d5_removeAt_74 : decode prog_7_method_4_code 74 = .ok (.iastore, 1) := by decide +kernel
theorem d5_removeAt_75 : decode prog_7_method_4_code 75 = .ok (.aload_n 0, 1) := by decide +kernel
theorem d5_removeAt_76 : decode prog_7_method_4_code 76 = .ok (.getfield 21, 3) := by decide +kernel
theorem d5_removeAt_79 : decode prog_7_method_4_code 79 = .ok (.iload_n 2, 1) := by decide +kernel
theorem d5_removeAt_80 : decode prog_7_method_4_code 80 = .ok (.aload_n 0, 1) := by decide +kernel
theorem d5_removeAt_81 : decode prog_7_method_4_code 81 = .ok (.getfield 21, 3) := by decide +kernel
theorem d5_removeAt_84 : decode prog_7_method_4_code 84 = .ok (.iload_n 2, 1) := by decide +kernel
theorem d5_removeAt_85 : decode prog_7_method_4_code 85 = .ok (.iconst 1, 1) := by decide +kernel
theorem d5_removeAt_86 : decode prog_7_method_4_code 86 = .ok (.iadd, 1) := by decide +kernel
theorem d5_removeAt_87 : decode prog_7_method_4_code 87 = .ok (.iaload, 1) := by decide +kernel
theorem d5_removeAt_88 : decode prog_7_method_4_code 88 = .ok (.iastore, 1) := by decide +kernel
theorem d5_removeAt_89 : decode prog_7_method_4_code 89 = .ok (.iinc 2 1, 3) := by decide +kernel
theorem d5_removeAt_92 : decode prog_7_method_4_code 92 = .ok (.goto (-67), 3) := by decide +kernel
theorem d5_removeAt_95 : decode prog_7_method_4_code 95 = .ok (.return_, 1) := by decide +kernel
theorem d5_worstResponse_0 : decode prog_7_method_5_code 0 = .ok (.iload_n 1, 1) := by decide +kernel
theorem d5_worstResponse_1 : decode prog_7_method_5_code 1 = .ok (.ifCond .lt 11, 3) := by decide +kernel
theorem d5_worstResponse_4 : decode prog_7_method_5_code 4 = .ok (.iload_n 1, 1) := by decide +kernel
theorem d5_worstResponse_5 : decode prog_7_method_5_code 5 = .ok (.aload_n 0, 1) := by decide +kernel
theorem d5_worstResponse_6 : decode prog_7_method_5_code 6 = .ok (.getfield 24, 3) := by decide +kernel
theorem d5_worstResponse_9 : decode prog_7_method_5_code 9 = .ok (.if_icmp .lt 6, 3) := by decide +kernel
theorem d5_worstResponse_12 : decode prog_7_method_5_code 12 = .ok (.bipush (-5), 2) := by decide +kernel
theorem d5_worstResponse_14 : decode prog_7_method_5_code 14 = .ok (.ireturn, 1) := by decide +kernel
theorem d5_worstResponse_15 : decode prog_7_method_5_code 15 = .ok (.aload_n 0, 1) := by decide +kernel
theorem d5_worstResponse_16 : decode prog_7_method_5_code 16 = .ok (.iload_n 1, 1) := by decide +kernel
theorem d5_worstResponse_17 : decode prog_7_method_5_code 17 = .ok (.invokevirtual 41, 3) := by decide +kernel
theorem d5_worstResponse_20 : decode prog_7_method_5_code 20 = .ok (.istore_n 2, 1) := by decide +kernel
theorem d5_worstResponse_21 : decode prog_7_method_5_code 21 = .ok (.iload_n 2, 1) := by decide +kernel
theorem d5_worstResponse_22 : decode prog_7_method_5_code 22 = .ok (.istore_n 3, 1) := by decide +kernel
theorem d5_worstResponse_23 : decode prog_7_method_5_code 23 = .ok (.iconst 0, 1) := by decide +kernel
theorem d5_worstResponse_24 : decode prog_7_method_5_code 24 = .ok (.istore 4, 2) := by decide +kernel
theorem d5_worstResponse_26 : decode prog_7_method_5_code 26 = .ok (.iload 4, 2) := by decide +kernel
theorem d5_worstResponse_28 : decode prog_7_method_5_code 28 = .ok (.sipush 10000, 3) := by decide +kernel
theorem d5_worstResponse_31 : decode prog_7_method_5_code 31 = .ok (.if_icmp .ge 67, 3) := by decide +kernel
theorem d5_worstResponse_34 : decode prog_7_method_5_code 34 = .ok (.aload_n 0, 1) := by decide +kernel
theorem d5_worstResponse_35 : decode prog_7_method_5_code 35 = .ok (.getfield 21, 3) := by decide +kernel
theorem d5_worstResponse_38 : decode prog_7_method_5_code 38 = .ok (.iload_n 1, 1) := by decide +kernel
theorem d5_worstResponse_39 : decode prog_7_method_5_code 39 = .ok (.iaload, 1) := by decide +kernel
theorem d5_worstResponse_40 : decode prog_7_method_5_code 40 = .ok (.iload_n 3, 1) := by decide +kernel
theorem d5_worstResponse_41 : decode prog_7_method_5_code 41 = .ok (.iadd, 1) := by decide +kernel
theorem d5_worstResponse_42 : decode prog_7_method_5_code 42 = .ok (.aload_n 0, 1) := by decide +kernel
theorem d5_worstResponse_43 : decode prog_7_method_5_code 43 = .ok (.getfield 15, 3) := by decide +kernel
theorem d5_worstResponse_46 : decode prog_7_method_5_code 46 = .ok (.iload_n 1, 1) := by decide +kernel
theorem d5_worstResponse_47 : decode prog_7_method_5_code 47 = .ok (.iaload, 1) := by decide +kernel
theorem d5_worstResponse_48 : decode prog_7_method_5_code 48 = .ok (.iadd, 1) := by decide +kernel
theorem d5_worstResponse_49 : decode prog_7_method_5_code 49 = .ok (.istore 5, 2) := by decide +kernel
theorem d5_worstResponse_51 : decode prog_7_method_5_code 51 = .ok (.iload 5, 2) := by decide +kernel
theorem d5_worstResponse_53 : decode prog_7_method_5_code 53 = .ok (.aload_n 0, 1) := by decide +kernel
theorem d5_worstResponse_54 : decode prog_7_method_5_code 54 = .ok (.getfield 18, 3) := by decide +kernel
theorem d5_worstResponse_57 : decode prog_7_method_5_code 57 = .ok (.iload_n 1, 1) := by decide +kernel
theorem d5_worstResponse_58 : decode prog_7_method_5_code 58 = .ok (.iaload, 1) := by decide +kernel
theorem d5_worstResponse_59 : decode prog_7_method_5_code 59 = .ok (.if_icmp .le 6, 3) := by decide +kernel
theorem d5_worstResponse_62 : decode prog_7_method_5_code 62 = .ok (.bipush (-5), 2) := by decide +kernel
theorem d5_worstResponse_64 : decode prog_7_method_5_code 64 = .ok (.ireturn, 1) := by decide +kernel
theorem d5_worstResponse_65 : decode prog_7_method_5_code 65 = .ok (.iload_n 2, 1) := by decide +kernel
theorem d5_worstResponse_66 : decode prog_7_method_5_code 66 = .ok (.aload_n 0, 1) := by decide +kernel
theorem d5_worstResponse_67 : decode prog_7_method_5_code 67 = .ok (.aload_n 0, 1) := by decide +kernel
theorem d5_worstResponse_68 : decode prog_7_method_5_code 68 = .ok (.getfield 11, 3) := by decide +kernel
theorem d5_worstResponse_71 : decode prog_7_method_5_code 71 = .ok (.iload_n 1, 1) := by decide +kernel
theorem d5_worstResponse_72 : decode prog_7_method_5_code 72 = .ok (.iaload, 1) := by decide +kernel
theorem d5_worstResponse_73 : decode prog_7_method_5_code 73 = .ok (.iload_n 3, 1) := by decide +kernel
theorem d5_worstResponse_74 : decode prog_7_method_5_code 74 = .ok (.invokevirtual 44, 3) := by decide +kernel
theorem d5_worstResponse_77 : decode prog_7_method_5_code 77 = .ok (.iadd, 1) := by decide +kernel
theorem d5_worstResponse_78 : decode prog_7_method_5_code 78 = .ok (.istore 6, 2) := by decide +kernel
theorem d5_worstResponse_80 : decode prog_7_method_5_code 80 = .ok (.iload 6, 2) := by decide +kernel
theorem d5_worstResponse_82 : decode prog_7_method_5_code 82 = .ok (.iload_n 3, 1) := by decide +kernel
theorem d5_worstResponse_83 : decode prog_7_method_5_code 83 = .ok (.if_icmp .ne 6, 3) := by decide +kernel
theorem d5_worstResponse_86 : decode prog_7_method_5_code 86 = .ok (.iload 5, 2) := by decide +kernel
theorem d5_worstResponse_88 : decode prog_7_method_5_code 88 = .ok (.ireturn, 1) := by decide +kernel
theorem d5_worstResponse_89 : decode prog_7_method_5_code 89 = .ok (.iload 6, 2) := by decide +kernel
theorem d5_worstResponse_91 : decode prog_7_method_5_code 91 = .ok (.istore_n 3, 1) := by decide +kernel
theorem d5_worstResponse_92 : decode prog_7_method_5_code 92 = .ok (.iinc 4 1, 3) := by decide +kernel
theorem d5_worstResponse_95 : decode prog_7_method_5_code 95 = .ok (.goto (-69), 3) := by decide +kernel
theorem d5_worstResponse_98 : decode prog_7_method_5_code 98 = .ok (.bipush (-5), 2) := by decide +kernel
theorem d5_worstResponse_100 : decode prog_7_method_5_code 100 = .ok (.ireturn, 1) := by decide +kernel
theorem d5_blockingOf_0 : decode prog_7_method_6_code 0 = .ok (.iconst 0, 1) := by decide +kernel
theorem d5_blockingOf_1 : decode prog_7_method_6_code 1 = .ok (.istore_n 2, 1) := by decide +kernel
theorem d5_blockingOf_2 : decode prog_7_method_6_code 2 = .ok (.iconst 0, 1) := by decide +kernel
theorem d5_blockingOf_3 : decode prog_7_method_6_code 3 = .ok (.istore_n 3, 1) := by decide +kernel
theorem d5_blockingOf_4 : decode prog_7_method_6_code 4 = .ok (.iload_n 3, 1) := by decide +kernel
theorem d5_blockingOf_5 : decode prog_7_method_6_code 5 = .ok (.aload_n 0, 1) := by decide +kernel
theorem d5_blockingOf_6 : decode prog_7_method_6_code 6 = .ok (.getfield 24, 3) := by decide +kernel
theorem d5_blockingOf_9 : decode prog_7_method_6_code 9 = .ok (.if_icmp .ge 35, 3) := by decide +kernel
theorem d5_blockingOf_12 : decode prog_7_method_6_code 12 = .ok (.aload_n 0, 1) := by decide +kernel
theorem d5_blockingOf_13 : decode prog_7_method_6_code 13 = .ok (.getfield 11, 3) := by decide +kernel
theorem d5_blockingOf_16 : decode prog_7_method_6_code 16 = .ok (.iload_n 3, 1) := by decide +kernel
theorem d5_blockingOf_17 : decode prog_7_method_6_code 17 = .ok (.iaload, 1) := by decide +kernel
theorem d5_blockingOf_18 : decode prog_7_method_6_code 18 = .ok (.aload_n 0, 1) := by decide +kernel
theorem d5_blockingOf_19 : decode prog_7_method_6_code 19 = .ok (.getfield 11, 3) := by decide +kernel
theorem d5_blockingOf_22 : decode prog_7_method_6_code 22 = .ok (.iload_n 1, 1) := by decide +kernel
theorem d5_blockingOf_23 : decode prog_7_method_6_code 23 = .ok (.iaload, 1) := by decide +kernel
theorem d5_blockingOf_24 : decode prog_7_method_6_code 24 = .ok (.if_icmp .le 14, 3) := by decide +kernel
theorem d5_blockingOf_27 : decode prog_7_method_6_code 27 = .ok (.iload_n 2, 1) := by decide +kernel
theorem d5_blockingOf_28 : decode prog_7_method_6_code 28 = .ok (.aload_n 0, 1) := by decide +kernel
theorem d5_blockingOf_29 : decode prog_7_method_6_code 29 = .ok (.getfield 15, 3) := by decide +kernel
theorem d5_blockingOf_32 : decode prog_7_method_6_code 32 = .ok (.iload_n 3, 1) := by decide +kernel
theorem d5_blockingOf_33 : decode prog_7_method_6_code 33 = .ok (.iaload, 1) := by decide +kernel
theorem d5_blockingOf_34 : decode prog_7_method_6_code 34 = .ok (.invokestatic 35, 3) := by decide +kernel
theorem d5_blockingOf_37 : decode prog_7_method_6_code 37 = .ok (.istore_n 2, 1) := by decide +kernel
theorem d5_blockingOf_38 : decode prog_7_method_6_code 38 = .ok (.iinc 3 1, 3) := by decide +kernel
theorem d5_blockingOf_41 : decode prog_7_method_6_code 41 = .ok (.goto (-37), 3) := by decide +kernel
theorem d5_blockingOf_44 : decode prog_7_method_6_code 44 = .ok (.iload_n 2, 1) := by decide +kernel
theorem d5_blockingOf_45 : decode prog_7_method_6_code 45 = .ok (.ireturn, 1) := by decide +kernel
theorem d5_interference_0 : decode prog_7_method_7_code 0 = .ok (.iconst 0, 1) := by decide +kernel
theorem d5_interference_1 : decode prog_7_method_7_code 1 = .ok (.istore_n 3, 1) := by decide +kernel
theorem d5_interference_2 : decode prog_7_method_7_code 2 = .ok (.iconst 0, 1) := by decide +kernel
theorem d5_interference_3 : decode prog_7_method_7_code 3 = .ok (.istore 4, 2) := by decide +kernel
theorem d5_interference_5 : decode prog_7_method_7_code 5 = .ok (.iload 4, 2) := by decide +kernel
theorem d5_interference_7 : decode prog_7_method_7_code 7 = .ok (.aload_n 0, 1) := by decide +kernel
theorem d5_interference_8 : decode prog_7_method_7_code 8 = .ok (.getfield 24, 3) := by decide +kernel
theorem d5_interference_11 : decode prog_7_method_7_code 11 = .ok (.if_icmp .ge 66, 3) := by decide +kernel
theorem d5_interference_14 : decode prog_7_method_7_code 14 = .ok (.aload_n 0, 1) := by decide +kernel
theorem d5_interference_15 : decode prog_7_method_7_code 15 = .ok (.getfield 11, 3) := by decide +kernel
theorem d5_interference_18 : decode prog_7_method_7_code 18 = .ok (.iload 4, 2) := by decide +kernel
theorem d5_interference_20 : decode prog_7_method_7_code 20 = .ok (.iaload, 1) := by decide +kernel
theorem d5_interference_21 : decode prog_7_method_7_code 21 = .ok (.iload_n 1, 1) := by decide +kernel
theorem d5_interference_22 : decode prog_7_method_7_code 22 = .ok (.if_icmp .ge 49, 3) := by decide +kernel
theorem d5_interference_25 : decode prog_7_method_7_code 25 = .ok (.aload_n 0, 1) := by decide +kernel
theorem d5_interference_26 : decode prog_7_method_7_code 26 = .ok (.getfield 18, 3) := by decide +kernel
theorem d5_interference_29 : decode prog_7_method_7_code 29 = .ok (.iload 4, 2) := by decide +kernel
theorem d5_interference_31 : decode prog_7_method_7_code 31 = .ok (.iaload, 1) := by decide +kernel
theorem d5_interference_32 : decode prog_7_method_7_code 32 = .ok (.ifCond .le 39, 3) := by decide +kernel
theorem d5_interference_35 : decode prog_7_method_7_code 35 = .ok (.iload_n 3, 1) := by decide +kernel
theorem d5_interference_36 : decode prog_7_method_7_code 36 = .ok (.aload_n 0, 1) := by decide +kernel
theorem d5_interference_37 : decode prog_7_method_7_code 37 = .ok (.getfield 15, 3) := by decide +kernel
theorem d5_interference_40 : decode prog_7_method_7_code 40 = .ok (.iload 4, 2) := by decide +kernel
theorem d5_interference_42 : decode prog_7_method_7_code 42 = .ok (.iaload, 1) := by decide +kernel
theorem d5_interference_43 : decode prog_7_method_7_code 43 = .ok (.iload_n 2, 1) := by decide +kernel
theorem d5_interference_44 : decode prog_7_method_7_code 44 = .ok (.aload_n 0, 1) := by decide +kernel
theorem d5_interference_45 : decode prog_7_method_7_code 45 = .ok (.getfield 21, 3) := by decide +kernel
theorem d5_interference_48 : decode prog_7_method_7_code 48 = .ok (.iload 4, 2) := by decide +kernel
theorem d5_interference_50 : decode prog_7_method_7_code 50 = .ok (.iaload, 1) := by decide +kernel
theorem d5_interference_51 : decode prog_7_method_7_code 51 = .ok (.iadd, 1) := by decide +kernel
theorem d5_interference_52 : decode prog_7_method_7_code 52 = .ok (.aload_n 0, 1) := by decide +kernel
theorem d5_interference_53 : decode prog_7_method_7_code 53 = .ok (.getfield 18, 3) := by decide +kernel
theorem d5_interference_56 : decode prog_7_method_7_code 56 = .ok (.iload 4, 2) := by decide +kernel
theorem d5_interference_58 : decode prog_7_method_7_code 58 = .ok (.iaload, 1) := by decide +kernel
theorem d5_interference_59 : decode prog_7_method_7_code 59 = .ok (.iadd, 1) := by decide +kernel
theorem d5_interference_60 : decode prog_7_method_7_code 60 = .ok (.aload_n 0, 1) := by decide +kernel
theorem d5_interference_61 : decode prog_7_method_7_code 61 = .ok (.getfield 18, 3) := by decide +kernel
theorem d5_interference_64 : decode prog_7_method_7_code 64 = .ok (.iload 4, 2) := by decide +kernel
theorem d5_interference_66 : decode prog_7_method_7_code 66 = .ok (.iaload, 1) := by decide +kernel
theorem d5_interference_67 : decode prog_7_method_7_code 67 = .ok (.idiv, 1) := by decide +kernel
theorem d5_interference_68 : decode prog_7_method_7_code 68 = .ok (.imul, 1) := by decide +kernel
theorem d5_interference_69 : decode prog_7_method_7_code 69 = .ok (.iadd, 1) := by decide +kernel
theorem d5_interference_70 : decode prog_7_method_7_code 70 = .ok (.istore_n 3, 1) := by decide +kernel
theorem d5_interference_71 : decode prog_7_method_7_code 71 = .ok (.iinc 4 1, 3) := by decide +kernel
theorem d5_interference_74 : decode prog_7_method_7_code 74 = .ok (.goto (-69), 3) := by decide +kernel
theorem d5_interference_77 : decode prog_7_method_7_code 77 = .ok (.iload_n 3, 1) := by decide +kernel
theorem d5_interference_78 : decode prog_7_method_7_code 78 = .ok (.ireturn, 1) := by decide +kernel
theorem d6_init_0 : decode prog_8_method_1_code 0 = .ok (.aload_n 0, 1) := by decide +kernel
theorem d6_init_1 : decode prog_8_method_1_code 1 = .ok (.invokespecial 3, 3) := by decide +kernel
theorem d6_init_4 : decode prog_8_method_1_code 4 = .ok (.aload_n 0, 1) := by decide +kernel
theorem d6_init_5 : decode prog_8_method_1_code 5 = .ok (.new 9, 3) := by decide +kernel
theorem d6_init_8 : decode prog_8_method_1_code 8 = .ok (.dup, 1) := by decide +kernel
theorem d6_init_9 : decode prog_8_method_1_code 9 = .ok (.invokespecial 11, 3) := by decide +kernel
theorem d6_init_12 : decode prog_8_method_1_code 12 = .ok (.putfield 12, 3) := by decide +kernel
theorem d6_init_15 : decode prog_8_method_1_code 15 = .ok (.aload_n 0, 1) := by decide +kernel
theorem d6_init_16 : decode prog_8_method_1_code 16 = .ok (.new 18, 3) := by decide +kernel
theorem d6_init_19 : decode prog_8_method_1_code 19 = .ok (.dup, 1) := by decide +kernel
theorem d6_init_20 : decode prog_8_method_1_code 20 = .ok (.iconst 4, 1) := by decide +kernel
theorem d6_init_21 : decode prog_8_method_1_code 21 = .ok (.invokespecial 20, 3) := by decide +kernel
theorem d6_init_24 : decode prog_8_method_1_code 24 = .ok (.putfield 23, 3) := by decide +kernel
theorem d6_init_27 : decode prog_8_method_1_code 27 = .ok (.aload_n 0, 1) := by decide +kernel
theorem d6_init_28 : decode prog_8_method_1_code 28 = .ok (.new 18, 3) := by decide +kernel
theorem d6_init_31 : decode prog_8_method_1_code 31 = .ok (.dup, 1) := by decide +kernel
theorem d6_init_32 : decode prog_8_method_1_code 32 = .ok (.bipush 6, 2) := by decide +kernel
theorem d6_init_34 : decode prog_8_method_1_code 34 = .ok (.invokespecial 20, 3) := by decide +kernel
theorem d6_init_37 : decode prog_8_method_1_code 37 = .ok (.putfield 27, 3) := by decide +kernel
theorem d6_init_40 : decode prog_8_method_1_code 40 = .ok (.aload_n 0, 1) := by decide +kernel
theorem d6_init_41 : decode prog_8_method_1_code 41 = .ok (.new 18, 3) := by decide +kernel
theorem d6_init_44 : decode prog_8_method_1_code 44 = .ok (.dup, 1) := by decide +kernel
theorem d6_init_45 : decode prog_8_method_1_code 45 = .ok (.iconst 4, 1) := by decide +kernel
theorem d6_init_46 : decode prog_8_method_1_code 46 = .ok (.invokespecial 20, 3) := by decide +kernel
theorem d6_init_49 : decode prog_8_method_1_code 49 = .ok (.putfield 30, 3) := by decide +kernel
theorem d6_init_52 : decode prog_8_method_1_code 52 = .ok (.aload_n 0, 1) := by decide +kernel
theorem d6_init_53 : decode prog_8_method_1_code 53 = .ok (.new 33, 3) := by decide +kernel
theorem d6_init_56 : decode prog_8_method_1_code 56 = .ok (.dup, 1) := by decide +kernel
theorem d6_init_57 : decode prog_8_method_1_code 57 = .ok (.invokespecial 35, 3) := by decide +kernel
theorem d6_init_60 : decode prog_8_method_1_code 60 = .ok (.putfield 36, 3) := by decide +kernel
theorem d6_init_63 : decode prog_8_method_1_code 63 = .ok (.aload_n 0, 1) := by decide +kernel
theorem d6_init_64 : decode prog_8_method_1_code 64 = .ok (.iconst 3, 1) := by decide +kernel
theorem d6_init_65 : decode prog_8_method_1_code 65 = .ok (.putfield 40, 3) := by decide +kernel
theorem d6_init_68 : decode prog_8_method_1_code 68 = .ok (.aload_n 0, 1) := by decide +kernel
theorem d6_init_69 : decode prog_8_method_1_code 69 = .ok (.iconst 1, 1) := by decide +kernel
theorem d6_init_70 : decode prog_8_method_1_code 70 = .ok (.putfield 44, 3) := by decide +kernel
theorem d6_init_73 : decode prog_8_method_1_code 73 = .ok (.aload_n 0, 1) := by decide +kernel
theorem d6_init_74 : decode prog_8_method_1_code 74 = .ok (.iconst (-1), 1) := by decide +kernel
theorem d6_init_75 : decode prog_8_method_1_code 75 = .ok (.putfield 47, 3) := by decide +kernel
theorem d6_init_78 : decode prog_8_method_1_code 78 = .ok (.aload_n 0, 1) := by decide +kernel
theorem d6_init_79 : decode prog_8_method_1_code 79 = .ok (.aload_n 1, 1) := by decide +kernel
theorem d6_init_80 : decode prog_8_method_1_code 80 = .ok (.putfield 50, 3) := by decide +kernel
theorem d6_init_83 : decode prog_8_method_1_code 83 = .ok (.return_, 1) := by decide +kernel
theorem d6_copyFrom_0 : decode prog_8_method_2_code 0 = .ok (.aload_n 0, 1) := by decide +kernel
theorem d6_copyFrom_1 : decode prog_8_method_2_code 1 = .ok (.getfield 12, 3) := by decide +kernel
theorem d6_copyFrom_4 : decode prog_8_method_2_code 4 = .ok (.aload_n 1, 1) := by decide +kernel
theorem d6_copyFrom_5 : decode prog_8_method_2_code 5 = .ok (.getfield 12, 3) := by decide +kernel
theorem d6_copyFrom_8 : decode prog_8_method_2_code 8 = .ok (.invokevirtual 54, 3) := by decide +kernel
theorem d6_copyFrom_11 : decode prog_8_method_2_code 11 = .ok (.aload_n 0, 1) := by decide +kernel
theorem d6_copyFrom_12 : decode prog_8_method_2_code 12 = .ok (.getfield 23, 3) := by decide +kernel
theorem d6_copyFrom_15 : decode prog_8_method_2_code 15 = .ok (.aload_n 1, 1) := by decide +kernel
theorem d6_copyFrom_16 : decode prog_8_method_2_code 16 = .ok (.getfield 23, 3) := by decide +kernel
theorem d6_copyFrom_19 : decode prog_8_method_2_code 19 = .ok (.invokevirtual 58, 3) := by decide +kernel
theorem d6_copyFrom_22 : decode prog_8_method_2_code 22 = .ok (.aload_n 0, 1) := by decide +kernel
theorem d6_copyFrom_23 : decode prog_8_method_2_code 23 = .ok (.getfield 27, 3) := by decide +kernel
theorem d6_copyFrom_26 : decode prog_8_method_2_code 26 = .ok (.aload_n 1, 1) := by decide +kernel
theorem d6_copyFrom_27 : decode prog_8_method_2_code 27 = .ok (.getfield 27, 3) := by decide +kernel
theorem d6_copyFrom_30 : decode prog_8_method_2_code 30 = .ok (.invokevirtual 58, 3) := by decide +kernel
theorem d6_copyFrom_33 : decode prog_8_method_2_code 33 = .ok (.aload_n 0, 1) := by decide +kernel
theorem d6_copyFrom_34 : decode prog_8_method_2_code 34 = .ok (.getfield 30, 3) := by decide +kernel
theorem d6_copyFrom_37 : decode prog_8_method_2_code 37 = .ok (.aload_n 1, 1) := by decide +kernel
theorem d6_copyFrom_38 : decode prog_8_method_2_code 38 = .ok (.getfield 30, 3) := by decide +kernel
theorem d6_copyFrom_41 : decode prog_8_method_2_code 41 = .ok (.invokevirtual 58, 3) := by decide +kernel
theorem d6_copyFrom_44 : decode prog_8_method_2_code 44 = .ok (.aload_n 0, 1) := by decide +kernel
theorem d6_copyFrom_45 : decode prog_8_method_2_code 45 = .ok (.getfield 36, 3) := by decide +kernel
theorem d6_copyFrom_48 : decode prog_8_method_2_code 48 = .ok (.aload_n 1, 1) := by decide +kernel
theorem d6_copyFrom_49 : decode prog_8_method_2_code 49 = .ok (.getfield 36, 3) := by decide +kernel
theorem d6_copyFrom_52 : decode prog_8_method_2_code 52 = .ok (.invokevirtual 61, 3) := by decide +kernel
theorem d6_copyFrom_55 : decode prog_8_method_2_code 55 = .ok (.aload_n 0, 1) := by decide +kernel
theorem d6_copyFrom_56 : decode prog_8_method_2_code 56 = .ok (.aload_n 1, 1) := by decide +kernel
theorem d6_copyFrom_57 : decode prog_8_method_2_code 57 = .ok (.getfield 64, 3) := by decide +kernel
theorem d6_copyFrom_60 : decode prog_8_method_2_code 60 = .ok (.putfield 64, 3) := by decide +kernel
theorem d6_copyFrom_63 : decode prog_8_method_2_code 63 = .ok (.aload_n 0, 1) := by decide +kernel
theorem d6_copyFrom_64 : decode prog_8_method_2_code 64 = .ok (.aload_n 1, 1) := by decide +kernel
theorem d6_copyFrom_65 : decode prog_8_method_2_code 65 = .ok (.getfield 67, 3) := by decide +kernel
theorem d6_copyFrom_68 : decode prog_8_method_2_code 68 = .ok (.putfield 67, 3) := by decide +kernel
theorem d6_copyFrom_71 : decode prog_8_method_2_code 71 = .ok (.aload_n 0, 1) := by decide +kernel
theorem d6_copyFrom_72 : decode prog_8_method_2_code 72 = .ok (.aload_n 1, 1) := by decide +kernel
theorem d6_copyFrom_73 : decode prog_8_method_2_code 73 = .ok (.getfield 40, 3) := by decide +kernel
theorem d6_copyFrom_76 : decode prog_8_method_2_code 76 = .ok (.putfield 40, 3) := by decide +kernel
theorem d6_copyFrom_79 : decode prog_8_method_2_code 79 = .ok (.aload_n 0, 1) := by decide +kernel
theorem d6_copyFrom_80 : decode prog_8_method_2_code 80 = .ok (.aload_n 1, 1) := by decide +kernel
theorem d6_copyFrom_81 : decode prog_8_method_2_code 81 = .ok (.getfield 70, 3) := by decide +kernel
theorem d6_copyFrom_84 : decode prog_8_method_2_code 84 = .ok (.putfield 70, 3) := by decide +kernel
theorem d6_copyFrom_87 : decode prog_8_method_2_code 87 = .ok (.aload_n 0, 1) := by decide +kernel
theorem d6_copyFrom_88 : decode prog_8_method_2_code 88 = .ok (.aload_n 1, 1) := by decide +kernel
theorem d6_copyFrom_89 : decode prog_8_method_2_code 89 = .ok (.getfield 74, 3) := by decide +kernel
theorem d6_copyFrom_92 : decode prog_8_method_2_code 92 = .ok (.putfield 74, 3) := by decide +kernel
theorem d6_copyFrom_95 : decode prog_8_method_2_code 95 = .ok (.aload_n 0, 1) := by decide +kernel
theorem d6_copyFrom_96 : decode prog_8_method_2_code 96 = .ok (.aload_n 1, 1) := by decide +kernel
theorem d6_copyFrom_97 : decode prog_8_method_2_code 97 = .ok (.getfield 77, 3) := by decide +kernel
theorem d6_copyFrom_100 : decode prog_8_method_2_code 100 = .ok (.putfield 77, 3) := by decide +kernel
theorem d6_copyFrom_103 : decode prog_8_method_2_code 103 = .ok (.aload_n 0, 1) := by decide +kernel
theorem d6_copyFrom_104 : decode prog_8_method_2_code 104 = .ok (.aload_n 1, 1) := by decide +kernel
theorem d6_copyFrom_105 : decode prog_8_method_2_code 105 = .ok (.getfield 80, 3) := by decide +kernel
theorem d6_copyFrom_108 : decode prog_8_method_2_code 108 = .ok (.putfield 80, 3) := by decide +kernel
theorem d6_copyFrom_111 : decode prog_8_method_2_code 111 = .ok (.aload_n 0, 1) := by decide +kernel
theorem d6_copyFrom_112 : decode prog_8_method_2_code 112 = .ok (.aload_n 1, 1) := by decide +kernel
theorem d6_copyFrom_113 : decode prog_8_method_2_code 113 = .ok (.getfield 83, 3) := by decide +kernel
theorem d6_copyFrom_116 : decode prog_8_method_2_code 116 = .ok (.putfield 83, 3) := by decide +kernel
theorem d6_copyFrom_119 : decode prog_8_method_2_code 119 = .ok (.aload_n 0, 1) := by decide +kernel
theorem d6_copyFrom_120 : decode prog_8_method_2_code 120 = .ok (.aload_n 1, 1) := by decide +kernel
theorem d6_copyFrom_121 : decode prog_8_method_2_code 121 = .ok (.getfield 86, 3) := by decide +kernel
theorem d6_copyFrom_124 : decode prog_8_method_2_code 124 = .ok (.putfield 86, 3) := by decide +kernel
theorem d6_copyFrom_127 : decode prog_8_method_2_code 127 = .ok (.aload_n 0, 1) := by decide +kernel
theorem d6_copyFrom_128 : decode prog_8_method_2_code 128 = .ok (.aload_n 1, 1) := by decide +kernel
theorem d6_copyFrom_129 : decode prog_8_method_2_code 129 = .ok (.getfield 89, 3) := by decide +kernel
theorem d6_copyFrom_132 : decode prog_8_method_2_code 132 = .ok (.putfield 89, 3) := by decide +kernel
theorem d6_copyFrom_135 : decode prog_8_method_2_code 135 = .ok (.aload_n 0, 1) := by decide +kernel
theorem d6_copyFrom_136 : decode prog_8_method_2_code 136 = .ok (.aload_n 1, 1) := by decide +kernel
theorem d6_copyFrom_137 : decode prog_8_method_2_code 137 = .ok (.getfield 44, 3) := by decide +kernel
theorem d6_copyFrom_140 : decode prog_8_method_2_code 140 = .ok (.putfield 44, 3) := by decide +kernel
theorem d6_copyFrom_143 : decode prog_8_method_2_code 143 = .ok (.aload_n 0, 1) := by decide +kernel
theorem d6_copyFrom_144 : decode prog_8_method_2_code 144 = .ok (.aload_n 1, 1) := by decide +kernel
theorem d6_copyFrom_145 : decode prog_8_method_2_code 145 = .ok (.getfield 47, 3) := by decide +kernel
theorem d6_copyFrom_148 : decode prog_8_method_2_code 148 = .ok (.putfield 47, 3) := by decide +kernel
theorem d6_copyFrom_151 : decode prog_8_method_2_code 151 = .ok (.aload_n 0, 1) := by decide +kernel
theorem d6_copyFrom_152 : decode prog_8_method_2_code 152 = .ok (.aload_n 1, 1) := by decide +kernel
theorem d6_copyFrom_153 : decode prog_8_method_2_code 153 = .ok (.getfield 92, 3) := by decide +kernel
theorem d6_copyFrom_156 : decode prog_8_method_2_code 156 = .ok (.putfield 92, 3) := by decide +kernel
theorem d6_copyFrom_159 : decode prog_8_method_2_code 159 = .ok (.return_, 1) := by decide +kernel
theorem d6_takesPart_0 : decode prog_8_method_3_code 0 = .ok (.aload_n 0, 1) := by decide +kernel
theorem d6_takesPart_1 : decode prog_8_method_3_code 1 = .ok (.getfield 40, 3) := by decide +kernel
theorem d6_takesPart_4 : decode prog_8_method_3_code 4 = .ok (.ifCond .eq 15, 3) := by decide +kernel
theorem d6_takesPart_7 : decode prog_8_method_3_code 7 = .ok (.aload_n 0, 1) := by decide +kernel
theorem d6_takesPart_8 : decode prog_8_method_3_code 8 = .ok (.getfield 40, 3) := by decide +kernel
theorem d6_takesPart_11 : decode prog_8_method_3_code 11 = .ok (.iconst 1, 1) := by decide +kernel
theorem d6_takesPart_12 : decode prog_8_method_3_code 12 = .ok (.if_icmp .eq 7, 3) := by decide +kernel
theorem d6_takesPart_15 : decode prog_8_method_3_code 15 = .ok (.iconst 1, 1) := by decide +kernel
theorem d6_takesPart_16 : decode prog_8_method_3_code 16 = .ok (.goto 4, 3) := by decide +kernel
theorem d6_takesPart_19 : decode prog_8_method_3_code 19 = .ok (.iconst 0, 1) := by decide +kernel
theorem d6_takesPart_20 : decode prog_8_method_3_code 20 = .ok (.ireturn, 1) := by decide +kernel
theorem d6_isErrorPassive_0 : decode prog_8_method_4_code 0 = .ok (.aload_n 0, 1) := by decide +kernel
theorem d6_isErrorPassive_1 : decode prog_8_method_4_code 1 = .ok (.getfield 74, 3) := by decide +kernel
theorem d6_isErrorPassive_4 : decode prog_8_method_4_code 4 = .ok (.aload_n 0, 1) := by decide +kernel
theorem d6_isErrorPassive_5 : decode prog_8_method_4_code 5 = .ok (.getfield 50, 3) := by decide +kernel
theorem d6_isErrorPassive_8 : decode prog_8_method_4_code 8 = .ok (.getfield 96, 3) := by decide +kernel
theorem d6_isErrorPassive_11 : decode prog_8_method_4_code 11 = .ok (.if_icmp .ge 17, 3) := by decide +kernel
theorem d6_isErrorPassive_14 : decode prog_8_method_4_code 14 = .ok (.aload_n 0, 1) := by decide +kernel
theorem d6_isErrorPassive_15 : decode prog_8_method_4_code 15 = .ok (.getfield 77, 3) := by decide +kernel
theorem d6_isErrorPassive_18 : decode prog_8_method_4_code 18 = .ok (.aload_n 0, 1) := by decide +kernel
theorem d6_isErrorPassive_19 : decode prog_8_method_4_code 19 = .ok (.getfield 50, 3) := by decide +kernel
theorem d6_isErrorPassive_22 : decode prog_8_method_4_code 22 = .ok (.getfield 96, 3) := by decide +kernel
theorem d6_isErrorPassive_25 : decode prog_8_method_4_code 25 = .ok (.if_icmp .lt 7, 3) := by decide +kernel
theorem d6_isErrorPassive_28 : decode prog_8_method_4_code 28 = .ok (.iconst 1, 1) := by decide +kernel
theorem d6_isErrorPassive_29 : decode prog_8_method_4_code 29 = .ok (.goto 4, 3) := by decide +kernel
theorem d6_isErrorPassive_32 : decode prog_8_method_4_code 32 = .ok (.iconst 0, 1) := by decide +kernel
theorem d6_isErrorPassive_33 : decode prog_8_method_4_code 33 = .ok (.ireturn, 1) := by decide +kernel
theorem d6_enqueue_0 : decode prog_8_method_5_code 0 = .ok (.aload_n 0, 1) := by decide +kernel
theorem d6_enqueue_1 : decode prog_8_method_5_code 1 = .ok (.getfield 23, 3) := by decide +kernel
theorem d6_enqueue_4 : decode prog_8_method_5_code 4 = .ok (.invokevirtual 101, 3) := by decide +kernel
theorem d6_enqueue_7 : decode prog_8_method_5_code 7 = .ok (.ifCond .eq 5, 3) := by decide +kernel
theorem d6_enqueue_10 : decode prog_8_method_5_code 10 = .ok (.iconst 0, 1) := by decide +kernel
theorem d6_enqueue_11 : decode prog_8_method_5_code 11 = .ok (.ireturn, 1) := by decide +kernel
theorem d6_enqueue_12 : decode prog_8_method_5_code 12 = .ok (.aload_n 0, 1) := by decide +kernel
theorem d6_enqueue_13 : decode prog_8_method_5_code 13 = .ok (.getfield 23, 3) := by decide +kernel
theorem d6_enqueue_16 : decode prog_8_method_5_code 16 = .ok (.iload_n 1, 1) := by decide +kernel
theorem d6_enqueue_17 : decode prog_8_method_5_code 17 = .ok (.invokevirtual 105, 3) := by decide +kernel
theorem d6_enqueue_20 : decode prog_8_method_5_code 20 = .ok (.istore 4, 2) := by decide +kernel
theorem d6_enqueue_22 : decode prog_8_method_5_code 22 = .ok (.aload_n 0, 1) := by decide +kernel
theorem d6_enqueue_23 : decode prog_8_method_5_code 23 = .ok (.getfield 23, 3) := by decide +kernel
theorem d6_enqueue_26 : decode prog_8_method_5_code 26 = .ok (.iload 4, 2) := by decide +kernel
theorem d6_enqueue_28 : decode prog_8_method_5_code 28 = .ok (.iload_n 1, 1) := by decide +kernel
theorem d6_enqueue_29 : decode prog_8_method_5_code 29 = .ok (.iload_n 2, 1) := by decide +kernel
theorem d6_enqueue_30 : decode prog_8_method_5_code 30 = .ok (.iload_n 3, 1) := by decide +kernel
theorem d6_enqueue_31 : decode prog_8_method_5_code 31 = .ok (.invokevirtual 109, 3) := by decide +kernel
theorem d6_enqueue_34 : decode prog_8_method_5_code 34 = .ok (.iload 4, 2) := by decide +kernel
theorem d6_enqueue_36 : decode prog_8_method_5_code 36 = .ok (.aload_n 0, 1) := by decide +kernel
theorem d6_enqueue_37 : decode prog_8_method_5_code 37 = .ok (.getfield 47, 3) := by decide +kernel
theorem d6_enqueue_40 : decode prog_8_method_5_code 40 = .ok (.if_icmp .gt 13, 3) := by decide +kernel
theorem d6_enqueue_43 : decode prog_8_method_5_code 43 = .ok (.aload_n 0, 1) := by decide +kernel
theorem d6_enqueue_44 : decode prog_8_method_5_code 44 = .ok (.dup, 1) := by decide +kernel
theorem d6_enqueue_45 : decode prog_8_method_5_code 45 = .ok (.getfield 47, 3) := by decide +kernel
theorem d6_enqueue_48 : decode prog_8_method_5_code 48 = .ok (.iconst 1, 1) := by decide +kernel
theorem d6_enqueue_49 : decode prog_8_method_5_code 49 = .ok (.iadd, 1) := by decide +kernel
theorem d6_enqueue_50 : decode prog_8_method_5_code 50 = .ok (.putfield 47, 3) := by decide +kernel
theorem d6_enqueue_53 : decode prog_8_method_5_code 53 = .ok (.iconst 1, 1) := by decide +kernel
theorem d6_enqueue_54 : decode prog_8_method_5_code 54 = .ok (.ireturn, 1) := by decide +kernel
theorem d6_withdraw_0 : decode prog_8_method_6_code 0 = .ok (.iconst 0, 1) := by decide +kernel
theorem d6_withdraw_1 : decode prog_8_method_6_code 1 = .ok (.istore_n 2, 1) := by decide +kernel
theorem d6_withdraw_2 : decode prog_8_method_6_code 2 = .ok (.aload_n 0, 1) := by decide +kernel
theorem d6_withdraw_3 : decode prog_8_method_6_code 3 = .ok (.getfield 23, 3) := by decide +kernel
theorem d6_withdraw_6 : decode prog_8_method_6_code 6 = .ok (.getfield 113, 3) := by decide +kernel
theorem d6_withdraw_9 : decode prog_8_method_6_code 9 = .ok (.iconst 1, 1) := by decide +kernel
theorem d6_withdraw_10 : decode prog_8_method_6_code 10 = .ok (.isub, 1) := by decide +kernel
theorem d6_withdraw_11 : decode prog_8_method_6_code 11 = .ok (.istore_n 3, 1) := by decide +kernel
theorem d6_withdraw_12 : decode prog_8_method_6_code 12 = .ok (.iload_n 3, 1) := by decide +kernel
theorem d6_withdraw_13 : decode prog_8_method_6_code 13 = .ok (.ifCond .lt 63, 3) := by decide +kernel
theorem d6_withdraw_16 : decode prog_8_method_6_code 16 = .ok (.iload_n 3, 1) := by decide +kernel
theorem d6_withdraw_17 : decode prog_8_method_6_code 17 = .ok (.aload_n 0, 1) := by decide +kernel
theorem d6_withdraw_18 : decode prog_8_method_6_code 18 = .ok (.getfield 47, 3) := by decide +kernel
theorem d6_withdraw_21 : decode prog_8_method_6_code 21 = .ok (.if_icmp .eq 49, 3) := by decide +kernel
theorem d6_withdraw_24 : decode prog_8_method_6_code 24 = .ok (.aload_n 0, 1) := by decide +kernel
theorem d6_withdraw_25 : decode prog_8_method_6_code 25 = .ok (.getfield 23, 3) := by decide +kernel
theorem d6_withdraw_28 : decode prog_8_method_6_code 28 = .ok (.iload_n 3, 1) := by decide +kernel
theorem d6_withdraw_29 : decode prog_8_method_6_code 29 = .ok (.invokevirtual 116, 3) := by decide +kernel
theorem d6_withdraw_32 : decode prog_8_method_6_code 32 = .ok (.iconst 1, 1) := by decide +kernel
theorem d6_withdraw_33 : decode prog_8_method_6_code 33 = .ok (.ishr, 1) := by decide +kernel
theorem d6_withdraw_34 : decode prog_8_method_6_code 34 = .ok (.iload_n 1, 1) := by decide +kernel
theorem d6_withdraw_35 : decode prog_8_method_6_code 35 = .ok (.if_icmp .eq 6, 3) := by decide +kernel
theorem d6_withdraw_38 : decode prog_8_method_6_code 38 = .ok (.goto 32, 3) := by decide +kernel
theorem d6_withdraw_41 : decode prog_8_method_6_code 41 = .ok (.aload_n 0, 1) := by decide +kernel
theorem d6_withdraw_42 : decode prog_8_method_6_code 42 = .ok (.getfield 23, 3) := by decide +kernel
theorem d6_withdraw_45 : decode prog_8_method_6_code 45 = .ok (.iload_n 3, 1) := by decide +kernel
theorem d6_withdraw_46 : decode prog_8_method_6_code 46 = .ok (.invokevirtual 119, 3) := by decide +kernel
theorem d6_withdraw_49 : decode prog_8_method_6_code 49 = .ok (.iinc 2 1, 3) := by decide +kernel
theorem d6_withdraw_52 : decode prog_8_method_6_code 52 = .ok (.iload_n 3, 1) := by decide +kernel
theorem d6_withdraw_53 : decode prog_8_method_6_code 53 = .ok (.aload_n 0, 1) := by decide +kernel
theorem d6_withdraw_54 : decode prog_8_method_6_code 54 = .ok (.getfield 47, 3) := by decide +kernel
theorem d6_withdraw_57 : decode prog_8_method_6_code 57 = .ok (.if_icmp .ge 13, 3) := by decide +kernel
theorem d6_withdraw_60 : decode prog_8_method_6_code 60 = .ok (.aload_n 0, 1) := by decide +kernel
theorem d6_withdraw_61 : decode prog_8_method_6_code 61 = .ok (.dup, 1) := by decide +kernel
theorem d6_withdraw_62 : decode prog_8_method_6_code 62 = .ok (.getfield 47, 3) := by decide +kernel
theorem d6_withdraw_65 : decode prog_8_method_6_code 65 = .ok (.iconst 1, 1) := by decide +kernel
theorem d6_withdraw_66 : decode prog_8_method_6_code 66 = .ok (.isub, 1) := by decide +kernel
theorem d6_withdraw_67 : decode prog_8_method_6_code 67 = .ok (.putfield 47, 3) := by decide +kernel
theorem d6_withdraw_70 : decode prog_8_method_6_code 70 = .ok (.iinc 3 (-1), 3) := by decide +kernel
theorem d6_withdraw_73 : decode prog_8_method_6_code 73 = .ok (.goto (-61), 3) := by decide +kernel
theorem d6_withdraw_76 : decode prog_8_method_6_code 76 = .ok (.iload_n 2, 1) := by decide +kernel
theorem d6_withdraw_77 : decode prog_8_method_6_code 77 = .ok (.ireturn, 1) := by decide +kernel
theorem d6_enter_0 : decode prog_8_method_7_code 0 = .ok (.aload_n 0, 1) := by decide +kernel
theorem d6_enter_1 : decode prog_8_method_7_code 1 = .ok (.iload_n 1, 1) := by decide +kernel
theorem d6_enter_2 : decode prog_8_method_7_code 2 = .ok (.putfield 40, 3) := by decide +kernel
theorem d6_enter_5 : decode prog_8_method_7_code 5 = .ok (.aload_n 0, 1) := by decide +kernel
theorem d6_enter_6 : decode prog_8_method_7_code 6 = .ok (.iconst 0, 1) := by decide +kernel
theorem d6_enter_7 : decode prog_8_method_7_code 7 = .ok (.putfield 80, 3) := by decide +kernel
theorem d6_enter_10 : decode prog_8_method_7_code 10 = .ok (.aload_n 0, 1) := by decide +kernel
theorem d6_enter_11 : decode prog_8_method_7_code 11 = .ok (.iconst 0, 1) := by decide +kernel
theorem d6_enter_12 : decode prog_8_method_7_code 12 = .ok (.putfield 83, 3) := by decide +kernel
theorem d6_enter_15 : decode prog_8_method_7_code 15 = .ok (.aload_n 0, 1) := by decide +kernel
theorem d6_enter_16 : decode prog_8_method_7_code 16 = .ok (.iconst (-1), 1) := by decide +kernel
theorem d6_enter_17 : decode prog_8_method_7_code 17 = .ok (.putfield 47, 3) := by decide +kernel
theorem d6_enter_20 : decode prog_8_method_7_code 20 = .ok (.iload_n 1, 1) := by decide +kernel
theorem d6_enter_21 : decode prog_8_method_7_code 21 = .ok (.iconst 4, 1) := by decide +kernel
theorem d6_enter_22 : decode prog_8_method_7_code 22 = .ok (.if_icmp .lt 9, 3) := by decide +kernel
theorem d6_enter_25 : decode prog_8_method_7_code 25 = .ok (.iload_n 1, 1) := by decide +kernel
theorem d6_enter_26 : decode prog_8_method_7_code 26 = .ok (.bipush 8, 2) := by decide +kernel
theorem d6_enter_28 : decode prog_8_method_7_code 28 = .ok (.if_icmp .le 8, 3) := by decide +kernel
theorem d6_enter_31 : decode prog_8_method_7_code 31 = .ok (.aload_n 0, 1) := by decide +kernel
theorem d6_enter_32 : decode prog_8_method_7_code 32 = .ok (.iconst 0, 1) := by decide +kernel
theorem d6_enter_33 : decode prog_8_method_7_code 33 = .ok (.putfield 70, 3) := by decide +kernel
theorem d6_enter_36 : decode prog_8_method_7_code 36 = .ok (.iload_n 1, 1) := by decide +kernel
theorem d6_enter_37 : decode prog_8_method_7_code 37 = .ok (.bipush 6, 2) := by decide +kernel
theorem d6_enter_39 : decode prog_8_method_7_code 39 = .ok (.if_icmp .ne 16, 3) := by decide +kernel
theorem d6_enter_42 : decode prog_8_method_7_code 42 = .ok (.aload_n 0, 1) := by decide +kernel
theorem d6_enter_43 : decode prog_8_method_7_code 43 = .ok (.getfield 12, 3) := by decide +kernel
theorem d6_enter_46 : decode prog_8_method_7_code 46 = .ok (.dup, 1) := by decide +kernel
theorem d6_enter_47 : decode prog_8_method_7_code 47 = .ok (.getfield 122, 3) := by decide +kernel
theorem d6_enter_50 : decode prog_8_method_7_code 50 = .ok (.iconst 1, 1) := by decide +kernel
theorem d6_enter_51 : decode prog_8_method_7_code 51 = .ok (.iadd, 1) := by decide +kernel
theorem d6_enter_52 : decode prog_8_method_7_code 52 = .ok (.putfield 122, 3) := by decide +kernel
theorem d6_enter_55 : decode prog_8_method_7_code 55 = .ok (.return_, 1) := by decide +kernel
theorem d6_drive_0 : decode prog_8_method_8_code 0 = .ok (.aload_n 0, 1) := by decide +kernel
theorem d6_drive_1 : decode prog_8_method_8_code 1 = .ok (.aload_n 0, 1) := by decide +kernel
theorem d6_drive_2 : decode prog_8_method_8_code 2 = .ok (.invokevirtual 125, 3) := by decide +kernel
theorem d6_drive_5 : decode prog_8_method_8_code 5 = .ok (.putfield 44, 3) := by decide +kernel
theorem d6_drive_8 : decode prog_8_method_8_code 8 = .ok (.aload_n 0, 1) := by decide +kernel
theorem d6_drive_9 : decode prog_8_method_8_code 9 = .ok (.getfield 44, 3) := by decide +kernel
theorem d6_drive_12 : decode prog_8_method_8_code 12 = .ok (.ireturn, 1) := by decide +kernel
theorem d6_levelToDrive_0 : decode prog_8_method_9_code 0 = .ok (.aload_n 0, 1) := by decide +kernel
theorem d6_levelToDrive_1 : decode prog_8_method_9_code 1 = .ok (.getfield 40, 3) := by decide +kernel
theorem d6_levelToDrive_4 : decode prog_8_method_9_code 4 = .ok (.tableswitch 92 3 6 #[32, 48, 77, 90], 32) := by decide +kernel
theorem d6_levelToDrive_36 : decode prog_8_method_9_code 36 = .ok (.aload_n 0, 1) := by decide +kernel
theorem d6_levelToDrive_37 : decode prog_8_method_9_code 37 = .ok (.getfield 23, 3) := by decide +kernel
theorem d6_levelToDrive_40 : decode prog_8_method_9_code 40 = .ok (.getfield 113, 3) := by decide +kernel
theorem d6_levelToDrive_43 : decode prog_8_method_9_code 43 = .ok (.ifCond .le 7, 3) := by decide +kernel
theorem d6_levelToDrive_46 : decode prog_8_method_9_code 46 = .ok (.iconst 0, 1) := by decide +kernel
theorem d6_levelToDrive_47 : decode prog_8_method_9_code 47 = .ok (.goto 4, 3) := by decide +kernel
theorem d6_levelToDrive_50 : decode prog_8_method_9_code 50 = .ok (.iconst 1, 1) := by decide +kernel
theorem d6_levelToDrive_51 : decode prog_8_method_9_code 51 = .ok (.ireturn, 1) := by decide +kernel
theorem d6_levelToDrive_52 : decode prog_8_method_9_code 52 = .ok (.aload_n 0, 1) := by decide +kernel
theorem d6_levelToDrive_53 : decode prog_8_method_9_code 53 = .ok (.getfield 70, 3) := by decide +kernel
theorem d6_levelToDrive_56 : decode prog_8_method_9_code 56 = .ok (.ifCond .eq 17, 3) := by decide +kernel
theorem d6_levelToDrive_59 : decode prog_8_method_9_code 59 = .ok (.aload_n 0, 1) := by decide +kernel
theorem d6_levelToDrive_60 : decode prog_8_method_9_code 60 = .ok (.getfield 36, 3) := by decide +kernel
theorem d6_levelToDrive_63 : decode prog_8_method_9_code 63 = .ok (.aload_n 0, 1) := by decide +kernel
theorem d6_levelToDrive_64 : decode prog_8_method_9_code 64 = .ok (.getfield 92, 3) := by decide +kernel
theorem d6_levelToDrive_67 : decode prog_8_method_9_code 67 = .ok (.invokevirtual 129, 3) := by decide +kernel
theorem d6_levelToDrive_70 : decode prog_8_method_9_code 70 = .ok (.goto 10, 3) := by decide +kernel
theorem d6_levelToDrive_73 : decode prog_8_method_9_code 73 = .ok (.aload_n 0, 1) := by decide +kernel
theorem d6_levelToDrive_74 : decode prog_8_method_9_code 74 = .ok (.getfield 36, 3) := by decide +kernel
theorem d6_levelToDrive_77 : decode prog_8_method_9_code 77 = .ok (.invokevirtual 133, 3) := by decide +kernel
theorem d6_levelToDrive_80 : decode prog_8_method_9_code 80 = .ok (.ireturn, 1) := by decide +kernel
theorem d6_levelToDrive_81 : decode prog_8_method_9_code 81 = .ok (.aload_n 0, 1) := by decide +kernel
theorem d6_levelToDrive_82 : decode prog_8_method_9_code 82 = .ok (.getfield 86, 3) := by decide +kernel
theorem d6_levelToDrive_85 : decode prog_8_method_9_code 85 = .ok (.ifCond .eq 7, 3) := by decide +kernel
theorem d6_levelToDrive_88 : decode prog_8_method_9_code 88 = .ok (.iconst 0, 1) := by decide +kernel
theorem d6_levelToDrive_89 : decode prog_8_method_9_code 89 = .ok (.goto 4, 3) := by decide +kernel
theorem d6_levelToDrive_92 : decode prog_8_method_9_code 92 = .ok (.iconst 1, 1) := by decide +kernel
theorem d6_levelToDrive_93 : decode prog_8_method_9_code 93 = .ok (.ireturn, 1) := by decide +kernel
theorem d6_levelToDrive_94 : decode prog_8_method_9_code 94 = .ok (.iconst 0, 1) := by decide +kernel
theorem d6_levelToDrive_95 : decode prog_8_method_9_code 95 = .ok (.ireturn, 1) := by decide +kernel
theorem d6_levelToDrive_96 : decode prog_8_method_9_code 96 = .ok (.iconst 1, 1) := by decide +kernel
theorem d6_levelToDrive_97 : decode prog_8_method_9_code 97 = .ok (.ireturn, 1) := by decide +kernel
theorem d6_act_0 : decode prog_8_method_10_code 0 = .ok (.aload_n 0, 1) := by decide +kernel
theorem d6_act_1 : decode prog_8_method_10_code 1 = .ok (.getfield 40, 3) := by decide +kernel
theorem d6_act_4 : decode prog_8_method_10_code 4 = .ok (.tableswitch 133 1 9 #[52, 60, 68, 76, 102, 102, 109, 117, 125], 52) := by decide +kernel
theorem d6_act_56 : decode prog_8_method_10_code 56 = .ok (.aload_n 0, 1) := by decide +kernel
theorem d6_act_57 : decode prog_8_method_10_code 57 = .ok (.iload_n 1, 1) := by decide +kernel
theorem d6_act_58 : decode prog_8_method_10_code 58 = .ok (.invokevirtual 136, 3) := by decide +kernel
theorem d6_act_61 : decode prog_8_method_10_code 61 = .ok (.goto 76, 3) := by decide +kernel
theorem d6_act_64 : decode prog_8_method_10_code 64 = .ok (.aload_n 0, 1) := by decide +kernel
theorem d6_act_65 : decode prog_8_method_10_code 65 = .ok (.iload_n 1, 1) := by decide +kernel
theorem d6_act_66 : decode prog_8_method_10_code 66 = .ok (.invokevirtual 139, 3) := by decide +kernel
theorem d6_act_69 : decode prog_8_method_10_code 69 = .ok (.goto 68, 3) := by decide +kernel
theorem d6_act_72 : decode prog_8_method_10_code 72 = .ok (.aload_n 0, 1) := by decide +kernel
theorem d6_act_73 : decode prog_8_method_10_code 73 = .ok (.iload_n 1, 1) := by decide +kernel
theorem d6_act_74 : decode prog_8_method_10_code 74 = .ok (.invokevirtual 142, 3) := by decide +kernel
theorem d6_act_77 : decode prog_8_method_10_code 77 = .ok (.goto 60, 3) := by decide +kernel
theorem d6_act_80 : decode prog_8_method_10_code 80 = .ok (.aload_n 0, 1) := by decide +kernel
theorem d6_act_81 : decode prog_8_method_10_code 81 = .ok (.getfield 36, 3) := by decide +kernel
theorem d6_act_84 : decode prog_8_method_10_code 84 = .ok (.invokevirtual 145, 3) := by decide +kernel
theorem d6_act_87 : decode prog_8_method_10_code 87 = .ok (.ifCond .eq 11, 3) := by decide +kernel
theorem d6_act_90 : decode prog_8_method_10_code 90 = .ok (.aload_n 0, 1) := by decide +kernel
theorem d6_act_91 : decode prog_8_method_10_code 91 = .ok (.iload_n 1, 1) := by decide +kernel
theorem d6_act_92 : decode prog_8_method_10_code 92 = .ok (.invokevirtual 148, 3) := by decide +kernel
theorem d6_act_95 : decode prog_8_method_10_code 95 = .ok (.goto 42, 3) := by decide +kernel
theorem d6_act_98 : decode prog_8_method_10_code 98 = .ok (.aload_n 0, 1) := by decide +kernel
theorem d6_act_99 : decode prog_8_method_10_code 99 = .ok (.iload_n 1, 1) := by decide +kernel
theorem d6_act_100 : decode prog_8_method_10_code 100 = .ok (.invokevirtual 151, 3) := by decide +kernel
theorem d6_act_103 : decode prog_8_method_10_code 103 = .ok (.goto 34, 3) := by decide +kernel
theorem d6_act_106 : decode prog_8_method_10_code 106 = .ok (.aload_n 0, 1) := by decide +kernel
theorem d6_act_107 : decode prog_8_method_10_code 107 = .ok (.invokevirtual 154, 3) := by decide +kernel
theorem d6_act_110 : decode prog_8_method_10_code 110 = .ok (.goto 27, 3) := by decide +kernel
theorem d6_act_113 : decode prog_8_method_10_code 113 = .ok (.aload_n 0, 1) := by decide +kernel
theorem d6_act_114 : decode prog_8_method_10_code 114 = .ok (.iload_n 1, 1) := by decide +kernel
theorem d6_act_115 : decode prog_8_method_10_code 115 = .ok (.invokevirtual 157, 3) := by decide +kernel
theorem d6_act_118 : decode prog_8_method_10_code 118 = .ok (.goto 19, 3) := by decide +kernel
theorem d6_act_121 : decode prog_8_method_10_code 121 = .ok (.aload_n 0, 1) := by decide +kernel
theorem d6_act_122 : decode prog_8_method_10_code 122 = .ok (.iload_n 1, 1) := by decide +kernel
theorem d6_act_123 : decode prog_8_method_10_code 123 = .ok (.invokevirtual 160, 3) := by decide +kernel
theorem d6_act_126 : decode prog_8_method_10_code 126 = .ok (.goto 11, 3) := by decide +kernel
theorem d6_act_129 : decode prog_8_method_10_code 129 = .ok (.aload_n 0, 1) := by decide +kernel
theorem d6_act_130 : decode prog_8_method_10_code 130 = .ok (.iload_n 1, 1) := by decide +kernel
theorem d6_act_131 : decode prog_8_method_10_code 131 = .ok (.invokevirtual 163, 3) := by decide +kernel
theorem d6_act_134 : decode prog_8_method_10_code 134 = .ok (.goto 3, 3) := by decide +kernel
theorem d6_act_137 : decode prog_8_method_10_code 137 = .ok (.return_, 1) := by decide +kernel
theorem d6_actBusOff_0 : decode prog_8_method_11_code 0 = .ok (.aload_n 0, 1) := by decide +kernel
theorem d6_actBusOff_1 : decode prog_8_method_11_code 1 = .ok (.iload_n 1, 1) := by decide +kernel
theorem d6_actBusOff_2 : decode prog_8_method_11_code 2 = .ok (.iconst 1, 1) := by decide +kernel
theorem d6_actBusOff_3 : decode prog_8_method_11_code 3 = .ok (.if_icmp .ne 12, 3) := by decide +kernel
theorem d6_actBusOff_6 : decode prog_8_method_11_code 6 = .ok (.aload_n 0, 1) := by decide +kernel
theorem d6_actBusOff_7 : decode prog_8_method_11_code 7 = .ok (.getfield 80, 3) := by decide +kernel
theorem d6_actBusOff_10 : decode prog_8_method_11_code 10 = .ok (.iconst 1, 1) := by decide +kernel
theorem d6_actBusOff_11 : decode prog_8_method_11_code 11 = .ok (.iadd, 1) := by decide +kernel
theorem d6_actBusOff_12 : decode prog_8_method_11_code 12 = .ok (.goto 4, 3) := by decide +kernel
theorem d6_actBusOff_15 : decode prog_8_method_11_code 15 = .ok (.iconst 0, 1) := by decide +kernel
theorem d6_actBusOff_16 : decode prog_8_method_11_code 16 = .ok (.putfield 80, 3) := by decide +kernel
theorem d6_actBusOff_19 : decode prog_8_method_11_code 19 = .ok (.aload_n 0, 1) := by decide +kernel
theorem d6_actBusOff_20 : decode prog_8_method_11_code 20 = .ok (.getfield 80, 3) := by decide +kernel
theorem d6_actBusOff_23 : decode prog_8_method_11_code 23 = .ok (.bipush 11, 2) := by decide +kernel
theorem d6_actBusOff_25 : decode prog_8_method_11_code 25 = .ok (.if_icmp .ge 4, 3) := by decide +kernel
theorem d6_actBusOff_28 : decode prog_8_method_11_code 28 = .ok (.return_, 1) := by decide +kernel
theorem d6_actBusOff_29 : decode prog_8_method_11_code 29 = .ok (.aload_n 0, 1) := by decide +kernel
theorem d6_actBusOff_30 : decode prog_8_method_11_code 30 = .ok (.iconst 0, 1) := by decide +kernel
theorem d6_actBusOff_31 : decode prog_8_method_11_code 31 = .ok (.putfield 80, 3) := by decide +kernel
theorem d6_actBusOff_34 : decode prog_8_method_11_code 34 = .ok (.aload_n 0, 1) := by decide +kernel
theorem d6_actBusOff_35 : decode prog_8_method_11_code 35 = .ok (.dup, 1) := by decide +kernel
theorem d6_actBusOff_36 : decode prog_8_method_11_code 36 = .ok (.getfield 83, 3) := by decide +kernel
theorem d6_actBusOff_39 : decode prog_8_method_11_code 39 = .ok (.iconst 1, 1) := by decide +kernel
theorem d6_actBusOff_40 : decode prog_8_method_11_code 40 = .ok (.iadd, 1) := by decide +kernel
theorem d6_actBusOff_41 : decode prog_8_method_11_code 41 = .ok (.putfield 83, 3) := by decide +kernel
theorem d6_actBusOff_44 : decode prog_8_method_11_code 44 = .ok (.aload_n 0, 1) := by decide +kernel
theorem d6_actBusOff_45 : decode prog_8_method_11_code 45 = .ok (.getfield 83, 3) := by decide +kernel
theorem d6_actBusOff_48 : decode prog_8_method_11_code 48 = .ok (.aload_n 0, 1) := by decide +kernel
theorem d6_actBusOff_49 : decode prog_8_method_11_code 49 = .ok (.getfield 50, 3) := by decide +kernel
theorem d6_actBusOff_52 : decode prog_8_method_11_code 52 = .ok (.getfield 166, 3) := by decide +kernel
theorem d6_actBusOff_55 : decode prog_8_method_11_code 55 = .ok (.if_icmp .lt 18, 3) := by decide +kernel
theorem d6_actBusOff_58 : decode prog_8_method_11_code 58 = .ok (.aload_n 0, 1) := by decide +kernel
theorem d6_actBusOff_59 : decode prog_8_method_11_code 59 = .ok (.iconst 0, 1) := by decide +kernel
theorem d6_actBusOff_60 : decode prog_8_method_11_code 60 = .ok (.putfield 74, 3) := by decide +kernel
theorem d6_actBusOff_63 : decode prog_8_method_11_code 63 = .ok (.aload_n 0, 1) := by decide +kernel
theorem d6_actBusOff_64 : decode prog_8_method_11_code 64 = .ok (.iconst 0, 1) := by decide +kernel
theorem d6_actBusOff_65 : decode prog_8_method_11_code 65 = .ok (.putfield 77, 3) := by decide +kernel
theorem d6_actBusOff_68 : decode prog_8_method_11_code 68 = .ok (.aload_n 0, 1) := by decide +kernel
theorem d6_actBusOff_69 : decode prog_8_method_11_code 69 = .ok (.iconst 3, 1) := by decide +kernel
theorem d6_actBusOff_70 : decode prog_8_method_11_code 70 = .ok (.invokevirtual 169, 3) := by decide +kernel
theorem d6_actBusOff_73 : decode prog_8_method_11_code 73 = .ok (.return_, 1) := by decide +kernel
theorem d6_actJoining_0 : decode prog_8_method_12_code 0 = .ok (.aload_n 0, 1) := by decide +kernel
theorem d6_actJoining_1 : decode prog_8_method_12_code 1 = .ok (.iload_n 1, 1) := by decide +kernel
theorem d6_actJoining_2 : decode prog_8_method_12_code 2 = .ok (.iconst 1, 1) := by decide +kernel
theorem d6_actJoining_3 : decode prog_8_method_12_code 3 = .ok (.if_icmp .ne 12, 3) := by decide +kernel
theorem d6_actJoining_6 : decode prog_8_method_12_code 6 = .ok (.aload_n 0, 1) := by decide +kernel
theorem d6_actJoining_7 : decode prog_8_method_12_code 7 = .ok (.getfield 80, 3) := by decide +kernel
theorem d6_actJoining_10 : decode prog_8_method_12_code 10 = .ok (.iconst 1, 1) := by decide +kernel
theorem d6_actJoining_11 : decode prog_8_method_12_code 11 = .ok (.iadd, 1) := by decide +kernel
theorem d6_actJoining_12 : decode prog_8_method_12_code 12 = .ok (.goto 4, 3) := by decide +kernel
theorem d6_actJoining_15 : decode prog_8_method_12_code 15 = .ok (.iconst 0, 1) := by decide +kernel
theorem d6_actJoining_16 : decode prog_8_method_12_code 16 = .ok (.putfield 80, 3) := by decide +kernel
theorem d6_actJoining_19 : decode prog_8_method_12_code 19 = .ok (.aload_n 0, 1) := by decide +kernel
theorem d6_actJoining_20 : decode prog_8_method_12_code 20 = .ok (.getfield 80, 3) := by decide +kernel
theorem d6_actJoining_23 : decode prog_8_method_12_code 23 = .ok (.bipush 11, 2) := by decide +kernel
theorem d6_actJoining_25 : decode prog_8_method_12_code 25 = .ok (.if_icmp .lt 8, 3) := by decide +kernel
theorem d6_actJoining_28 : decode prog_8_method_12_code 28 = .ok (.aload_n 0, 1) := by decide +kernel
theorem d6_actJoining_29 : decode prog_8_method_12_code 29 = .ok (.iconst 3, 1) := by decide +kernel
theorem d6_actJoining_30 : decode prog_8_method_12_code 30 = .ok (.invokevirtual 169, 3) := by decide +kernel
theorem d6_actJoining_33 : decode prog_8_method_12_code 33 = .ok (.return_, 1) := by decide +kernel
theorem d6_actIdle_0 : decode prog_8_method_13_code 0 = .ok (.iload_n 1, 1) := by decide +kernel
theorem d6_actIdle_1 : decode prog_8_method_13_code 1 = .ok (.ifCond .ne 22, 3) := by decide +kernel
theorem d6_actIdle_4 : decode prog_8_method_13_code 4 = .ok (.aload_n 0, 1) := by decide +kernel
theorem d6_actIdle_5 : decode prog_8_method_13_code 5 = .ok (.aload_n 0, 1) := by decide +kernel
theorem d6_actIdle_6 : decode prog_8_method_13_code 6 = .ok (.getfield 44, 3) := by decide +kernel
theorem d6_actIdle_9 : decode prog_8_method_13_code 9 = .ok (.ifCond .ne 7, 3) := by decide +kernel
theorem d6_actIdle_12 : decode prog_8_method_13_code 12 = .ok (.iconst 1, 1) := by decide +kernel
theorem d6_actIdle_13 : decode prog_8_method_13_code 13 = .ok (.goto 4, 3) := by decide +kernel
theorem d6_actIdle_16 : decode prog_8_method_13_code 16 = .ok (.iconst 0, 1) := by decide +kernel
theorem d6_actIdle_17 : decode prog_8_method_13_code 17 = .ok (.invokevirtual 172, 3) := by decide +kernel
theorem d6_actIdle_20 : decode prog_8_method_13_code 20 = .ok (.goto 20, 3) := by decide +kernel
theorem d6_actIdle_23 : decode prog_8_method_13_code 23 = .ok (.aload_n 0, 1) := by decide +kernel
theorem d6_actIdle_24 : decode prog_8_method_13_code 24 = .ok (.getfield 44, 3) := by decide +kernel
theorem d6_actIdle_27 : decode prog_8_method_13_code 27 = .ok (.ifCond .ne 13, 3) := by decide +kernel
theorem d6_actIdle_30 : decode prog_8_method_13_code 30 = .ok (.aload_n 0, 1) := by decide +kernel
theorem d6_actIdle_31 : decode prog_8_method_13_code 31 = .ok (.iconst 1, 1) := by decide +kernel
theorem d6_actIdle_32 : decode prog_8_method_13_code 32 = .ok (.putfield 70, 3) := by decide +kernel
theorem d6_actIdle_35 : decode prog_8_method_13_code 35 = .ok (.aload_n 0, 1) := by decide +kernel
theorem d6_actIdle_36 : decode prog_8_method_13_code 36 = .ok (.iconst 1, 1) := by decide +kernel
theorem d6_actIdle_37 : decode prog_8_method_13_code 37 = .ok (.invokevirtual 176, 3) := by decide +kernel
theorem d6_actIdle_40 : decode prog_8_method_13_code 40 = .ok (.return_, 1) := by decide +kernel
theorem d6_actFlag_0 : decode prog_8_method_14_code 0 = .ok (.aload_n 0, 1) := by decide +kernel
theorem d6_actFlag_1 : decode prog_8_method_14_code 1 = .ok (.dup, 1) := by decide +kernel
theorem d6_actFlag_2 : decode prog_8_method_14_code 2 = .ok (.getfield 80, 3) := by decide +kernel
theorem d6_actFlag_5 : decode prog_8_method_14_code 5 = .ok (.iconst 1, 1) := by decide +kernel
theorem d6_actFlag_6 : decode prog_8_method_14_code 6 = .ok (.iadd, 1) := by decide +kernel
theorem d6_actFlag_7 : decode prog_8_method_14_code 7 = .ok (.putfield 80, 3) := by decide +kernel
theorem d6_actFlag_10 : decode prog_8_method_14_code 10 = .ok (.aload_n 0, 1) := by decide +kernel
theorem d6_actFlag_11 : decode prog_8_method_14_code 11 = .ok (.getfield 80, 3) := by decide +kernel
theorem d6_actFlag_14 : decode prog_8_method_14_code 14 = .ok (.bipush 6, 2) := by decide +kernel
theorem d6_actFlag_16 : decode prog_8_method_14_code 16 = .ok (.if_icmp .lt 26, 3) := by decide +kernel
theorem d6_actFlag_19 : decode prog_8_method_14_code 19 = .ok (.aload_n 0, 1) := by decide +kernel
theorem d6_actFlag_20 : decode prog_8_method_14_code 20 = .ok (.aload_n 0, 1) := by decide +kernel
theorem d6_actFlag_21 : decode prog_8_method_14_code 21 = .ok (.getfield 40, 3) := by decide +kernel
theorem d6_actFlag_24 : decode prog_8_method_14_code 24 = .ok (.iconst 5, 1) := by decide +kernel
theorem d6_actFlag_25 : decode prog_8_method_14_code 25 = .ok (.if_icmp .ne 7, 3) := by decide +kernel
theorem d6_actFlag_28 : decode prog_8_method_14_code 28 = .ok (.iconst 1, 1) := by decide +kernel
theorem d6_actFlag_29 : decode prog_8_method_14_code 29 = .ok (.goto 4, 3) := by decide +kernel
theorem d6_actFlag_32 : decode prog_8_method_14_code 32 = .ok (.iconst 0, 1) := by decide +kernel
theorem d6_actFlag_33 : decode prog_8_method_14_code 33 = .ok (.putfield 89, 3) := by decide +kernel
theorem d6_actFlag_36 : decode prog_8_method_14_code 36 = .ok (.aload_n 0, 1) := by decide +kernel
theorem d6_actFlag_37 : decode prog_8_method_14_code 37 = .ok (.bipush 7, 2) := by decide +kernel
theorem d6_actFlag_39 : decode prog_8_method_14_code 39 = .ok (.invokevirtual 169, 3) := by decide +kernel
theorem d6_actFlag_42 : decode prog_8_method_14_code 42 = .ok (.return_, 1) := by decide +kernel
theorem d6_actDelimiter_0 : decode prog_8_method_15_code 0 = .ok (.aload_n 0, 1) := by decide +kernel
theorem d6_actDelimiter_1 : decode prog_8_method_15_code 1 = .ok (.getfield 89, 3) := by decide +kernel
theorem d6_actDelimiter_4 : decode prog_8_method_15_code 4 = .ok (.istore_n 2, 1) := by decide +kernel
theorem d6_actDelimiter_5 : decode prog_8_method_15_code 5 = .ok (.aload_n 0, 1) := by decide +kernel
theorem d6_actDelimiter_6 : decode prog_8_method_15_code 6 = .ok (.iconst 0, 1) := by decide +kernel
theorem d6_actDelimiter_7 : decode prog_8_method_15_code 7 = .ok (.putfield 89, 3) := by decide +kernel
theorem d6_actDelimiter_10 : decode prog_8_method_15_code 10 = .ok (.iload_n 1, 1) := by decide +kernel
theorem d6_actDelimiter_11 : decode prog_8_method_15_code 11 = .ok (.iconst 1, 1) := by decide +kernel
theorem d6_actDelimiter_12 : decode prog_8_method_15_code 12 = .ok (.if_icmp .ne 31, 3) := by decide +kernel
theorem d6_actDelimiter_15 : decode prog_8_method_15_code 15 = .ok (.aload_n 0, 1) := by decide +kernel
theorem d6_actDelimiter_16 : decode prog_8_method_15_code 16 = .ok (.dup, 1) := by decide +kernel
theorem d6_actDelimiter_17 : decode prog_8_method_15_code 17 = .ok (.getfield 80, 3) := by decide +kernel
theorem d6_actDelimiter_20 : decode prog_8_method_15_code 20 = .ok (.iconst 1, 1) := by decide +kernel
theorem d6_actDelimiter_21 : decode prog_8_method_15_code 21 = .ok (.iadd, 1) := by decide +kernel
theorem d6_actDelimiter_22 : decode prog_8_method_15_code 22 = .ok (.putfield 80, 3) := by decide +kernel
theorem d6_actDelimiter_25 : decode prog_8_method_15_code 25 = .ok (.aload_n 0, 1) := by decide +kernel
theorem d6_actDelimiter_26 : decode prog_8_method_15_code 26 = .ok (.getfield 80, 3) := by decide +kernel
theorem d6_actDelimiter_29 : decode prog_8_method_15_code 29 = .ok (.bipush 8, 2) := by decide +kernel
theorem d6_actDelimiter_31 : decode prog_8_method_15_code 31 = .ok (.if_icmp .lt 62, 3) := by decide +kernel
theorem d6_actDelimiter_34 : decode prog_8_method_15_code 34 = .ok (.aload_n 0, 1) := by decide +kernel
theorem d6_actDelimiter_35 : decode prog_8_method_15_code 35 = .ok (.bipush 8, 2) := by decide +kernel
theorem d6_actDelimiter_37 : decode prog_8_method_15_code 37 = .ok (.invokevirtual 169, 3) := by decide +kernel
theorem d6_actDelimiter_40 : decode prog_8_method_15_code 40 = .ok (.goto 53, 3) := by decide +kernel
theorem d6_actDelimiter_43 : decode prog_8_method_15_code 43 = .ok (.aload_n 0, 1) := by decide +kernel
theorem d6_actDelimiter_44 : decode prog_8_method_15_code 44 = .ok (.getfield 80, 3) := by decide +kernel
theorem d6_actDelimiter_47 : decode prog_8_method_15_code 47 = .ok (.ifCond .ne 23, 3) := by decide +kernel
theorem d6_actDelimiter_50 : decode prog_8_method_15_code 50 = .ok (.iload_n 2, 1) := by decide +kernel
theorem d6_actDelimiter_51 : decode prog_8_method_15_code 51 = .ok (.ifCond .eq 42, 3) := by decide +kernel
theorem d6_actDelimiter_54 : decode prog_8_method_15_code 54 = .ok (.aload_n 0, 1) := by decide +kernel
theorem d6_actDelimiter_55 : decode prog_8_method_15_code 55 = .ok (.getfield 70, 3) := by decide +kernel
theorem d6_actDelimiter_58 : decode prog_8_method_15_code 58 = .ok (.ifCond .ne 35, 3) := by decide +kernel
theorem d6_actDelimiter_61 : decode prog_8_method_15_code 61 = .ok (.aload_n 0, 1) := by decide +kernel
theorem d6_actDelimiter_62 : decode prog_8_method_15_code 62 = .ok (.bipush 8, 2) := by decide +kernel
theorem d6_actDelimiter_64 : decode prog_8_method_15_code 64 = .ok (.invokevirtual 179, 3) := by decide +kernel
theorem d6_actDelimiter_67 : decode prog_8_method_15_code 67 = .ok (.goto 26, 3) := by decide +kernel
theorem d6_actDelimiter_70 : decode prog_8_method_15_code 70 = .ok (.aload_n 0, 1) := by decide +kernel
theorem d6_actDelimiter_71 : decode prog_8_method_15_code 71 = .ok (.getfield 80, 3) := by decide +kernel
theorem d6_actDelimiter_74 : decode prog_8_method_15_code 74 = .ok (.bipush 7, 2) := by decide +kernel
theorem d6_actDelimiter_76 : decode prog_8_method_15_code 76 = .ok (.if_icmp .ge 11, 3) := by decide +kernel
theorem d6_actDelimiter_79 : decode prog_8_method_15_code 79 = .ok (.aload_n 0, 1) := by decide +kernel
theorem d6_actDelimiter_80 : decode prog_8_method_15_code 80 = .ok (.iconst 4, 1) := by decide +kernel
theorem d6_actDelimiter_81 : decode prog_8_method_15_code 81 = .ok (.invokevirtual 176, 3) := by decide +kernel
theorem d6_actDelimiter_84 : decode prog_8_method_15_code 84 = .ok (.goto 9, 3) := by decide +kernel
theorem d6_actDelimiter_87 : decode prog_8_method_15_code 87 = .ok (.aload_n 0, 1) := by decide +kernel
theorem d6_actDelimiter_88 : decode prog_8_method_15_code 88 = .ok (.bipush 6, 2) := by decide +kernel
theorem d6_actDelimiter_90 : decode prog_8_method_15_code 90 = .ok (.invokevirtual 169, 3) := by decide +kernel
theorem d6_actDelimiter_93 : decode prog_8_method_15_code 93 = .ok (.return_, 1) := by decide +kernel
theorem d6_actIntermission_0 : decode prog_8_method_16_code 0 = .ok (.aload_n 0, 1) := by decide +kernel
theorem d6_actIntermission_1 : decode prog_8_method_16_code 1 = .ok (.dup, 1) := by decide +kernel
theorem d6_actIntermission_2 : decode prog_8_method_16_code 2 = .ok (.getfield 80, 3) := by decide +kernel
theorem d6_actIntermission_5 : decode prog_8_method_16_code 5 = .ok (.iconst 1, 1) := by decide +kernel
theorem d6_actIntermission_6 : decode prog_8_method_16_code 6 = .ok (.iadd, 1) := by decide +kernel
theorem d6_actIntermission_7 : decode prog_8_method_16_code 7 = .ok (.putfield 80, 3) := by decide +kernel
theorem d6_actIntermission_10 : decode prog_8_method_16_code 10 = .ok (.aload_n 0, 1) := by decide +kernel
theorem d6_actIntermission_11 : decode prog_8_method_16_code 11 = .ok (.getfield 80, 3) := by decide +kernel
theorem d6_actIntermission_14 : decode prog_8_method_16_code 14 = .ok (.iconst 3, 1) := by decide +kernel
theorem d6_actIntermission_15 : decode prog_8_method_16_code 15 = .ok (.if_icmp .ge 16, 3) := by decide +kernel
theorem d6_actIntermission_18 : decode prog_8_method_16_code 18 = .ok (.iload_n 1, 1) := by decide +kernel
theorem d6_actIntermission_19 : decode prog_8_method_16_code 19 = .ok (.ifCond .ne 48, 3) := by decide +kernel
theorem d6_actIntermission_22 : decode prog_8_method_16_code 22 = .ok (.aload_n 0, 1) := by decide +kernel
theorem d6_actIntermission_23 : decode prog_8_method_16_code 23 = .ok (.bipush 6, 2) := by decide +kernel
theorem d6_actIntermission_25 : decode prog_8_method_16_code 25 = .ok (.invokevirtual 169, 3) := by decide +kernel
theorem d6_actIntermission_28 : decode prog_8_method_16_code 28 = .ok (.goto 39, 3) := by decide +kernel
theorem d6_actIntermission_31 : decode prog_8_method_16_code 31 = .ok (.iload_n 1, 1) := by decide +kernel
theorem d6_actIntermission_32 : decode prog_8_method_16_code 32 = .ok (.ifCond .ne 11, 3) := by decide +kernel
theorem d6_actIntermission_35 : decode prog_8_method_16_code 35 = .ok (.aload_n 0, 1) := by decide +kernel
theorem d6_actIntermission_36 : decode prog_8_method_16_code 36 = .ok (.iconst 0, 1) := by decide +kernel
theorem d6_actIntermission_37 : decode prog_8_method_16_code 37 = .ok (.invokevirtual 172, 3) := by decide +kernel
theorem d6_actIntermission_40 : decode prog_8_method_16_code 40 = .ok (.goto 27, 3) := by decide +kernel
theorem d6_actIntermission_43 : decode prog_8_method_16_code 43 = .ok (.aload_n 0, 1) := by decide +kernel
theorem d6_actIntermission_44 : decode prog_8_method_16_code 44 = .ok (.aload_n 0, 1) := by decide +kernel
theorem d6_actIntermission_45 : decode prog_8_method_16_code 45 = .ok (.getfield 70, 3) := by decide +kernel
theorem d6_actIntermission_48 : decode prog_8_method_16_code 48 = .ok (.ifCond .eq 15, 3) := by decide +kernel
theorem d6_actIntermission_51 : decode prog_8_method_16_code 51 = .ok (.aload_n 0, 1) := by decide +kernel
theorem d6_actIntermission_52 : decode prog_8_method_16_code 52 = .ok (.invokevirtual 182, 3) := by decide +kernel
theorem d6_actIntermission_55 : decode prog_8_method_16_code 55 = .ok (.ifCond .eq 8, 3) := by decide +kernel
theorem d6_actIntermission_58 : decode prog_8_method_16_code 58 = .ok (.bipush 9, 2) := by decide +kernel
theorem d6_actIntermission_60 : decode prog_8_method_16_code 60 = .ok (.goto 4, 3) := by decide +kernel
theorem d6_actIntermission_63 : decode prog_8_method_16_code 63 = .ok (.iconst 3, 1) := by decide +kernel
theorem d6_actIntermission_64 : decode prog_8_method_16_code 64 = .ok (.invokevirtual 169, 3) := by decide +kernel
theorem d6_actIntermission_67 : decode prog_8_method_16_code 67 = .ok (.return_, 1) := by decide +kernel
theorem d6_actSuspend_0 : decode prog_8_method_17_code 0 = .ok (.aload_n 0, 1) := by decide +kernel
theorem d6_actSuspend_1 : decode prog_8_method_17_code 1 = .ok (.dup, 1) := by decide +kernel
theorem d6_actSuspend_2 : decode prog_8_method_17_code 2 = .ok (.getfield 80, 3) := by decide +kernel
theorem d6_actSuspend_5 : decode prog_8_method_17_code 5 = .ok (.iconst 1, 1) := by decide +kernel
theorem d6_actSuspend_6 : decode prog_8_method_17_code 6 = .ok (.iadd, 1) := by decide +kernel
theorem d6_actSuspend_7 : decode prog_8_method_17_code 7 = .ok (.putfield 80, 3) := by decide +kernel
theorem d6_actSuspend_10 : decode prog_8_method_17_code 10 = .ok (.iload_n 1, 1) := by decide +kernel
theorem d6_actSuspend_11 : decode prog_8_method_17_code 11 = .ok (.ifCond .ne 11, 3) := by decide +kernel
theorem d6_actSuspend_14 : decode prog_8_method_17_code 14 = .ok (.aload_n 0, 1) := by decide +kernel
theorem d6_actSuspend_15 : decode prog_8_method_17_code 15 = .ok (.iconst 0, 1) := by decide +kernel
theorem d6_actSuspend_16 : decode prog_8_method_17_code 16 = .ok (.invokevirtual 172, 3) := by decide +kernel
theorem d6_actSuspend_19 : decode prog_8_method_17_code 19 = .ok (.goto 17, 3) := by decide +kernel
theorem d6_actSuspend_22 : decode prog_8_method_17_code 22 = .ok (.aload_n 0, 1) := by decide +kernel
theorem d6_actSuspend_23 : decode prog_8_method_17_code 23 = .ok (.getfield 80, 3) := by decide +kernel
theorem d6_actSuspend_26 : decode prog_8_method_17_code 26 = .ok (.bipush 8, 2) := by decide +kernel
theorem d6_actSuspend_28 : decode prog_8_method_17_code 28 = .ok (.if_icmp .lt 8, 3) := by decide +kernel
theorem d6_actSuspend_31 : decode prog_8_method_17_code 31 = .ok (.aload_n 0, 1) := by decide +kernel
theorem d6_actSuspend_32 : decode prog_8_method_17_code 32 = .ok (.iconst 3, 1) := by decide +kernel
theorem d6_actSuspend_33 : decode prog_8_method_17_code 33 = .ok (.invokevirtual 169, 3) := by decide +kernel
theorem d6_actSuspend_36 : decode prog_8_method_17_code 36 = .ok (.return_, 1) := by decide +kernel
theorem d6_beginFrame_0 : decode prog_8_method_18_code 0 = .ok (.aload_n 0, 1) := by decide +kernel
theorem d6_beginFrame_1 : decode prog_8_method_18_code 1 = .ok (.iconst 4, 1) := by decide +kernel
theorem d6_beginFrame_2 : decode prog_8_method_18_code 2 = .ok (.invokevirtual 169, 3) := by decide +kernel
theorem d6_beginFrame_5 : decode prog_8_method_18_code 5 = .ok (.aload_n 0, 1) := by decide +kernel
theorem d6_beginFrame_6 : decode prog_8_method_18_code 6 = .ok (.iload_n 1, 1) := by decide +kernel
theorem d6_beginFrame_7 : decode prog_8_method_18_code 7 = .ok (.putfield 70, 3) := by decide +kernel
theorem d6_beginFrame_10 : decode prog_8_method_18_code 10 = .ok (.aload_n 0, 1) := by decide +kernel
theorem d6_beginFrame_11 : decode prog_8_method_18_code 11 = .ok (.getfield 36, 3) := by decide +kernel
theorem d6_beginFrame_14 : decode prog_8_method_18_code 14 = .ok (.invokevirtual 185, 3) := by decide +kernel
theorem d6_beginFrame_17 : decode prog_8_method_18_code 17 = .ok (.iload_n 1, 1) := by decide +kernel
theorem d6_beginFrame_18 : decode prog_8_method_18_code 18 = .ok (.ifCond .eq 39, 3) := by decide +kernel
theorem d6_beginFrame_21 : decode prog_8_method_18_code 21 = .ok (.aload_n 0, 1) := by decide +kernel
theorem d6_beginFrame_22 : decode prog_8_method_18_code 22 = .ok (.iconst 0, 1) := by decide +kernel
theorem d6_beginFrame_23 : decode prog_8_method_18_code 23 = .ok (.putfield 47, 3) := by decide +kernel
theorem d6_beginFrame_26 : decode prog_8_method_18_code 26 = .ok (.aload_n 0, 1) := by decide +kernel
theorem d6_beginFrame_27 : decode prog_8_method_18_code 27 = .ok (.aload_n 0, 1) := by decide +kernel
theorem d6_beginFrame_28 : decode prog_8_method_18_code 28 = .ok (.getfield 23, 3) := by decide +kernel
theorem d6_beginFrame_31 : decode prog_8_method_18_code 31 = .ok (.iconst 0, 1) := by decide +kernel
theorem d6_beginFrame_32 : decode prog_8_method_18_code 32 = .ok (.invokevirtual 116, 3) := by decide +kernel
theorem d6_beginFrame_35 : decode prog_8_method_18_code 35 = .ok (.aload_n 0, 1) := by decide +kernel
theorem d6_beginFrame_36 : decode prog_8_method_18_code 36 = .ok (.getfield 23, 3) := by decide +kernel
theorem d6_beginFrame_39 : decode prog_8_method_18_code 39 = .ok (.iconst 0, 1) := by decide +kernel
theorem d6_beginFrame_40 : decode prog_8_method_18_code 40 = .ok (.invokevirtual 188, 3) := by decide +kernel
theorem d6_beginFrame_43 : decode prog_8_method_18_code 43 = .ok (.aload_n 0, 1) := by decide +kernel
theorem d6_beginFrame_44 : decode prog_8_method_18_code 44 = .ok (.getfield 23, 3) := by decide +kernel
theorem d6_beginFrame_47 : decode prog_8_method_18_code 47 = .ok (.iconst 0, 1) := by decide +kernel
theorem d6_beginFrame_48 : decode prog_8_method_18_code 48 = .ok (.invokevirtual 191, 3) := by decide +kernel
theorem d6_beginFrame_51 : decode prog_8_method_18_code 51 = .ok (.invokestatic 194, 3) := by decide +kernel
theorem d6_beginFrame_54 : decode prog_8_method_18_code 54 = .ok (.putfield 92, 3) := by decide +kernel
theorem d6_beginFrame_57 : decode prog_8_method_18_code 57 = .ok (.return_, 1) := by decide +kernel
theorem d6_actStuffedPart_0 : decode prog_8_method_19_code 0 = .ok (.aload_n 0, 1) := by decide +kernel
theorem d6_actStuffedPart_1 : decode prog_8_method_19_code 1 = .ok (.getfield 36, 3) := by decide +kernel
theorem d6_actStuffedPart_4 : decode prog_8_method_19_code 4 = .ok (.invokevirtual 198, 3) := by decide +kernel
theorem d6_actStuffedPart_7 : decode prog_8_method_19_code 7 = .ok (.ifCond .ne 11, 3) := by decide +kernel
theorem d6_actStuffedPart_10 : decode prog_8_method_19_code 10 = .ok (.aload_n 0, 1) := by decide +kernel
theorem d6_actStuffedPart_11 : decode prog_8_method_19_code 11 = .ok (.iload_n 1, 1) := by decide +kernel
theorem d6_actStuffedPart_12 : decode prog_8_method_19_code 12 = .ok (.invokevirtual 201, 3) := by decide +kernel
theorem d6_actStuffedPart_15 : decode prog_8_method_19_code 15 = .ok (.goto 41, 3) := by decide +kernel
theorem d6_actStuffedPart_18 : decode prog_8_method_19_code 18 = .ok (.iload_n 1, 1) := by decide +kernel
theorem d6_actStuffedPart_19 : decode prog_8_method_19_code 19 = .ok (.aload_n 0, 1) := by decide +kernel
theorem d6_actStuffedPart_20 : decode prog_8_method_19_code 20 = .ok (.getfield 36, 3) := by decide +kernel
theorem d6_actStuffedPart_23 : decode prog_8_method_19_code 23 = .ok (.getfield 204, 3) := by decide +kernel
theorem d6_actStuffedPart_26 : decode prog_8_method_19_code 26 = .ok (.if_icmp .ne 22, 3) := by decide +kernel
theorem d6_actStuffedPart_29 : decode prog_8_method_19_code 29 = .ok (.aload_n 0, 1) := by decide +kernel
theorem d6_actStuffedPart_30 : decode prog_8_method_19_code 30 = .ok (.aload_n 0, 1) := by decide +kernel
theorem d6_actStuffedPart_31 : decode prog_8_method_19_code 31 = .ok (.getfield 70, 3) := by decide +kernel
theorem d6_actStuffedPart_34 : decode prog_8_method_19_code 34 = .ok (.ifCond .eq 7, 3) := by decide +kernel
theorem d6_actStuffedPart_37 : decode prog_8_method_19_code 37 = .ok (.iconst 1, 1) := by decide +kernel
theorem d6_actStuffedPart_38 : decode prog_8_method_19_code 38 = .ok (.goto 4, 3) := by decide +kernel
theorem d6_actStuffedPart_41 : decode prog_8_method_19_code 41 = .ok (.iconst 2, 1) := by decide +kernel
theorem d6_actStuffedPart_42 : decode prog_8_method_19_code 42 = .ok (.invokevirtual 176, 3) := by decide +kernel
theorem d6_actStuffedPart_45 : decode prog_8_method_19_code 45 = .ok (.goto 11, 3) := by decide +kernel
theorem d6_actStuffedPart_48 : decode prog_8_method_19_code 48 = .ok (.aload_n 0, 1) := by decide +kernel
theorem d6_actStuffedPart_49 : decode prog_8_method_19_code 49 = .ok (.getfield 36, 3) := by decide +kernel
theorem d6_actStuffedPart_52 : decode prog_8_method_19_code 52 = .ok (.iload_n 1, 1) := by decide +kernel
theorem d6_actStuffedPart_53 : decode prog_8_method_19_code 53 = .ok (.invokevirtual 207, 3) := by decide +kernel
theorem d6_actStuffedPart_56 : decode prog_8_method_19_code 56 = .ok (.return_, 1) := by decide +kernel
theorem d6_actBasicBit_0 : decode prog_8_method_20_code 0 = .ok (.aload_n 0, 1) := by decide +kernel
theorem d6_actBasicBit_1 : decode prog_8_method_20_code 1 = .ok (.getfield 70, 3) := by decide +kernel
theorem d6_actBasicBit_4 : decode prog_8_method_20_code 4 = .ok (.ifCond .eq 57, 3) := by decide +kernel
theorem d6_actBasicBit_7 : decode prog_8_method_20_code 7 = .ok (.iload_n 1, 1) := by decide +kernel
theorem d6_actBasicBit_8 : decode prog_8_method_20_code 8 = .ok (.aload_n 0, 1) := by decide +kernel
theorem d6_actBasicBit_9 : decode prog_8_method_20_code 9 = .ok (.getfield 44, 3) := by decide +kernel
theorem d6_actBasicBit_12 : decode prog_8_method_20_code 12 = .ok (.if_icmp .eq 49, 3) := by decide +kernel
theorem d6_actBasicBit_15 : decode prog_8_method_20_code 15 = .ok (.aload_n 0, 1) := by decide +kernel
theorem d6_actBasicBit_16 : decode prog_8_method_20_code 16 = .ok (.getfield 44, 3) := by decide +kernel
theorem d6_actBasicBit_19 : decode prog_8_method_20_code 19 = .ok (.ifCond .eq 13, 3) := by decide +kernel
theorem d6_actBasicBit_22 : decode prog_8_method_20_code 22 = .ok (.aload_n 0, 1) := by decide +kernel
theorem d6_actBasicBit_23 : decode prog_8_method_20_code 23 = .ok (.getfield 36, 3) := by decide +kernel
theorem d6_actBasicBit_26 : decode prog_8_method_20_code 26 = .ok (.invokevirtual 210, 3) := by decide +kernel
theorem d6_actBasicBit_29 : decode prog_8_method_20_code 29 = .ok (.ifCond .ne 9, 3) := by decide +kernel
theorem d6_actBasicBit_32 : decode prog_8_method_20_code 32 = .ok (.aload_n 0, 1) := by decide +kernel
theorem d6_actBasicBit_33 : decode prog_8_method_20_code 33 = .ok (.iconst 1, 1) := by decide +kernel
theorem d6_actBasicBit_34 : decode prog_8_method_20_code 34 = .ok (.invokevirtual 176, 3) := by decide +kernel
theorem d6_actBasicBit_37 : decode prog_8_method_20_code 37 = .ok (.return_, 1) := by decide +kernel
theorem d6_actBasicBit_38 : decode prog_8_method_20_code 38 = .ok (.aload_n 0, 1) := by decide +kernel
theorem d6_actBasicBit_39 : decode prog_8_method_20_code 39 = .ok (.iconst 0, 1) := by decide +kernel
theorem d6_actBasicBit_40 : decode prog_8_method_20_code 40 = .ok (.putfield 70, 3) := by decide +kernel
theorem d6_actBasicBit_43 : decode prog_8_method_20_code 43 = .ok (.aload_n 0, 1) := by decide +kernel
theorem d6_actBasicBit_44 : decode prog_8_method_20_code 44 = .ok (.iconst (-1), 1) := by decide +kernel
theorem d6_actBasicBit_45 : decode prog_8_method_20_code 45 = .ok (.putfield 47, 3) := by decide +kernel
theorem d6_actBasicBit_48 : decode prog_8_method_20_code 48 = .ok (.aload_n 0, 1) := by decide +kernel
theorem d6_actBasicBit_49 : decode prog_8_method_20_code 49 = .ok (.getfield 12, 3) := by decide +kernel
theorem d6_actBasicBit_52 : decode prog_8_method_20_code 52 = .ok (.dup, 1) := by decide +kernel
theorem d6_actBasicBit_53 : decode prog_8_method_20_code 53 = .ok (.getfield 213, 3) := by decide +kernel
theorem d6_actBasicBit_56 : decode prog_8_method_20_code 56 = .ok (.iconst 1, 1) := by decide +kernel
theorem d6_actBasicBit_57 : decode prog_8_method_20_code 57 = .ok (.iadd, 1) := by decide +kernel
theorem d6_actBasicBit_58 : decode prog_8_method_20_code 58 = .ok (.putfield 213, 3) := by decide +kernel
theorem d6_actBasicBit_61 : decode prog_8_method_20_code 61 = .ok (.aload_n 0, 1) := by decide +kernel
theorem d6_actBasicBit_62 : decode prog_8_method_20_code 62 = .ok (.getfield 36, 3) := by decide +kernel
theorem d6_actBasicBit_65 : decode prog_8_method_20_code 65 = .ok (.iload_n 1, 1) := by decide +kernel
theorem d6_actBasicBit_66 : decode prog_8_method_20_code 66 = .ok (.invokevirtual 216, 3) := by decide +kernel
theorem d6_actBasicBit_69 : decode prog_8_method_20_code 69 = .ok (.aload_n 0, 1) := by decide +kernel
theorem d6_actBasicBit_70 : decode prog_8_method_20_code 70 = .ok (.getfield 70, 3) := by decide +kernel
theorem d6_actBasicBit_73 : decode prog_8_method_20_code 73 = .ok (.ifCond .ne 18, 3) := by decide +kernel
theorem d6_actBasicBit_76 : decode prog_8_method_20_code 76 = .ok (.aload_n 0, 1) := by decide +kernel
theorem d6_actBasicBit_77 : decode prog_8_method_20_code 77 = .ok (.getfield 36, 3) := by decide +kernel
theorem d6_actBasicBit_80 : decode prog_8_method_20_code 80 = .ok (.invokevirtual 219, 3) := by decide +kernel
theorem d6_actBasicBit_83 : decode prog_8_method_20_code 83 = .ok (.ifCond .eq 8, 3) := by decide +kernel
theorem d6_actBasicBit_86 : decode prog_8_method_20_code 86 = .ok (.aload_n 0, 1) := by decide +kernel
theorem d6_actBasicBit_87 : decode prog_8_method_20_code 87 = .ok (.iconst 4, 1) := by decide +kernel
theorem d6_actBasicBit_88 : decode prog_8_method_20_code 88 = .ok (.invokevirtual 176, 3) := by decide +kernel
theorem d6_actBasicBit_91 : decode prog_8_method_20_code 91 = .ok (.return_, 1) := by decide +kernel
theorem d6_actTail_0 : decode prog_8_method_21_code 0 = .ok (.aload_n 0, 1) := by decide +kernel
theorem d6_actTail_1 : decode prog_8_method_21_code 1 = .ok (.getfield 36, 3) := by decide +kernel
theorem d6_actTail_4 : decode prog_8_method_21_code 4 = .ok (.getfield 222, 3) := by decide +kernel
theorem d6_actTail_7 : decode prog_8_method_21_code 7 = .ok (.istore_n 2, 1) := by decide +kernel
theorem d6_actTail_8 : decode prog_8_method_21_code 8 = .ok (.aload_n 0, 1) := by decide +kernel
theorem d6_actTail_9 : decode prog_8_method_21_code 9 = .ok (.getfield 36, 3) := by decide +kernel
theorem d6_actTail_12 : decode prog_8_method_21_code 12 = .ok (.dup, 1) := by decide +kernel
theorem d6_actTail_13 : decode prog_8_method_21_code 13 = .ok (.getfield 222, 3) := by decide +kernel
theorem d6_actTail_16 : decode prog_8_method_21_code 16 = .ok (.iconst 1, 1) := by decide +kernel
theorem d6_actTail_17 : decode prog_8_method_21_code 17 = .ok (.iadd, 1) := by decide +kernel
theorem d6_actTail_18 : decode prog_8_method_21_code 18 = .ok (.putfield 222, 3) := by decide +kernel
theorem d6_actTail_21 : decode prog_8_method_21_code 21 = .ok (.iload_n 2, 1) := by decide +kernel
theorem d6_actTail_22 : decode prog_8_method_21_code 22 = .ok (.iconst 1, 1) := by decide +kernel
theorem d6_actTail_23 : decode prog_8_method_21_code 23 = .ok (.if_icmp .ne 23, 3) := by decide +kernel
theorem d6_actTail_26 : decode prog_8_method_21_code 26 = .ok (.aload_n 0, 1) := by decide +kernel
theorem d6_actTail_27 : decode prog_8_method_21_code 27 = .ok (.getfield 70, 3) := by decide +kernel
theorem d6_actTail_30 : decode prog_8_method_21_code 30 = .ok (.ifCond .eq 94, 3) := by decide +kernel
theorem d6_actTail_33 : decode prog_8_method_21_code 33 = .ok (.iload_n 1, 1) := by decide +kernel
theorem d6_actTail_34 : decode prog_8_method_21_code 34 = .ok (.iconst 1, 1) := by decide +kernel
theorem d6_actTail_35 : decode prog_8_method_21_code 35 = .ok (.if_icmp .ne 89, 3) := by decide +kernel
theorem d6_actTail_38 : decode prog_8_method_21_code 38 = .ok (.aload_n 0, 1) := by decide +kernel
theorem d6_actTail_39 : decode prog_8_method_21_code 39 = .ok (.iconst 5, 1) := by decide +kernel
theorem d6_actTail_40 : decode prog_8_method_21_code 40 = .ok (.invokevirtual 176, 3) := by decide +kernel
theorem d6_actTail_43 : decode prog_8_method_21_code 43 = .ok (.goto 81, 3) := by decide +kernel
theorem d6_actTail_46 : decode prog_8_method_21_code 46 = .ok (.iload_n 2, 1) := by decide +kernel
theorem d6_actTail_47 : decode prog_8_method_21_code 47 = .ok (.bipush 9, 2) := by decide +kernel
theorem d6_actTail_49 : decode prog_8_method_21_code 49 = .ok (.if_icmp .lt 11, 3) := by decide +kernel
theorem d6_actTail_52 : decode prog_8_method_21_code 52 = .ok (.aload_n 0, 1) := by decide +kernel
theorem d6_actTail_53 : decode prog_8_method_21_code 53 = .ok (.iload_n 1, 1) := by decide +kernel
theorem d6_actTail_54 : decode prog_8_method_21_code 54 = .ok (.invokevirtual 225, 3) := by decide +kernel
theorem d6_actTail_57 : decode prog_8_method_21_code 57 = .ok (.goto 67, 3) := by decide +kernel
theorem d6_actTail_60 : decode prog_8_method_21_code 60 = .ok (.iload_n 1, 1) := by decide +kernel
theorem d6_actTail_61 : decode prog_8_method_21_code 61 = .ok (.ifCond .ne 22, 3) := by decide +kernel
theorem d6_actTail_64 : decode prog_8_method_21_code 64 = .ok (.aload_n 0, 1) := by decide +kernel
theorem d6_actTail_65 : decode prog_8_method_21_code 65 = .ok (.aload_n 0, 1) := by decide +kernel
theorem d6_actTail_66 : decode prog_8_method_21_code 66 = .ok (.getfield 70, 3) := by decide +kernel
theorem d6_actTail_69 : decode prog_8_method_21_code 69 = .ok (.ifCond .eq 7, 3) := by decide +kernel
theorem d6_actTail_72 : decode prog_8_method_21_code 72 = .ok (.iconst 1, 1) := by decide +kernel
theorem d6_actTail_73 : decode prog_8_method_21_code 73 = .ok (.goto 4, 3) := by decide +kernel
theorem d6_actTail_76 : decode prog_8_method_21_code 76 = .ok (.iconst 4, 1) := by decide +kernel
theorem d6_actTail_77 : decode prog_8_method_21_code 77 = .ok (.invokevirtual 176, 3) := by decide +kernel
theorem d6_actTail_80 : decode prog_8_method_21_code 80 = .ok (.goto 44, 3) := by decide +kernel
theorem d6_actTail_83 : decode prog_8_method_21_code 83 = .ok (.aload_n 0, 1) := by decide +kernel
theorem d6_actTail_84 : decode prog_8_method_21_code 84 = .ok (.getfield 70, 3) := by decide +kernel
theorem d6_actTail_87 : decode prog_8_method_21_code 87 = .ok (.ifCond .eq 4, 3) := by decide +kernel
theorem d6_actTail_90 : decode prog_8_method_21_code 90 = .ok (.return_, 1) := by decide +kernel
theorem d6_actTail_91 : decode prog_8_method_21_code 91 = .ok (.iload_n 2, 1) := by decide +kernel
theorem d6_actTail_92 : decode prog_8_method_21_code 92 = .ok (.iconst 2, 1) := by decide +kernel
theorem d6_actTail_93 : decode prog_8_method_21_code 93 = .ok (.if_icmp .ne 21, 3) := by decide +kernel
theorem d6_actTail_96 : decode prog_8_method_21_code 96 = .ok (.aload_n 0, 1) := by decide +kernel
theorem d6_actTail_97 : decode prog_8_method_21_code 97 = .ok (.getfield 36, 3) := by decide +kernel
theorem d6_actTail_100 : decode prog_8_method_21_code 100 = .ok (.invokevirtual 228, 3) := by decide +kernel
theorem d6_actTail_103 : decode prog_8_method_21_code 103 = .ok (.ifCond .ne 11, 3) := by decide +kernel
theorem d6_actTail_106 : decode prog_8_method_21_code 106 = .ok (.aload_n 0, 1) := by decide +kernel
theorem d6_actTail_107 : decode prog_8_method_21_code 107 = .ok (.iconst 3, 1) := by decide +kernel
theorem d6_actTail_108 : decode prog_8_method_21_code 108 = .ok (.invokevirtual 176, 3) := by decide +kernel
theorem d6_actTail_111 : decode prog_8_method_21_code 111 = .ok (.goto 13, 3) := by decide +kernel
theorem d6_actTail_114 : decode prog_8_method_21_code 114 = .ok (.iload_n 2, 1) := by decide +kernel
theorem d6_actTail_115 : decode prog_8_method_21_code 115 = .ok (.bipush 8, 2) := by decide +kernel
theorem d6_actTail_117 : decode prog_8_method_21_code 117 = .ok (.if_icmp .ne 7, 3) := by decide +kernel
theorem d6_actTail_120 : decode prog_8_method_21_code 120 = .ok (.aload_n 0, 1) := by decide +kernel
theorem d6_actTail_121 : decode prog_8_method_21_code 121 = .ok (.invokevirtual 231, 3) := by decide +kernel
theorem d6_actTail_124 : decode prog_8_method_21_code 124 = .ok (.return_, 1) := by decide +kernel
theorem d6_endFrame_0 : decode prog_8_method_22_code 0 = .ok (.iload_n 1, 1) := by decide +kernel
theorem d6_endFrame_1 : decode prog_8_method_22_code 1 = .ok (.ifCond .ne 25, 3) := by decide +kernel
theorem d6_endFrame_4 : decode prog_8_method_22_code 4 = .ok (.aload_n 0, 1) := by decide +kernel
theorem d6_endFrame_5 : decode prog_8_method_22_code 5 = .ok (.getfield 70, 3) := by decide +kernel
theorem d6_endFrame_8 : decode prog_8_method_22_code 8 = .ok (.ifCond .eq 11, 3) := by decide +kernel
theorem d6_endFrame_11 : decode prog_8_method_22_code 11 = .ok (.aload_n 0, 1) := by decide +kernel
theorem d6_endFrame_12 : decode prog_8_method_22_code 12 = .ok (.iconst 1, 1) := by decide +kernel
theorem d6_endFrame_13 : decode prog_8_method_22_code 13 = .ok (.invokevirtual 176, 3) := by decide +kernel
theorem d6_endFrame_16 : decode prog_8_method_22_code 16 = .ok (.goto 9, 3) := by decide +kernel
theorem d6_endFrame_19 : decode prog_8_method_22_code 19 = .ok (.aload_n 0, 1) := by decide +kernel
theorem d6_endFrame_20 : decode prog_8_method_22_code 20 = .ok (.bipush 6, 2) := by decide +kernel
theorem d6_endFrame_22 : decode prog_8_method_22_code 22 = .ok (.invokevirtual 169, 3) := by decide +kernel
theorem d6_endFrame_25 : decode prog_8_method_22_code 25 = .ok (.return_, 1) := by decide +kernel
theorem d6_endFrame_26 : decode prog_8_method_22_code 26 = .ok (.aload_n 0, 1) := by decide +kernel
theorem d6_endFrame_27 : decode prog_8_method_22_code 27 = .ok (.getfield 70, 3) := by decide +kernel
theorem d6_endFrame_30 : decode prog_8_method_22_code 30 = .ok (.ifCond .eq 41, 3) := by decide +kernel
theorem d6_endFrame_33 : decode prog_8_method_22_code 33 = .ok (.aload_n 0, 1) := by decide +kernel
theorem d6_endFrame_34 : decode prog_8_method_22_code 34 = .ok (.getfield 23, 3) := by decide +kernel
theorem d6_endFrame_37 : decode prog_8_method_22_code 37 = .ok (.aload_n 0, 1) := by decide +kernel
theorem d6_endFrame_38 : decode prog_8_method_22_code 38 = .ok (.getfield 47, 3) := by decide +kernel
theorem d6_endFrame_41 : decode prog_8_method_22_code 41 = .ok (.invokevirtual 119, 3) := by decide +kernel
theorem d6_endFrame_44 : decode prog_8_method_22_code 44 = .ok (.aload_n 0, 1) := by decide +kernel
theorem d6_endFrame_45 : decode prog_8_method_22_code 45 = .ok (.iconst 0, 1) := by decide +kernel
theorem d6_endFrame_46 : decode prog_8_method_22_code 46 = .ok (.aload_n 0, 1) := by decide +kernel
theorem d6_endFrame_47 : decode prog_8_method_22_code 47 = .ok (.getfield 74, 3) := by decide +kernel
theorem d6_endFrame_50 : decode prog_8_method_22_code 50 = .ok (.iconst 1, 1) := by decide +kernel
theorem d6_endFrame_51 : decode prog_8_method_22_code 51 = .ok (.isub, 1) := by decide +kernel
theorem d6_endFrame_52 : decode prog_8_method_22_code 52 = .ok (.invokestatic 234, 3) := by decide +kernel
theorem d6_endFrame_55 : decode prog_8_method_22_code 55 = .ok (.putfield 74, 3) := by decide +kernel
theorem d6_endFrame_58 : decode prog_8_method_22_code 58 = .ok (.aload_n 0, 1) := by decide +kernel
theorem d6_endFrame_59 : decode prog_8_method_22_code 59 = .ok (.getfield 12, 3) := by decide +kernel
theorem d6_endFrame_62 : decode prog_8_method_22_code 62 = .ok (.dup, 1) := by decide +kernel
theorem d6_endFrame_63 : decode prog_8_method_22_code 63 = .ok (.getfield 240, 3) := by decide +kernel
theorem d6_endFrame_66 : decode prog_8_method_22_code 66 = .ok (.iconst 1, 1) := by decide +kernel
theorem d6_endFrame_67 : decode prog_8_method_22_code 67 = .ok (.iadd, 1) := by decide +kernel
theorem d6_endFrame_68 : decode prog_8_method_22_code 68 = .ok (.putfield 240, 3) := by decide +kernel
theorem d6_endFrame_71 : decode prog_8_method_22_code 71 = .ok (.aload_n 0, 1) := by decide +kernel
theorem d6_endFrame_72 : decode prog_8_method_22_code 72 = .ok (.bipush 8, 2) := by decide +kernel
theorem d6_endFrame_74 : decode prog_8_method_22_code 74 = .ok (.invokevirtual 169, 3) := by decide +kernel
theorem d6_endFrame_77 : decode prog_8_method_22_code 77 = .ok (.return_, 1) := by decide +kernel
theorem d6_acceptFrame_0 : decode prog_8_method_23_code 0 = .ok (.aload_n 0, 1) := by decide +kernel
theorem d6_acceptFrame_1 : decode prog_8_method_23_code 1 = .ok (.getfield 77, 3) := by decide +kernel
theorem d6_acceptFrame_4 : decode prog_8_method_23_code 4 = .ok (.aload_n 0, 1) := by decide +kernel
theorem d6_acceptFrame_5 : decode prog_8_method_23_code 5 = .ok (.getfield 50, 3) := by decide +kernel
theorem d6_acceptFrame_8 : decode prog_8_method_23_code 8 = .ok (.getfield 96, 3) := by decide +kernel
theorem d6_acceptFrame_11 : decode prog_8_method_23_code 11 = .ok (.if_icmp .lt 20, 3) := by decide +kernel
theorem d6_acceptFrame_14 : decode prog_8_method_23_code 14 = .ok (.aload_n 0, 1) := by decide +kernel
theorem d6_acceptFrame_15 : decode prog_8_method_23_code 15 = .ok (.aload_n 0, 1) := by decide +kernel
theorem d6_acceptFrame_16 : decode prog_8_method_23_code 16 = .ok (.getfield 50, 3) := by decide +kernel
theorem d6_acceptFrame_19 : decode prog_8_method_23_code 19 = .ok (.getfield 96, 3) := by decide +kernel
theorem d6_acceptFrame_22 : decode prog_8_method_23_code 22 = .ok (.bipush 8, 2) := by decide +kernel
theorem d6_acceptFrame_24 : decode prog_8_method_23_code 24 = .ok (.isub, 1) := by decide +kernel
theorem d6_acceptFrame_25 : decode prog_8_method_23_code 25 = .ok (.putfield 77, 3) := by decide +kernel
theorem d6_acceptFrame_28 : decode prog_8_method_23_code 28 = .ok (.goto 20, 3) := by decide +kernel
theorem d6_acceptFrame_31 : decode prog_8_method_23_code 31 = .ok (.aload_n 0, 1) := by decide +kernel
theorem d6_acceptFrame_32 : decode prog_8_method_23_code 32 = .ok (.getfield 77, 3) := by decide +kernel
theorem d6_acceptFrame_35 : decode prog_8_method_23_code 35 = .ok (.ifCond .le 13, 3) := by decide +kernel
theorem d6_acceptFrame_38 : decode prog_8_method_23_code 38 = .ok (.aload_n 0, 1) := by decide +kernel
theorem d6_acceptFrame_39 : decode prog_8_method_23_code 39 = .ok (.dup, 1) := by decide +kernel
theorem d6_acceptFrame_40 : decode prog_8_method_23_code 40 = .ok (.getfield 77, 3) := by decide +kernel
theorem d6_acceptFrame_43 : decode prog_8_method_23_code 43 = .ok (.iconst 1, 1) := by decide +kernel
theorem d6_acceptFrame_44 : decode prog_8_method_23_code 44 = .ok (.isub, 1) := by decide +kernel
theorem d6_acceptFrame_45 : decode prog_8_method_23_code 45 = .ok (.putfield 77, 3) := by decide +kernel
theorem d6_acceptFrame_48 : decode prog_8_method_23_code 48 = .ok (.aload_n 0, 1) := by decide +kernel
theorem d6_acceptFrame_49 : decode prog_8_method_23_code 49 = .ok (.getfield 36, 3) := by decide +kernel
theorem d6_acceptFrame_52 : decode prog_8_method_23_code 52 = .ok (.invokevirtual 243, 3) := by decide +kernel
theorem d6_acceptFrame_55 : decode prog_8_method_23_code 55 = .ok (.istore_n 1, 1) := by decide +kernel
theorem d6_acceptFrame_56 : decode prog_8_method_23_code 56 = .ok (.iload_n 1, 1) := by decide +kernel
theorem d6_acceptFrame_57 : decode prog_8_method_23_code 57 = .ok (.iconst 1, 1) := by decide +kernel
theorem d6_acceptFrame_58 : decode prog_8_method_23_code 58 = .ok (.ishr, 1) := by decide +kernel
theorem d6_acceptFrame_59 : decode prog_8_method_23_code 59 = .ok (.aload_n 0, 1) := by decide +kernel
theorem d6_acceptFrame_60 : decode prog_8_method_23_code 60 = .ok (.getfield 67, 3) := by decide +kernel
theorem d6_acceptFrame_63 : decode prog_8_method_23_code 63 = .ok (.ixor, 1) := by decide +kernel
theorem d6_acceptFrame_64 : decode prog_8_method_23_code 64 = .ok (.aload_n 0, 1) := by decide +kernel
theorem d6_acceptFrame_65 : decode prog_8_method_23_code 65 = .ok (.getfield 64, 3) := by decide +kernel
theorem d6_acceptFrame_68 : decode prog_8_method_23_code 68 = .ok (.iand, 1) := by decide +kernel
theorem d6_acceptFrame_69 : decode prog_8_method_23_code 69 = .ok (.ifCond .eq 4, 3) := by decide +kernel
theorem d6_acceptFrame_72 : decode prog_8_method_23_code 72 = .ok (.return_, 1) := by decide +kernel
theorem d6_acceptFrame_73 : decode prog_8_method_23_code 73 = .ok (.iload_n 1, 1) := by decide +kernel
theorem d6_acceptFrame_74 : decode prog_8_method_23_code 74 = .ok (.iconst 1, 1) := by decide +kernel
theorem d6_acceptFrame_75 : decode prog_8_method_23_code 75 = .ok (.iand, 1) := by decide +kernel
theorem d6_acceptFrame_76 : decode prog_8_method_23_code 76 = .ok (.iconst 1, 1) := by decide +kernel
theorem d6_acceptFrame_77 : decode prog_8_method_23_code 77 = .ok (.if_icmp .ne 16, 3) := by decide +kernel
theorem d6_acceptFrame_80 : decode prog_8_method_23_code 80 = .ok (.aload_n 0, 1) := by decide +kernel
theorem d6_acceptFrame_81 : decode prog_8_method_23_code 81 = .ok (.getfield 30, 3) := by decide +kernel
theorem d6_acceptFrame_84 : decode prog_8_method_23_code 84 = .ok (.iload_n 1, 1) := by decide +kernel
theorem d6_acceptFrame_85 : decode prog_8_method_23_code 85 = .ok (.iconst 1, 1) := by decide +kernel
theorem d6_acceptFrame_86 : decode prog_8_method_23_code 86 = .ok (.isub, 1) := by decide +kernel
theorem d6_acceptFrame_87 : decode prog_8_method_23_code 87 = .ok (.invokevirtual 246, 3) := by decide +kernel
theorem d6_acceptFrame_90 : decode prog_8_method_23_code 90 = .ok (.goto 4, 3) := by decide +kernel
theorem d6_acceptFrame_93 : decode prog_8_method_23_code 93 = .ok (.iconst (-1), 1) := by decide +kernel
theorem d6_acceptFrame_94 : decode prog_8_method_23_code 94 = .ok (.istore_n 2, 1) := by decide +kernel
theorem d6_acceptFrame_95 : decode prog_8_method_23_code 95 = .ok (.iload_n 2, 1) := by decide +kernel
theorem d6_acceptFrame_96 : decode prog_8_method_23_code 96 = .ok (.ifCond .lt 30, 3) := by decide +kernel
theorem d6_acceptFrame_99 : decode prog_8_method_23_code 99 = .ok (.aload_n 0, 1) := by decide +kernel
theorem d6_acceptFrame_100 : decode prog_8_method_23_code 100 = .ok (.iload_n 1, 1) := by decide +kernel
theorem d6_acceptFrame_101 : decode prog_8_method_23_code 101 = .ok (.iconst 1, 1) := by decide +kernel
theorem d6_acceptFrame_102 : decode prog_8_method_23_code 102 = .ok (.isub, 1) := by decide +kernel
theorem d6_acceptFrame_103 : decode prog_8_method_23_code 103 = .ok (.aload_n 0, 1) := by decide +kernel
theorem d6_acceptFrame_104 : decode prog_8_method_23_code 104 = .ok (.getfield 30, 3) := by decide +kernel
theorem d6_acceptFrame_107 : decode prog_8_method_23_code 107 = .ok (.iload_n 2, 1) := by decide +kernel
theorem d6_acceptFrame_108 : decode prog_8_method_23_code 108 = .ok (.invokevirtual 188, 3) := by decide +kernel
theorem d6_acceptFrame_111 : decode prog_8_method_23_code 111 = .ok (.aload_n 0, 1) := by decide +kernel
theorem d6_acceptFrame_112 : decode prog_8_method_23_code 112 = .ok (.getfield 30, 3) := by decide +kernel
theorem d6_acceptFrame_115 : decode prog_8_method_23_code 115 = .ok (.iload_n 2, 1) := by decide +kernel
theorem d6_acceptFrame_116 : decode prog_8_method_23_code 116 = .ok (.invokevirtual 191, 3) := by decide +kernel
theorem d6_acceptFrame_119 : decode prog_8_method_23_code 119 = .ok (.invokevirtual 249, 3) := by decide +kernel
theorem d6_acceptFrame_122 : decode prog_8_method_23_code 122 = .ok (.pop, 1) := by decide +kernel
theorem d6_acceptFrame_123 : decode prog_8_method_23_code 123 = .ok (.goto 58, 3) := by decide +kernel
theorem d6_acceptFrame_126 : decode prog_8_method_23_code 126 = .ok (.aload_n 0, 1) := by decide +kernel
theorem d6_acceptFrame_127 : decode prog_8_method_23_code 127 = .ok (.getfield 27, 3) := by decide +kernel
theorem d6_acceptFrame_130 : decode prog_8_method_23_code 130 = .ok (.invokevirtual 101, 3) := by decide +kernel
theorem d6_acceptFrame_133 : decode prog_8_method_23_code 133 = .ok (.ifCond .eq 19, 3) := by decide +kernel
theorem d6_acceptFrame_136 : decode prog_8_method_23_code 136 = .ok (.aload_n 0, 1) := by decide +kernel
theorem d6_acceptFrame_137 : decode prog_8_method_23_code 137 = .ok (.getfield 12, 3) := by decide +kernel
theorem d6_acceptFrame_140 : decode prog_8_method_23_code 140 = .ok (.dup, 1) := by decide +kernel
theorem d6_acceptFrame_141 : decode prog_8_method_23_code 141 = .ok (.getfield 253, 3) := by decide +kernel
theorem d6_acceptFrame_144 : decode prog_8_method_23_code 144 = .ok (.iconst 1, 1) := by decide +kernel
theorem d6_acceptFrame_145 : decode prog_8_method_23_code 145 = .ok (.iadd, 1) := by decide +kernel
theorem d6_acceptFrame_146 : decode prog_8_method_23_code 146 = .ok (.putfield 253, 3) := by decide +kernel
theorem d6_acceptFrame_149 : decode prog_8_method_23_code 149 = .ok (.goto 32, 3) := by decide +kernel
theorem d6_acceptFrame_152 : decode prog_8_method_23_code 152 = .ok (.aload_n 0, 1) := by decide +kernel
theorem d6_acceptFrame_153 : decode prog_8_method_23_code 153 = .ok (.getfield 27, 3) := by decide +kernel
theorem d6_acceptFrame_156 : decode prog_8_method_23_code 156 = .ok (.aload_n 0, 1) := by decide +kernel
theorem d6_acceptFrame_157 : decode prog_8_method_23_code 157 = .ok (.getfield 27, 3) := by decide +kernel
theorem d6_acceptFrame_160 : decode prog_8_method_23_code 160 = .ok (.getfield 113, 3) := by decide +kernel
theorem d6_acceptFrame_163 : decode prog_8_method_23_code 163 = .ok (.iload_n 1, 1) := by decide +kernel
theorem d6_acceptFrame_164 : decode prog_8_method_23_code 164 = .ok (.aload_n 0, 1) := by decide +kernel
theorem d6_acceptFrame_165 : decode prog_8_method_23_code 165 = .ok (.getfield 36, 3) := by decide +kernel
theorem d6_acceptFrame_168 : decode prog_8_method_23_code 168 = .ok (.invokevirtual 256, 3) := by decide +kernel
theorem d6_acceptFrame_171 : decode prog_8_method_23_code 171 = .ok (.aload_n 0, 1) := by decide +kernel
theorem d6_acceptFrame_172 : decode prog_8_method_23_code 172 = .ok (.getfield 36, 3) := by decide +kernel
theorem d6_acceptFrame_175 : decode prog_8_method_23_code 175 = .ok (.invokevirtual 259, 3) := by decide +kernel
theorem d6_acceptFrame_178 : decode prog_8_method_23_code 178 = .ok (.invokevirtual 109, 3) := by decide +kernel
theorem d6_acceptFrame_181 : decode prog_8_method_23_code 181 = .ok (.return_, 1) := by decide +kernel
theorem d6_fail_0 : decode prog_8_method_24_code 0 = .ok (.aload_n 0, 1) := by decide +kernel
theorem d6_fail_1 : decode prog_8_method_24_code 1 = .ok (.getfield 12, 3) := by decide +kernel
theorem d6_fail_4 : decode prog_8_method_24_code 4 = .ok (.iload_n 1, 1) := by decide +kernel
theorem d6_fail_5 : decode prog_8_method_24_code 5 = .ok (.invokevirtual 262, 3) := by decide +kernel
theorem d6_fail_8 : decode prog_8_method_24_code 8 = .ok (.aload_n 0, 1) := by decide +kernel
theorem d6_fail_9 : decode prog_8_method_24_code 9 = .ok (.getfield 70, 3) := by decide +kernel
theorem d6_fail_12 : decode prog_8_method_24_code 12 = .ok (.ifCond .ne 11, 3) := by decide +kernel
theorem d6_fail_15 : decode prog_8_method_24_code 15 = .ok (.aload_n 0, 1) := by decide +kernel
theorem d6_fail_16 : decode prog_8_method_24_code 16 = .ok (.iconst 1, 1) := by decide +kernel
theorem d6_fail_17 : decode prog_8_method_24_code 17 = .ok (.invokevirtual 179, 3) := by decide +kernel
theorem d6_fail_20 : decode prog_8_method_24_code 20 = .ok (.goto 26, 3) := by decide +kernel
theorem d6_fail_23 : decode prog_8_method_24_code 23 = .ok (.iload_n 1, 1) := by decide +kernel
theorem d6_fail_24 : decode prog_8_method_24_code 24 = .ok (.iconst 5, 1) := by decide +kernel
theorem d6_fail_25 : decode prog_8_method_24_code 25 = .ok (.if_icmp .ne 10, 3) := by decide +kernel
theorem d6_fail_28 : decode prog_8_method_24_code 28 = .ok (.aload_n 0, 1) := by decide +kernel
theorem d6_fail_29 : decode prog_8_method_24_code 29 = .ok (.invokevirtual 182, 3) := by decide +kernel
theorem d6_fail_32 : decode prog_8_method_24_code 32 = .ok (.ifCond .ne 14, 3) := by decide +kernel
theorem d6_fail_35 : decode prog_8_method_24_code 35 = .ok (.aload_n 0, 1) := by decide +kernel
theorem d6_fail_36 : decode prog_8_method_24_code 36 = .ok (.dup, 1) := by decide +kernel
theorem d6_fail_37 : decode prog_8_method_24_code 37 = .ok (.getfield 74, 3) := by decide +kernel
theorem d6_fail_40 : decode prog_8_method_24_code 40 = .ok (.bipush 8, 2) := by decide +kernel
theorem d6_fail_42 : decode prog_8_method_24_code 42 = .ok (.iadd, 1) := by decide +kernel
theorem d6_fail_43 : decode prog_8_method_24_code 43 = .ok (.putfield 74, 3) := by decide +kernel
theorem d6_fail_46 : decode prog_8_method_24_code 46 = .ok (.aload_n 0, 1) := by decide +kernel
theorem d6_fail_47 : decode prog_8_method_24_code 47 = .ok (.getfield 74, 3) := by decide +kernel
theorem d6_fail_50 : decode prog_8_method_24_code 50 = .ok (.aload_n 0, 1) := by decide +kernel
theorem d6_fail_51 : decode prog_8_method_24_code 51 = .ok (.getfield 50, 3) := by decide +kernel
theorem d6_fail_54 : decode prog_8_method_24_code 54 = .ok (.getfield 265, 3) := by decide +kernel
theorem d6_fail_57 : decode prog_8_method_24_code 57 = .ok (.if_icmp .lt 11, 3) := by decide +kernel
theorem d6_fail_60 : decode prog_8_method_24_code 60 = .ok (.aload_n 0, 1) := by decide +kernel
theorem d6_fail_61 : decode prog_8_method_24_code 61 = .ok (.iconst 1, 1) := by decide +kernel
theorem d6_fail_62 : decode prog_8_method_24_code 62 = .ok (.invokevirtual 169, 3) := by decide +kernel
theorem d6_fail_65 : decode prog_8_method_24_code 65 = .ok (.goto 24, 3) := by decide +kernel
theorem d6_fail_68 : decode prog_8_method_24_code 68 = .ok (.aload_n 0, 1) := by decide +kernel
theorem d6_fail_69 : decode prog_8_method_24_code 69 = .ok (.aload_n 0, 1) := by decide +kernel
theorem d6_fail_70 : decode prog_8_method_24_code 70 = .ok (.invokevirtual 182, 3) := by decide +kernel
theorem d6_fail_73 : decode prog_8_method_24_code 73 = .ok (.ifCond .ne 7, 3) := by decide +kernel
theorem d6_fail_76 : decode prog_8_method_24_code 76 = .ok (.iconst 1, 1) := by decide +kernel
theorem d6_fail_77 : decode prog_8_method_24_code 77 = .ok (.goto 4, 3) := by decide +kernel
theorem d6_fail_80 : decode prog_8_method_24_code 80 = .ok (.iconst 0, 1) := by decide +kernel
theorem d6_fail_81 : decode prog_8_method_24_code 81 = .ok (.putfield 86, 3) := by decide +kernel
theorem d6_fail_84 : decode prog_8_method_24_code 84 = .ok (.aload_n 0, 1) := by decide +kernel
theorem d6_fail_85 : decode prog_8_method_24_code 85 = .ok (.iconst 5, 1) := by decide +kernel
theorem d6_fail_86 : decode prog_8_method_24_code 86 = .ok (.invokevirtual 169, 3) := by decide +kernel
theorem d6_fail_89 : decode prog_8_method_24_code 89 = .ok (.return_, 1) := by decide +kernel
theorem d6_raiseReceiveCounter_0 : decode prog_8_method_25_code 0 = .ok (.aload_n 0, 1) := by decide +kernel
theorem d6_raiseReceiveCounter_1 : decode prog_8_method_25_code 1 = .ok (.sipush 255, 3) := by decide +kernel
theorem d6_raiseReceiveCounter_4 : decode prog_8_method_25_code 4 = .ok (.aload_n 0, 1) := by decide +kernel
theorem d6_raiseReceiveCounter_5 : decode prog_8_method_25_code 5 = .ok (.getfield 77, 3) := by decide +kernel
theorem d6_raiseReceiveCounter_8 : decode prog_8_method_25_code 8 = .ok (.iload_n 1, 1) := by decide +kernel
theorem d6_raiseReceiveCounter_9 : decode prog_8_method_25_code 9 = .ok (.iadd, 1) := by decide +kernel
theorem d6_raiseReceiveCounter_10 : decode prog_8_method_25_code 10 = .ok (.invokestatic 268, 3) := by decide +kernel
theorem d6_raiseReceiveCounter_13 : decode prog_8_method_25_code 13 = .ok (.putfield 77, 3) := by decide +kernel
theorem d6_raiseReceiveCounter_16 : decode prog_8_method_25_code 16 = .ok (.return_, 1) := by decide +kernel
theorem d7_init_0 : decode prog_9_method_1_code 0 = .ok (.aload_n 0, 1) := by decide +kernel
theorem d7_init_1 : decode prog_9_method_1_code 1 = .ok (.invokespecial 1, 3) := by decide +kernel
theorem d7_init_4 : decode prog_9_method_1_code 4 = .ok (.return_, 1) := by decide +kernel
theorem d7_restart_0 : decode prog_9_method_2_code 0 = .ok (.aload_n 0, 1) := by decide +kernel
theorem d7_restart_1 : decode prog_9_method_2_code 1 = .ok (.iconst 0, 1) := by decide +kernel
theorem d7_restart_2 : decode prog_9_method_2_code 2 = .ok (.putfield 9, 3) := by decide +kernel
theorem d7_restart_5 : decode prog_9_method_2_code 5 = .ok (.return_, 1) := by decide +kernel
theorem d7_isBetweenRequests_0 : decode prog_9_method_3_code 0 = .ok (.aload_n 0, 1) := by decide +kernel
theorem d7_isBetweenRequests_1 : decode prog_9_method_3_code 1 = .ok (.getfield 9, 3) := by decide +kernel
theorem d7_isBetweenRequests_4 : decode prog_9_method_3_code 4 = .ok (.ifCond .ne 7, 3) := by decide +kernel
theorem d7_isBetweenRequests_7 : decode prog_9_method_3_code 7 = .ok (.iconst 1, 1) := by decide +kernel
theorem d7_isBetweenRequests_8 : decode prog_9_method_3_code 8 = .ok (.goto 4, 3) := by decide +kernel
theorem d7_isBetweenRequests_11 : decode prog_9_method_3_code 11 = .ok (.iconst 0, 1) := by decide +kernel
theorem d7_isBetweenRequests_12 : decode prog_9_method_3_code 12 = .ok (.ireturn, 1) := by decide +kernel
theorem d7_take_0 : decode prog_9_method_4_code 0 = .ok (.aload_n 0, 1) := by decide +kernel
theorem d7_take_1 : decode prog_9_method_4_code 1 = .ok (.iload_n 1, 1) := by decide +kernel
theorem d7_take_2 : decode prog_9_method_4_code 2 = .ok (.invokevirtual 13, 3) := by decide +kernel
theorem d7_take_5 : decode prog_9_method_4_code 5 = .ok (.istore_n 2, 1) := by decide +kernel
theorem d7_take_6 : decode prog_9_method_4_code 6 = .ok (.iload_n 2, 1) := by decide +kernel
theorem d7_take_7 : decode prog_9_method_4_code 7 = .ok (.iconst (-1), 1) := by decide +kernel
theorem d7_take_8 : decode prog_9_method_4_code 8 = .ok (.if_icmp .ne 5, 3) := by decide +kernel
theorem d7_take_11 : decode prog_9_method_4_code 11 = .ok (.iconst 0, 1) := by decide +kernel
theorem d7_take_12 : decode prog_9_method_4_code 12 = .ok (.ireturn, 1) := by decide +kernel
theorem d7_take_13 : decode prog_9_method_4_code 13 = .ok (.aload_n 0, 1) := by decide +kernel
theorem d7_take_14 : decode prog_9_method_4_code 14 = .ok (.iload_n 1, 1) := by decide +kernel
theorem d7_take_15 : decode prog_9_method_4_code 15 = .ok (.invokevirtual 17, 3) := by decide +kernel
theorem d7_take_18 : decode prog_9_method_4_code 18 = .ok (.aload_n 0, 1) := by decide +kernel
theorem d7_take_19 : decode prog_9_method_4_code 19 = .ok (.iload_n 2, 1) := by decide +kernel
theorem d7_take_20 : decode prog_9_method_4_code 20 = .ok (.putfield 9, 3) := by decide +kernel
theorem d7_take_23 : decode prog_9_method_4_code 23 = .ok (.iconst 1, 1) := by decide +kernel
theorem d7_take_24 : decode prog_9_method_4_code 24 = .ok (.ireturn, 1) := by decide +kernel
theorem d7_stateAfter_0 : decode prog_9_method_5_code 0 = .ok (.aload_n 0, 1) := by decide +kernel
theorem d7_stateAfter_1 : decode prog_9_method_5_code 1 = .ok (.getfield 9, 3) := by decide +kernel
theorem d7_stateAfter_4 : decode prog_9_method_5_code 4 = .ok (.tableswitch 196 0 16 #[84, 101, 113, 135, 135, 153, 196, 196, 196, 196, 196, 196, 196, 196, 196, 166, 184], 84) := by decide +kernel
theorem d7_stateAfter_88 : decode prog_9_method_5_code 88 = .ok (.iload_n 1, 1) := by decide +kernel
theorem d7_stateAfter_89 : decode prog_9_method_5_code 89 = .ok (.bipush 48, 2) := by decide +kernel
theorem d7_stateAfter_91 : decode prog_9_method_5_code 91 = .ok (.bipush 51, 2) := by decide +kernel
theorem d7_stateAfter_93 : decode prog_9_method_5_code 93 = .ok (.invokestatic 21, 3) := by decide +kernel
theorem d7_stateAfter_96 : decode prog_9_method_5_code 96 = .ok (.ifCond .eq 7, 3) := by decide +kernel
theorem d7_stateAfter_99 : decode prog_9_method_5_code 99 = .ok (.iconst 1, 1) := by decide +kernel
theorem d7_stateAfter_100 : decode prog_9_method_5_code 100 = .ok (.goto 4, 3) := by decide +kernel
theorem d7_stateAfter_103 : decode prog_9_method_5_code 103 = .ok (.iconst (-1), 1) := by decide +kernel
theorem d7_stateAfter_104 : decode prog_9_method_5_code 104 = .ok (.ireturn, 1) := by decide +kernel
theorem d7_stateAfter_105 : decode prog_9_method_5_code 105 = .ok (.iload_n 1, 1) := by decide +kernel
theorem d7_stateAfter_106 : decode prog_9_method_5_code 106 = .ok (.bipush 58, 2) := by decide +kernel
theorem d7_stateAfter_108 : decode prog_9_method_5_code 108 = .ok (.if_icmp .ne 7, 3) := by decide +kernel
theorem d7_stateAfter_111 : decode prog_9_method_5_code 111 = .ok (.iconst 2, 1) := by decide +kernel
theorem d7_stateAfter_112 : decode prog_9_method_5_code 112 = .ok (.goto 4, 3) := by decide +kernel
theorem d7_stateAfter_115 : decode prog_9_method_5_code 115 = .ok (.iconst (-1), 1) := by decide +kernel
theorem d7_stateAfter_116 : decode prog_9_method_5_code 116 = .ok (.ireturn, 1) := by decide +kernel
theorem d7_stateAfter_117 : decode prog_9_method_5_code 117 = .ok (.iload_n 1, 1) := by decide +kernel
theorem d7_stateAfter_118 : decode prog_9_method_5_code 118 = .ok (.bipush 48, 2) := by decide +kernel
theorem d7_stateAfter_120 : decode prog_9_method_5_code 120 = .ok (.bipush 55, 2) := by decide +kernel
theorem d7_stateAfter_122 : decode prog_9_method_5_code 122 = .ok (.invokestatic 21, 3) := by decide +kernel
theorem d7_stateAfter_125 : decode prog_9_method_5_code 125 = .ok (.ifCond .eq 12, 3) := by decide +kernel
theorem d7_stateAfter_128 : decode prog_9_method_5_code 128 = .ok (.aload_n 0, 1) := by decide +kernel
theorem d7_stateAfter_129 : decode prog_9_method_5_code 129 = .ok (.getfield 9, 3) := by decide +kernel
theorem d7_stateAfter_132 : decode prog_9_method_5_code 132 = .ok (.iconst 1, 1) := by decide +kernel
theorem d7_stateAfter_133 : decode prog_9_method_5_code 133 = .ok (.iadd, 1) := by decide +kernel
theorem d7_stateAfter_134 : decode prog_9_method_5_code 134 = .ok (.goto 4, 3) := by decide +kernel
theorem d7_stateAfter_137 : decode prog_9_method_5_code 137 = .ok (.iconst (-1), 1) := by decide +kernel
theorem d7_stateAfter_138 : decode prog_9_method_5_code 138 = .ok (.ireturn, 1) := by decide +kernel
theorem d7_stateAfter_139 : decode prog_9_method_5_code 139 = .ok (.iload_n 1, 1) := by decide +kernel
theorem d7_stateAfter_140 : decode prog_9_method_5_code 140 = .ok (.invokestatic 27, 3) := by decide +kernel
theorem d7_stateAfter_143 : decode prog_9_method_5_code 143 = .ok (.ifCond .lt 12, 3) := by decide +kernel
theorem d7_stateAfter_146 : decode prog_9_method_5_code 146 = .ok (.aload_n 0, 1) := by decide +kernel
theorem d7_stateAfter_147 : decode prog_9_method_5_code 147 = .ok (.getfield 9, 3) := by decide +kernel
theorem d7_stateAfter_150 : decode prog_9_method_5_code 150 = .ok (.iconst 1, 1) := by decide +kernel
theorem d7_stateAfter_151 : decode prog_9_method_5_code 151 = .ok (.iadd, 1) := by decide +kernel
theorem d7_stateAfter_152 : decode prog_9_method_5_code 152 = .ok (.goto 4, 3) := by decide +kernel
theorem d7_stateAfter_155 : decode prog_9_method_5_code 155 = .ok (.iconst (-1), 1) := by decide +kernel
theorem d7_stateAfter_156 : decode prog_9_method_5_code 156 = .ok (.ireturn, 1) := by decide +kernel
theorem d7_stateAfter_157 : decode prog_9_method_5_code 157 = .ok (.iload_n 1, 1) := by decide +kernel
theorem d7_stateAfter_158 : decode prog_9_method_5_code 158 = .ok (.bipush 35, 2) := by decide +kernel
theorem d7_stateAfter_160 : decode prog_9_method_5_code 160 = .ok (.if_icmp .ne 8, 3) := by decide +kernel
theorem d7_stateAfter_163 : decode prog_9_method_5_code 163 = .ok (.bipush 6, 2) := by decide +kernel
theorem d7_stateAfter_165 : decode prog_9_method_5_code 165 = .ok (.goto 4, 3) := by decide +kernel
theorem d7_stateAfter_168 : decode prog_9_method_5_code 168 = .ok (.iconst (-1), 1) := by decide +kernel
theorem d7_stateAfter_169 : decode prog_9_method_5_code 169 = .ok (.ireturn, 1) := by decide +kernel
theorem d7_stateAfter_170 : decode prog_9_method_5_code 170 = .ok (.iload_n 1, 1) := by decide +kernel
theorem d7_stateAfter_171 : decode prog_9_method_5_code 171 = .ok (.bipush 48, 2) := by decide +kernel
theorem d7_stateAfter_173 : decode prog_9_method_5_code 173 = .ok (.bipush 52, 2) := by decide +kernel
theorem d7_stateAfter_175 : decode prog_9_method_5_code 175 = .ok (.invokestatic 21, 3) := by decide +kernel
theorem d7_stateAfter_178 : decode prog_9_method_5_code 178 = .ok (.ifCond .eq 8, 3) := by decide +kernel
theorem d7_stateAfter_181 : decode prog_9_method_5_code 181 = .ok (.bipush 16, 2) := by decide +kernel
theorem d7_stateAfter_183 : decode prog_9_method_5_code 183 = .ok (.goto 4, 3) := by decide +kernel
theorem d7_stateAfter_186 : decode prog_9_method_5_code 186 = .ok (.iconst (-1), 1) := by decide +kernel
theorem d7_stateAfter_187 : decode prog_9_method_5_code 187 = .ok (.ireturn, 1) := by decide +kernel
theorem d7_stateAfter_188 : decode prog_9_method_5_code 188 = .ok (.iload_n 1, 1) := by decide +kernel
theorem d7_stateAfter_189 : decode prog_9_method_5_code 189 = .ok (.bipush 59, 2) := by decide +kernel
theorem d7_stateAfter_191 : decode prog_9_method_5_code 191 = .ok (.if_icmp .ne 7, 3) := by decide +kernel
theorem d7_stateAfter_194 : decode prog_9_method_5_code 194 = .ok (.iconst 0, 1) := by decide +kernel
theorem d7_stateAfter_195 : decode prog_9_method_5_code 195 = .ok (.goto 4, 3) := by decide +kernel
theorem d7_stateAfter_198 : decode prog_9_method_5_code 198 = .ok (.iconst (-1), 1) := by decide +kernel
theorem d7_stateAfter_199 : decode prog_9_method_5_code 199 = .ok (.ireturn, 1) := by decide +kernel
theorem d7_stateAfter_200 : decode prog_9_method_5_code 200 = .ok (.aload_n 0, 1) := by decide +kernel
theorem d7_stateAfter_201 : decode prog_9_method_5_code 201 = .ok (.iload_n 1, 1) := by decide +kernel
theorem d7_stateAfter_202 : decode prog_9_method_5_code 202 = .ok (.invokevirtual 30, 3) := by decide +kernel
theorem d7_stateAfter_205 : decode prog_9_method_5_code 205 = .ok (.ireturn, 1) := by decide +kernel
theorem d7_stateAfterData_0 : decode prog_9_method_6_code 0 = .ok (.iload_n 1, 1) := by decide +kernel
theorem d7_stateAfterData_1 : decode prog_9_method_6_code 1 = .ok (.bipush 59, 2) := by decide +kernel
theorem d7_stateAfterData_3 : decode prog_9_method_6_code 3 = .ok (.if_icmp .ne 21, 3) := by decide +kernel
theorem d7_stateAfterData_6 : decode prog_9_method_6_code 6 = .ok (.aload_n 0, 1) := by decide +kernel
theorem d7_stateAfterData_7 : decode prog_9_method_6_code 7 = .ok (.getfield 9, 3) := by decide +kernel
theorem d7_stateAfterData_10 : decode prog_9_method_6_code 10 = .ok (.bipush 6, 2) := by decide +kernel
theorem d7_stateAfterData_12 : decode prog_9_method_6_code 12 = .ok (.isub, 1) := by decide +kernel
theorem d7_stateAfterData_13 : decode prog_9_method_6_code 13 = .ok (.iconst 2, 1) := by decide +kernel
theorem d7_stateAfterData_14 : decode prog_9_method_6_code 14 = .ok (.irem, 1) := by decide +kernel
theorem d7_stateAfterData_15 : decode prog_9_method_6_code 15 = .ok (.ifCond .ne 7, 3) := by decide +kernel
theorem d7_stateAfterData_18 : decode prog_9_method_6_code 18 = .ok (.iconst 0, 1) := by decide +kernel
theorem d7_stateAfterData_19 : decode prog_9_method_6_code 19 = .ok (.goto 4, 3) := by decide +kernel
theorem d7_stateAfterData_22 : decode prog_9_method_6_code 22 = .ok (.iconst (-1), 1) := by decide +kernel
theorem d7_stateAfterData_23 : decode prog_9_method_6_code 23 = .ok (.ireturn, 1) := by decide +kernel
theorem d7_stateAfterData_24 : decode prog_9_method_6_code 24 = .ok (.iload_n 1, 1) := by decide +kernel
theorem d7_stateAfterData_25 : decode prog_9_method_6_code 25 = .ok (.bipush 82, 2) := by decide +kernel
theorem d7_stateAfterData_27 : decode prog_9_method_6_code 27 = .ok (.if_icmp .ne 19, 3) := by decide +kernel
theorem d7_stateAfterData_30 : decode prog_9_method_6_code 30 = .ok (.aload_n 0, 1) := by decide +kernel
theorem d7_stateAfterData_31 : decode prog_9_method_6_code 31 = .ok (.getfield 9, 3) := by decide +kernel
theorem d7_stateAfterData_34 : decode prog_9_method_6_code 34 = .ok (.bipush 6, 2) := by decide +kernel
theorem d7_stateAfterData_36 : decode prog_9_method_6_code 36 = .ok (.if_icmp .ne 8, 3) := by decide +kernel
theorem d7_stateAfterData_39 : decode prog_9_method_6_code 39 = .ok (.bipush 15, 2) := by decide +kernel
theorem d7_stateAfterData_41 : decode prog_9_method_6_code 41 = .ok (.goto 4, 3) := by decide +kernel
theorem d7_stateAfterData_44 : decode prog_9_method_6_code 44 = .ok (.iconst (-1), 1) := by decide +kernel
theorem d7_stateAfterData_45 : decode prog_9_method_6_code 45 = .ok (.ireturn, 1) := by decide +kernel
theorem d7_stateAfterData_46 : decode prog_9_method_6_code 46 = .ok (.iload_n 1, 1) := by decide +kernel
theorem d7_stateAfterData_47 : decode prog_9_method_6_code 47 = .ok (.invokestatic 27, 3) := by decide +kernel
theorem d7_stateAfterData_50 : decode prog_9_method_6_code 50 = .ok (.ifCond .lt 21, 3) := by decide +kernel
theorem d7_stateAfterData_53 : decode prog_9_method_6_code 53 = .ok (.aload_n 0, 1) := by decide +kernel
theorem d7_stateAfterData_54 : decode prog_9_method_6_code 54 = .ok (.getfield 9, 3) := by decide +kernel
theorem d7_stateAfterData_57 : decode prog_9_method_6_code 57 = .ok (.bipush 14, 2) := by decide +kernel
theorem d7_stateAfterData_59 : decode prog_9_method_6_code 59 = .ok (.if_icmp .ge 12, 3) := by decide +kernel
theorem d7_stateAfterData_62 : decode prog_9_method_6_code 62 = .ok (.aload_n 0, 1) := by decide +kernel
theorem d7_stateAfterData_63 : decode prog_9_method_6_code 63 = .ok (.getfield 9, 3) := by decide +kernel
theorem d7_stateAfterData_66 : decode prog_9_method_6_code 66 = .ok (.iconst 1, 1) := by decide +kernel
theorem d7_stateAfterData_67 : decode prog_9_method_6_code 67 = .ok (.iadd, 1) := by decide +kernel
theorem d7_stateAfterData_68 : decode prog_9_method_6_code 68 = .ok (.goto 4, 3) := by decide +kernel
theorem d7_stateAfterData_71 : decode prog_9_method_6_code 71 = .ok (.iconst (-1), 1) := by decide +kernel
theorem d7_stateAfterData_72 : decode prog_9_method_6_code 72 = .ok (.ireturn, 1) := by decide +kernel
theorem d7_keepValue_0 : decode prog_9_method_7_code 0 = .ok (.aload_n 0, 1) := by decide +kernel
theorem d7_keepValue_1 : decode prog_9_method_7_code 1 = .ok (.getfield 9, 3) := by decide +kernel
theorem d7_keepValue_4 : decode prog_9_method_7_code 4 = .ok (.ifCond .ne 34, 3) := by decide +kernel
theorem d7_keepValue_7 : decode prog_9_method_7_code 7 = .ok (.aload_n 0, 1) := by decide +kernel
theorem d7_keepValue_8 : decode prog_9_method_7_code 8 = .ok (.iload_n 1, 1) := by decide +kernel
theorem d7_keepValue_9 : decode prog_9_method_7_code 9 = .ok (.bipush 48, 2) := by decide +kernel
theorem d7_keepValue_11 : decode prog_9_method_7_code 11 = .ok (.isub, 1) := by decide +kernel
theorem d7_keepValue_12 : decode prog_9_method_7_code 12 = .ok (.putfield 33, 3) := by decide +kernel
theorem d7_keepValue_15 : decode prog_9_method_7_code 15 = .ok (.aload_n 0, 1) := by decide +kernel
theorem d7_keepValue_16 : decode prog_9_method_7_code 16 = .ok (.iconst 0, 1) := by decide +kernel
theorem d7_keepValue_17 : decode prog_9_method_7_code 17 = .ok (.putfield 36, 3) := by decide +kernel
theorem d7_keepValue_20 : decode prog_9_method_7_code 20 = .ok (.aload_n 0, 1) := by decide +kernel
theorem d7_keepValue_21 : decode prog_9_method_7_code 21 = .ok (.iconst 0, 1) := by decide +kernel
theorem d7_keepValue_22 : decode prog_9_method_7_code 22 = .ok (.putfield 39, 3) := by decide +kernel
theorem d7_keepValue_25 : decode prog_9_method_7_code 25 = .ok (.aload_n 0, 1) := by decide +kernel
theorem d7_keepValue_26 : decode prog_9_method_7_code 26 = .ok (.iconst 0, 1) := by decide +kernel
theorem d7_keepValue_27 : decode prog_9_method_7_code 27 = .ok (.putfield 43, 3) := by decide +kernel
theorem d7_keepValue_30 : decode prog_9_method_7_code 30 = .ok (.aload_n 0, 1) := by decide +kernel
theorem d7_keepValue_31 : decode prog_9_method_7_code 31 = .ok (.iconst 0, 1) := by decide +kernel
theorem d7_keepValue_32 : decode prog_9_method_7_code 32 = .ok (.putfield 46, 3) := by decide +kernel
theorem d7_keepValue_35 : decode prog_9_method_7_code 35 = .ok (.goto 109, 3) := by decide +kernel
theorem d7_keepValue_38 : decode prog_9_method_7_code 38 = .ok (.aload_n 0, 1) := by decide +kernel
theorem d7_keepValue_39 : decode prog_9_method_7_code 39 = .ok (.getfield 9, 3) := by decide +kernel
theorem d7_keepValue_42 : decode prog_9_method_7_code 42 = .ok (.iconst 2, 1) := by decide +kernel
theorem d7_keepValue_43 : decode prog_9_method_7_code 43 = .ok (.iconst 4, 1) := by decide +kernel
theorem d7_keepValue_44 : decode prog_9_method_7_code 44 = .ok (.invokestatic 21, 3) := by decide +kernel
theorem d7_keepValue_47 : decode prog_9_method_7_code 47 = .ok (.ifCond .eq 21, 3) := by decide +kernel
theorem d7_keepValue_50 : decode prog_9_method_7_code 50 = .ok (.aload_n 0, 1) := by decide +kernel
theorem d7_keepValue_51 : decode prog_9_method_7_code 51 = .ok (.aload_n 0, 1) := by decide +kernel
theorem d7_keepValue_52 : decode prog_9_method_7_code 52 = .ok (.getfield 36, 3) := by decide +kernel
theorem d7_keepValue_55 : decode prog_9_method_7_code 55 = .ok (.iconst 4, 1) := by decide +kernel
theorem d7_keepValue_56 : decode prog_9_method_7_code 56 = .ok (.ishl, 1) := by decide +kernel
theorem d7_keepValue_57 : decode prog_9_method_7_code 57 = .ok (.iload_n 1, 1) := by decide +kernel
theorem d7_keepValue_58 : decode prog_9_method_7_code 58 = .ok (.invokestatic 27, 3) := by decide +kernel
theorem d7_keepValue_61 : decode prog_9_method_7_code 61 = .ok (.ior, 1) := by decide +kernel
theorem d7_keepValue_62 : decode prog_9_method_7_code 62 = .ok (.putfield 36, 3) := by decide +kernel
theorem d7_keepValue_65 : decode prog_9_method_7_code 65 = .ok (.goto 79, 3) := by decide +kernel
theorem d7_keepValue_68 : decode prog_9_method_7_code 68 = .ok (.aload_n 0, 1) := by decide +kernel
theorem d7_keepValue_69 : decode prog_9_method_7_code 69 = .ok (.getfield 9, 3) := by decide +kernel
theorem d7_keepValue_72 : decode prog_9_method_7_code 72 = .ok (.bipush 15, 2) := by decide +kernel
theorem d7_keepValue_74 : decode prog_9_method_7_code 74 = .ok (.if_icmp .ne 19, 3) := by decide +kernel
theorem d7_keepValue_77 : decode prog_9_method_7_code 77 = .ok (.aload_n 0, 1) := by decide +kernel
theorem d7_keepValue_78 : decode prog_9_method_7_code 78 = .ok (.iconst 1, 1) := by decide +kernel
theorem d7_keepValue_79 : decode prog_9_method_7_code 79 = .ok (.putfield 39, 3) := by decide +kernel
theorem d7_keepValue_82 : decode prog_9_method_7_code 82 = .ok (.aload_n 0, 1) := by decide +kernel
theorem d7_keepValue_83 : decode prog_9_method_7_code 83 = .ok (.iload_n 1, 1) := by decide +kernel
theorem d7_keepValue_84 : decode prog_9_method_7_code 84 = .ok (.bipush 48, 2) := by decide +kernel
theorem d7_keepValue_86 : decode prog_9_method_7_code 86 = .ok (.isub, 1) := by decide +kernel
theorem d7_keepValue_87 : decode prog_9_method_7_code 87 = .ok (.putfield 43, 3) := by decide +kernel
theorem d7_keepValue_90 : decode prog_9_method_7_code 90 = .ok (.goto 54, 3) := by decide +kernel
theorem d7_keepValue_93 : decode prog_9_method_7_code 93 = .ok (.aload_n 0, 1) := by decide +kernel
theorem d7_keepValue_94 : decode prog_9_method_7_code 94 = .ok (.getfield 9, 3) := by decide +kernel
theorem d7_keepValue_97 : decode prog_9_method_7_code 97 = .ok (.bipush 6, 2) := by decide +kernel
theorem d7_keepValue_99 : decode prog_9_method_7_code 99 = .ok (.bipush 13, 2) := by decide +kernel
theorem d7_keepValue_101 : decode prog_9_method_7_code 101 = .ok (.invokestatic 21, 3) := by decide +kernel
theorem d7_keepValue_104 : decode prog_9_method_7_code 104 = .ok (.ifCond .eq 40, 3) := by decide +kernel
theorem d7_keepValue_107 : decode prog_9_method_7_code 107 = .ok (.iload_n 1, 1) := by decide +kernel
theorem d7_keepValue_108 : decode prog_9_method_7_code 108 = .ok (.invokestatic 27, 3) := by decide +kernel
theorem d7_keepValue_111 : decode prog_9_method_7_code 111 = .ok (.ifCond .lt 33, 3) := by decide +kernel
theorem d7_keepValue_114 : decode prog_9_method_7_code 114 = .ok (.aload_n 0, 1) := by decide +kernel
theorem d7_keepValue_115 : decode prog_9_method_7_code 115 = .ok (.aload_n 0, 1) := by decide +kernel
theorem d7_keepValue_116 : decode prog_9_method_7_code 116 = .ok (.getfield 46, 3) := by decide +kernel
theorem d7_keepValue_119 : decode prog_9_method_7_code 119 = .ok (.iconst 4, 1) := by decide +kernel
theorem d7_keepValue_120 : decode prog_9_method_7_code 120 = .ok (.ishl, 1) := by decide +kernel
theorem d7_keepValue_121 : decode prog_9_method_7_code 121 = .ok (.iload_n 1, 1) := by decide +kernel
theorem d7_keepValue_122 : decode prog_9_method_7_code 122 = .ok (.invokestatic 27, 3) := by decide +kernel
theorem d7_keepValue_125 : decode prog_9_method_7_code 125 = .ok (.ior, 1) := by decide +kernel
theorem d7_keepValue_126 : decode prog_9_method_7_code 126 = .ok (.putfield 46, 3) := by decide +kernel
theorem d7_keepValue_129 : decode prog_9_method_7_code 129 = .ok (.aload_n 0, 1) := by decide +kernel
theorem d7_keepValue_130 : decode prog_9_method_7_code 130 = .ok (.aload_n 0, 1) := by decide +kernel
theorem d7_keepValue_131 : decode prog_9_method_7_code 131 = .ok (.getfield 9, 3) := by decide +kernel
theorem d7_keepValue_134 : decode prog_9_method_7_code 134 = .ok (.bipush 6, 2) := by decide +kernel
theorem d7_keepValue_136 : decode prog_9_method_7_code 136 = .ok (.isub, 1) := by decide +kernel
theorem d7_keepValue_137 : decode prog_9_method_7_code 137 = .ok (.iconst 1, 1) := by decide +kernel
theorem d7_keepValue_138 : decode prog_9_method_7_code 138 = .ok (.iadd, 1) := by decide +kernel
theorem d7_keepValue_139 : decode prog_9_method_7_code 139 = .ok (.iconst 2, 1) := by decide +kernel
theorem d7_keepValue_140 : decode prog_9_method_7_code 140 = .ok (.idiv, 1) := by decide +kernel
theorem d7_keepValue_141 : decode prog_9_method_7_code 141 = .ok (.putfield 43, 3) := by decide +kernel
theorem d7_keepValue_144 : decode prog_9_method_7_code 144 = .ok (.return_, 1) := by decide +kernel
theorem d7_hexValue_0 : decode prog_9_method_8_code 0 = .ok (.iload_n 0, 1) := by decide +kernel
theorem d7_hexValue_1 : decode prog_9_method_8_code 1 = .ok (.bipush 48, 2) := by decide +kernel
theorem d7_hexValue_3 : decode prog_9_method_8_code 3 = .ok (.bipush 57, 2) := by decide +kernel
theorem d7_hexValue_5 : decode prog_9_method_8_code 5 = .ok (.invokestatic 21, 3) := by decide +kernel
theorem d7_hexValue_8 : decode prog_9_method_8_code 8 = .ok (.ifCond .eq 8, 3) := by decide +kernel
theorem d7_hexValue_11 : decode prog_9_method_8_code 11 = .ok (.iload_n 0, 1) := by decide +kernel
theorem d7_hexValue_12 : decode prog_9_method_8_code 12 = .ok (.bipush 48, 2) := by decide +kernel
theorem d7_hexValue_14 : decode prog_9_method_8_code 14 = .ok (.isub, 1) := by decide +kernel
theorem d7_hexValue_15 : decode prog_9_method_8_code 15 = .ok (.ireturn, 1) := by decide +kernel
theorem d7_hexValue_16 : decode prog_9_method_8_code 16 = .ok (.iload_n 0, 1) := by decide +kernel
theorem d7_hexValue_17 : decode prog_9_method_8_code 17 = .ok (.bipush 97, 2) := by decide +kernel
theorem d7_hexValue_19 : decode prog_9_method_8_code 19 = .ok (.bipush 102, 2) := by decide +kernel
theorem d7_hexValue_21 : decode prog_9_method_8_code 21 = .ok (.invokestatic 21, 3) := by decide +kernel
theorem d7_hexValue_24 : decode prog_9_method_8_code 24 = .ok (.ifCond .eq 13, 3) := by decide +kernel
theorem d7_hexValue_27 : decode prog_9_method_8_code 27 = .ok (.iload_n 0, 1) := by decide +kernel
theorem d7_hexValue_28 : decode prog_9_method_8_code 28 = .ok (.bipush 97, 2) := by decide +kernel
theorem d7_hexValue_30 : decode prog_9_method_8_code 30 = .ok (.isub, 1) := by decide +kernel
theorem d7_hexValue_31 : decode prog_9_method_8_code 31 = .ok (.bipush 10, 2) := by decide +kernel
theorem d7_hexValue_33 : decode prog_9_method_8_code 33 = .ok (.iadd, 1) := by decide +kernel
theorem d7_hexValue_34 : decode prog_9_method_8_code 34 = .ok (.goto 4, 3) := by decide +kernel
theorem d7_hexValue_37 : decode prog_9_method_8_code 37 = .ok (.iconst (-1), 1) := by decide +kernel
theorem d7_hexValue_38 : decode prog_9_method_8_code 38 = .ok (.ireturn, 1) := by decide +kernel
theorem d8_init_0 : decode prog_10_method_1_code 0 = .ok (.aload_n 0, 1) := by decide +kernel
theorem d8_init_1 : decode prog_10_method_1_code 1 = .ok (.invokespecial 3, 3) := by decide +kernel
theorem d8_init_4 : decode prog_10_method_1_code 4 = .ok (.aload_n 0, 1) := by decide +kernel
theorem d8_init_5 : decode prog_10_method_1_code 5 = .ok (.bipush 6, 2) := by decide +kernel
theorem d8_init_7 : decode prog_10_method_1_code 7 = .ok (.newarray .int, 2) := by decide +kernel
theorem d8_init_9 : decode prog_10_method_1_code 9 = .ok (.putfield 11, 3) := by decide +kernel
theorem d8_init_12 : decode prog_10_method_1_code 12 = .ok (.aload_n 0, 1) := by decide +kernel
theorem d8_init_13 : decode prog_10_method_1_code 13 = .ok (.bipush (-5), 2) := by decide +kernel
theorem d8_init_15 : decode prog_10_method_1_code 15 = .ok (.putfield 15, 3) := by decide +kernel
theorem d8_init_18 : decode prog_10_method_1_code 18 = .ok (.return_, 1) := by decide +kernel
theorem d8_copyFrom_0 : decode prog_10_method_2_code 0 = .ok (.aload_n 1, 1) := by decide +kernel
theorem d8_copyFrom_1 : decode prog_10_method_2_code 1 = .ok (.getfield 11, 3) := by decide +kernel
theorem d8_copyFrom_4 : decode prog_10_method_2_code 4 = .ok (.iconst 0, 1) := by decide +kernel
theorem d8_copyFrom_5 : decode prog_10_method_2_code 5 = .ok (.aload_n 0, 1) := by decide +kernel
theorem d8_copyFrom_6 : decode prog_10_method_2_code 6 = .ok (.getfield 11, 3) := by decide +kernel
theorem d8_copyFrom_9 : decode prog_10_method_2_code 9 = .ok (.iconst 0, 1) := by decide +kernel
theorem d8_copyFrom_10 : decode prog_10_method_2_code 10 = .ok (.bipush 6, 2) := by decide +kernel
theorem d8_copyFrom_12 : decode prog_10_method_2_code 12 = .ok (.invokestatic 19, 3) := by decide +kernel
theorem d8_copyFrom_15 : decode prog_10_method_2_code 15 = .ok (.aload_n 0, 1) := by decide +kernel
theorem d8_copyFrom_16 : decode prog_10_method_2_code 16 = .ok (.aload_n 1, 1) := by decide +kernel
theorem d8_copyFrom_17 : decode prog_10_method_2_code 17 = .ok (.getfield 15, 3) := by decide +kernel
theorem d8_copyFrom_20 : decode prog_10_method_2_code 20 = .ok (.putfield 15, 3) := by decide +kernel
theorem d8_copyFrom_23 : decode prog_10_method_2_code 23 = .ok (.aload_n 0, 1) := by decide +kernel
theorem d8_copyFrom_24 : decode prog_10_method_2_code 24 = .ok (.aload_n 1, 1) := by decide +kernel
theorem d8_copyFrom_25 : decode prog_10_method_2_code 25 = .ok (.getfield 25, 3) := by decide +kernel
theorem d8_copyFrom_28 : decode prog_10_method_2_code 28 = .ok (.putfield 25, 3) := by decide +kernel
theorem d8_copyFrom_31 : decode prog_10_method_2_code 31 = .ok (.aload_n 0, 1) := by decide +kernel
theorem d8_copyFrom_32 : decode prog_10_method_2_code 32 = .ok (.aload_n 1, 1) := by decide +kernel
theorem d8_copyFrom_33 : decode prog_10_method_2_code 33 = .ok (.getfield 28, 3) := by decide +kernel
theorem d8_copyFrom_36 : decode prog_10_method_2_code 36 = .ok (.putfield 28, 3) := by decide +kernel
theorem d8_copyFrom_39 : decode prog_10_method_2_code 39 = .ok (.aload_n 0, 1) := by decide +kernel
theorem d8_copyFrom_40 : decode prog_10_method_2_code 40 = .ok (.aload_n 1, 1) := by decide +kernel
theorem d8_copyFrom_41 : decode prog_10_method_2_code 41 = .ok (.getfield 31, 3) := by decide +kernel
theorem d8_copyFrom_44 : decode prog_10_method_2_code 44 = .ok (.putfield 31, 3) := by decide +kernel
theorem d8_copyFrom_47 : decode prog_10_method_2_code 47 = .ok (.aload_n 0, 1) := by decide +kernel
theorem d8_copyFrom_48 : decode prog_10_method_2_code 48 = .ok (.aload_n 1, 1) := by decide +kernel
theorem d8_copyFrom_49 : decode prog_10_method_2_code 49 = .ok (.getfield 34, 3) := by decide +kernel
theorem d8_copyFrom_52 : decode prog_10_method_2_code 52 = .ok (.putfield 34, 3) := by decide +kernel
theorem d8_copyFrom_55 : decode prog_10_method_2_code 55 = .ok (.return_, 1) := by decide +kernel
theorem d8_countError_0 : decode prog_10_method_3_code 0 = .ok (.iload_n 1, 1) := by decide +kernel
theorem d8_countError_1 : decode prog_10_method_3_code 1 = .ok (.ifCond .lt 24, 3) := by decide +kernel
theorem d8_countError_4 : decode prog_10_method_3_code 4 = .ok (.iload_n 1, 1) := by decide +kernel
theorem d8_countError_5 : decode prog_10_method_3_code 5 = .ok (.bipush 6, 2) := by decide +kernel
theorem d8_countError_7 : decode prog_10_method_3_code 7 = .ok (.if_icmp .ge 18, 3) := by decide +kernel
theorem d8_countError_10 : decode prog_10_method_3_code 10 = .ok (.aload_n 0, 1) := by decide +kernel
theorem d8_countError_11 : decode prog_10_method_3_code 11 = .ok (.getfield 11, 3) := by decide +kernel
theorem d8_countError_14 : decode prog_10_method_3_code 14 = .ok (.iload_n 1, 1) := by decide +kernel
theorem d8_countError_15 : decode prog_10_method_3_code 15 = .ok (.dup2, 1) := by decide +kernel
theorem d8_countError_16 : decode prog_10_method_3_code 16 = .ok (.iaload, 1) := by decide +kernel
theorem d8_countError_17 : decode prog_10_method_3_code 17 = .ok (.iconst 1, 1) := by decide +kernel
theorem d8_countError_18 : decode prog_10_method_3_code 18 = .ok (.iadd, 1) := by decide +kernel
theorem d8_countError_19 : decode prog_10_method_3_code 19 = .ok (.iastore, 1) := by decide +kernel
theorem d8_countError_20 : decode prog_10_method_3_code 20 = .ok (.aload_n 0, 1) := by decide +kernel
theorem d8_countError_21 : decode prog_10_method_3_code 21 = .ok (.iload_n 1, 1) := by decide +kernel
theorem d8_countError_22 : decode prog_10_method_3_code 22 = .ok (.putfield 15, 3) := by decide +kernel
theorem d8_countError_25 : decode prog_10_method_3_code 25 = .ok (.return_, 1) := by decide +kernel
theorem d9_init_0 : decode prog_11_method_1_code 0 = .ok (.aload_n 0, 1) := by decide +kernel
theorem d9_init_1 : decode prog_11_method_1_code 1 = .ok (.invokespecial 3, 3) := by decide +kernel
theorem d9_init_4 : decode prog_11_method_1_code 4 = .ok (.aload_n 0, 1) := by decide +kernel
theorem d9_init_5 : decode prog_11_method_1_code 5 = .ok (.new 9, 3) := by decide +kernel
theorem d9_init_8 : decode prog_11_method_1_code 8 = .ok (.dup, 1) := by decide +kernel
theorem d9_init_9 : decode prog_11_method_1_code 9 = .ok (.invokespecial 11, 3) := by decide +kernel
theorem d9_init_12 : decode prog_11_method_1_code 12 = .ok (.putfield 12, 3) := by decide +kernel
theorem d9_init_15 : decode prog_11_method_1_code 15 = .ok (.aload_n 0, 1) := by decide +kernel
theorem d9_init_16 : decode prog_11_method_1_code 16 = .ok (.bipush 120, 2) := by decide +kernel
theorem d9_init_18 : decode prog_11_method_1_code 18 = .ok (.newarray .int, 2) := by decide +kernel
theorem d9_init_20 : decode prog_11_method_1_code 20 = .ok (.putfield 18, 3) := by decide +kernel
theorem d9_init_23 : decode prog_11_method_1_code 23 = .ok (.return_, 1) := by decide +kernel
theorem d9_add_0 : decode prog_11_method_2_code 0 = .ok (.aload_n 0, 1) := by decide +kernel
theorem d9_add_1 : decode prog_11_method_2_code 1 = .ok (.getfield 22, 3) := by decide +kernel
theorem d9_add_4 : decode prog_11_method_2_code 4 = .ok (.bipush 120, 2) := by decide +kernel
theorem d9_add_6 : decode prog_11_method_2_code 6 = .ok (.if_icmp .lt 5, 3) := by decide +kernel
theorem d9_add_9 : decode prog_11_method_2_code 9 = .ok (.iconst 0, 1) := by decide +kernel
theorem d9_add_10 : decode prog_11_method_2_code 10 = .ok (.ireturn, 1) := by decide +kernel
theorem d9_add_11 : decode prog_11_method_2_code 11 = .ok (.aload_n 0, 1) := by decide +kernel
theorem d9_add_12 : decode prog_11_method_2_code 12 = .ok (.getfield 18, 3) := by decide +kernel
theorem d9_add_15 : decode prog_11_method_2_code 15 = .ok (.aload_n 0, 1) := by decide +kernel
theorem d9_add_16 : decode prog_11_method_2_code 16 = .ok (.getfield 22, 3) := by decide +kernel
theorem d9_add_19 : decode prog_11_method_2_code 19 = .ok (.iload_n 1, 1) := by decide +kernel
theorem d9_add_20 : decode prog_11_method_2_code 20 = .ok (.iastore, 1) := by decide +kernel
theorem d9_add_21 : decode prog_11_method_2_code 21 = .ok (.aload_n 0, 1) := by decide +kernel
theorem d9_add_22 : decode prog_11_method_2_code 22 = .ok (.dup, 1) := by decide +kernel
theorem d9_add_23 : decode prog_11_method_2_code 23 = .ok (.getfield 22, 3) := by decide +kernel
theorem d9_add_26 : decode prog_11_method_2_code 26 = .ok (.iconst 1, 1) := by decide +kernel
theorem d9_add_27 : decode prog_11_method_2_code 27 = .ok (.iadd, 1) := by decide +kernel
theorem d9_add_28 : decode prog_11_method_2_code 28 = .ok (.putfield 22, 3) := by decide +kernel
theorem d9_add_31 : decode prog_11_method_2_code 31 = .ok (.iconst 1, 1) := by decide +kernel
theorem d9_add_32 : decode prog_11_method_2_code 32 = .ok (.ireturn, 1) := by decide +kernel
theorem d9_letterAt_0 : decode prog_11_method_3_code 0 = .ok (.iload_n 1, 1) := by decide +kernel
theorem d9_letterAt_1 : decode prog_11_method_3_code 1 = .ok (.ifCond .lt 20, 3) := by decide +kernel
theorem d9_letterAt_4 : decode prog_11_method_3_code 4 = .ok (.iload_n 1, 1) := by decide +kernel
theorem d9_letterAt_5 : decode prog_11_method_3_code 5 = .ok (.aload_n 0, 1) := by decide +kernel
theorem d9_letterAt_6 : decode prog_11_method_3_code 6 = .ok (.getfield 22, 3) := by decide +kernel
theorem d9_letterAt_9 : decode prog_11_method_3_code 9 = .ok (.if_icmp .ge 12, 3) := by decide +kernel
theorem d9_letterAt_12 : decode prog_11_method_3_code 12 = .ok (.aload_n 0, 1) := by decide +kernel
theorem d9_letterAt_13 : decode prog_11_method_3_code 13 = .ok (.getfield 18, 3) := by decide +kernel
theorem d9_letterAt_16 : decode prog_11_method_3_code 16 = .ok (.iload_n 1, 1) := by decide +kernel
theorem d9_letterAt_17 : decode prog_11_method_3_code 17 = .ok (.iaload, 1) := by decide +kernel
theorem d9_letterAt_18 : decode prog_11_method_3_code 18 = .ok (.goto 4, 3) := by decide +kernel
theorem d9_letterAt_21 : decode prog_11_method_3_code 21 = .ok (.iconst 0, 1) := by decide +kernel
theorem d9_letterAt_22 : decode prog_11_method_3_code 22 = .ok (.ireturn, 1) := by decide +kernel
theorem d9_findFault_0 : decode prog_11_method_4_code 0 = .ok (.aload_n 0, 1) := by decide +kernel
theorem d9_findFault_1 : decode prog_11_method_4_code 1 = .ok (.getfield 12, 3) := by decide +kernel
theorem d9_findFault_4 : decode prog_11_method_4_code 4 = .ok (.invokevirtual 26, 3) := by decide +kernel
theorem d9_findFault_7 : decode prog_11_method_4_code 7 = .ok (.iconst 0, 1) := by decide +kernel
theorem d9_findFault_8 : decode prog_11_method_4_code 8 = .ok (.istore_n 1, 1) := by decide +kernel
theorem d9_findFault_9 : decode prog_11_method_4_code 9 = .ok (.iload_n 1, 1) := by decide +kernel
theorem d9_findFault_10 : decode prog_11_method_4_code 10 = .ok (.aload_n 0, 1) := by decide +kernel
theorem d9_findFault_11 : decode prog_11_method_4_code 11 = .ok (.getfield 22, 3) := by decide +kernel
theorem d9_findFault_14 : decode prog_11_method_4_code 14 = .ok (.if_icmp .ge 27, 3) := by decide +kernel
theorem d9_findFault_17 : decode prog_11_method_4_code 17 = .ok (.aload_n 0, 1) := by decide +kernel
theorem d9_findFault_18 : decode prog_11_method_4_code 18 = .ok (.getfield 12, 3) := by decide +kernel
theorem d9_findFault_21 : decode prog_11_method_4_code 21 = .ok (.aload_n 0, 1) := by decide +kernel
theorem d9_findFault_22 : decode prog_11_method_4_code 22 = .ok (.getfield 18, 3) := by decide +kernel
theorem d9_findFault_25 : decode prog_11_method_4_code 25 = .ok (.iload_n 1, 1) := by decide +kernel
theorem d9_findFault_26 : decode prog_11_method_4_code 26 = .ok (.iaload, 1) := by decide +kernel
theorem d9_findFault_27 : decode prog_11_method_4_code 27 = .ok (.invokevirtual 29, 3) := by decide +kernel
theorem d9_findFault_30 : decode prog_11_method_4_code 30 = .ok (.ifCond .ne 5, 3) := by decide +kernel
theorem d9_findFault_33 : decode prog_11_method_4_code 33 = .ok (.iload_n 1, 1) := by decide +kernel
theorem d9_findFault_34 : decode prog_11_method_4_code 34 = .ok (.ireturn, 1) := by decide +kernel
theorem d9_findFault_35 : decode prog_11_method_4_code 35 = .ok (.iinc 1 1, 3) := by decide +kernel
theorem d9_findFault_38 : decode prog_11_method_4_code 38 = .ok (.goto (-29), 3) := by decide +kernel
theorem d9_findFault_41 : decode prog_11_method_4_code 41 = .ok (.aload_n 0, 1) := by decide +kernel
theorem d9_findFault_42 : decode prog_11_method_4_code 42 = .ok (.getfield 12, 3) := by decide +kernel
theorem d9_findFault_45 : decode prog_11_method_4_code 45 = .ok (.invokevirtual 33, 3) := by decide +kernel
theorem d9_findFault_48 : decode prog_11_method_4_code 48 = .ok (.ifCond .eq 8, 3) := by decide +kernel
theorem d9_findFault_51 : decode prog_11_method_4_code 51 = .ok (.bipush (-5), 2) := by decide +kernel
theorem d9_findFault_53 : decode prog_11_method_4_code 53 = .ok (.goto 7, 3) := by decide +kernel
theorem d9_findFault_56 : decode prog_11_method_4_code 56 = .ok (.aload_n 0, 1) := by decide +kernel
theorem d9_findFault_57 : decode prog_11_method_4_code 57 = .ok (.getfield 22, 3) := by decide +kernel
theorem d9_findFault_60 : decode prog_11_method_4_code 60 = .ok (.ireturn, 1) := by decide +kernel
theorem d10_init_0 : decode prog_1_method_1_code 0 = .ok (.aload_n 0, 1) := by decide +kernel
theorem d10_init_1 : decode prog_1_method_1_code 1 = .ok (.invokespecial 1, 3) := by decide +kernel
theorem d10_init_4 : decode prog_1_method_1_code 4 = .ok (.aload_n 0, 1) := by decide +kernel
theorem d10_init_5 : decode prog_1_method_1_code 5 = .ok (.new 7, 3) := by decide +kernel
theorem d10_init_8 : decode prog_1_method_1_code 8 = .ok (.dup, 1) := by decide +kernel
theorem d10_init_9 : decode prog_1_method_1_code 9 = .ok (.invokespecial 9, 3) := by decide +kernel
theorem d10_init_12 : decode prog_1_method_1_code 12 = .ok (.putfield 10, 3) := by decide +kernel
theorem d10_init_15 : decode prog_1_method_1_code 15 = .ok (.aload_n 0, 1) := by decide +kernel
theorem d10_init_16 : decode prog_1_method_1_code 16 = .ok (.new 7, 3) := by decide +kernel
theorem d10_init_19 : decode prog_1_method_1_code 19 = .ok (.dup, 1) := by decide +kernel
theorem d10_init_20 : decode prog_1_method_1_code 20 = .ok (.invokespecial 9, 3) := by decide +kernel
theorem d10_init_23 : decode prog_1_method_1_code 23 = .ok (.putfield 16, 3) := by decide +kernel
theorem d10_init_26 : decode prog_1_method_1_code 26 = .ok (.aload_n 0, 1) := by decide +kernel
theorem d10_init_27 : decode prog_1_method_1_code 27 = .ok (.iconst 2, 1) := by decide +kernel
theorem d10_init_28 : decode prog_1_method_1_code 28 = .ok (.anewarray 7, 3) := by decide +kernel
theorem d10_init_31 : decode prog_1_method_1_code 31 = .ok (.putfield 19, 3) := by decide +kernel
theorem d10_init_34 : decode prog_1_method_1_code 34 = .ok (.iconst 0, 1) := by decide +kernel
theorem d10_init_35 : decode prog_1_method_1_code 35 = .ok (.istore_n 1, 1) := by decide +kernel
theorem d10_init_36 : decode prog_1_method_1_code 36 = .ok (.iload_n 1, 1) := by decide +kernel
theorem d10_init_37 : decode prog_1_method_1_code 37 = .ok (.iconst 2, 1) := by decide +kernel
theorem d10_init_38 : decode prog_1_method_1_code 38 = .ok (.if_icmp .ge 22, 3) := by decide +kernel
theorem d10_init_41 : decode prog_1_method_1_code 41 = .ok (.aload_n 0, 1) := by decide +kernel
theorem d10_init_42 : decode prog_1_method_1_code 42 = .ok (.getfield 19, 3) := by decide +kernel
theorem d10_init_45 : decode prog_1_method_1_code 45 = .ok (.iload_n 1, 1) := by decide +kernel
theorem d10_init_46 : decode prog_1_method_1_code 46 = .ok (.new 7, 3) := by decide +kernel
theorem d10_init_49 : decode prog_1_method_1_code 49 = .ok (.dup, 1) := by decide +kernel
theorem d10_init_50 : decode prog_1_method_1_code 50 = .ok (.invokespecial 9, 3) := by decide +kernel
theorem d10_init_53 : decode prog_1_method_1_code 53 = .ok (.aastore, 1) := by decide +kernel
theorem d10_init_54 : decode prog_1_method_1_code 54 = .ok (.iinc 1 1, 3) := by decide +kernel
theorem d10_init_57 : decode prog_1_method_1_code 57 = .ok (.goto (-21), 3) := by decide +kernel
theorem d10_init_60 : decode prog_1_method_1_code 60 = .ok (.aload_n 0, 1) := by decide +kernel
theorem d10_init_61 : decode prog_1_method_1_code 61 = .ok (.iconst 2, 1) := by decide +kernel
theorem d10_init_62 : decode prog_1_method_1_code 62 = .ok (.newarray .boolean, 2) := by decide +kernel
theorem d10_init_64 : decode prog_1_method_1_code 64 = .ok (.putfield 23, 3) := by decide +kernel
theorem d10_init_67 : decode prog_1_method_1_code 67 = .ok (.aload_n 0, 1) := by decide +kernel
theorem d10_init_68 : decode prog_1_method_1_code 68 = .ok (.new 27, 3) := by decide +kernel
theorem d10_init_71 : decode prog_1_method_1_code 71 = .ok (.dup, 1) := by decide +kernel
theorem d10_init_72 : decode prog_1_method_1_code 72 = .ok (.invokespecial 29, 3) := by decide +kernel
theorem d10_init_75 : decode prog_1_method_1_code 75 = .ok (.putfield 30, 3) := by decide +kernel
theorem d10_init_78 : decode prog_1_method_1_code 78 = .ok (.aload_n 0, 1) := by decide +kernel
theorem d10_init_79 : decode prog_1_method_1_code 79 = .ok (.new 34, 3) := by decide +kernel
theorem d10_init_82 : decode prog_1_method_1_code 82 = .ok (.dup, 1) := by decide +kernel
theorem d10_init_83 : decode prog_1_method_1_code 83 = .ok (.invokespecial 36, 3) := by decide +kernel
theorem d10_init_86 : decode prog_1_method_1_code 86 = .ok (.putfield 37, 3) := by decide +kernel
theorem d10_init_89 : decode prog_1_method_1_code 89 = .ok (.aload_n 0, 1) := by decide +kernel
theorem d10_init_90 : decode prog_1_method_1_code 90 = .ok (.new 41, 3) := by decide +kernel
theorem d10_init_93 : decode prog_1_method_1_code 93 = .ok (.dup, 1) := by decide +kernel
theorem d10_init_94 : decode prog_1_method_1_code 94 = .ok (.invokespecial 43, 3) := by decide +kernel
theorem d10_init_97 : decode prog_1_method_1_code 97 = .ok (.putfield 44, 3) := by decide +kernel
theorem d10_init_100 : decode prog_1_method_1_code 100 = .ok (.return_, 1) := by decide +kernel
theorem d10_setLimits_0 : decode prog_1_method_2_code 0 = .ok (.iload_n 1, 1) := by decide +kernel
theorem d10_setLimits_1 : decode prog_1_method_2_code 1 = .ok (.bipush 8, 2) := by decide +kernel
theorem d10_setLimits_3 : decode prog_1_method_2_code 3 = .ok (.sipush 128, 3) := by decide +kernel
theorem d10_setLimits_6 : decode prog_1_method_2_code 6 = .ok (.invokestatic 48, 3) := by decide +kernel
theorem d10_setLimits_9 : decode prog_1_method_2_code 9 = .ok (.ifCond .eq 30, 3) := by decide +kernel
theorem d10_setLimits_12 : decode prog_1_method_2_code 12 = .ok (.iload_n 2, 1) := by decide +kernel
theorem d10_setLimits_13 : decode prog_1_method_2_code 13 = .ok (.bipush 16, 2) := by decide +kernel
theorem d10_setLimits_15 : decode prog_1_method_2_code 15 = .ok (.sipush 256, 3) := by decide +kernel
theorem d10_setLimits_18 : decode prog_1_method_2_code 18 = .ok (.invokestatic 48, 3) := by decide +kernel
theorem d10_setLimits_21 : decode prog_1_method_2_code 21 = .ok (.ifCond .eq 18, 3) := by decide +kernel
theorem d10_setLimits_24 : decode prog_1_method_2_code 24 = .ok (.iload_n 2, 1) := by decide +kernel
theorem d10_setLimits_25 : decode prog_1_method_2_code 25 = .ok (.iload_n 1, 1) := by decide +kernel
theorem d10_setLimits_26 : decode prog_1_method_2_code 26 = .ok (.if_icmp .le 13, 3) := by decide +kernel
theorem d10_setLimits_29 : decode prog_1_method_2_code 29 = .ok (.iload_n 3, 1) := by decide +kernel
theorem d10_setLimits_30 : decode prog_1_method_2_code 30 = .ok (.iconst 1, 1) := by decide +kernel
theorem d10_setLimits_31 : decode prog_1_method_2_code 31 = .ok (.bipush 16, 2) := by decide +kernel
theorem d10_setLimits_33 : decode prog_1_method_2_code 33 = .ok (.invokestatic 48, 3) := by decide +kernel
theorem d10_setLimits_36 : decode prog_1_method_2_code 36 = .ok (.ifCond .ne 6, 3) := by decide +kernel
theorem d10_setLimits_39 : decode prog_1_method_2_code 39 = .ok (.bipush (-2), 2) := by decide +kernel
theorem d10_setLimits_41 : decode prog_1_method_2_code 41 = .ok (.ireturn, 1) := by decide +kernel
theorem d10_setLimits_42 : decode prog_1_method_2_code 42 = .ok (.aload_n 0, 1) := by decide +kernel
theorem d10_setLimits_43 : decode prog_1_method_2_code 43 = .ok (.getfield 10, 3) := by decide +kernel
theorem d10_setLimits_46 : decode prog_1_method_2_code 46 = .ok (.getfield 52, 3) := by decide +kernel
theorem d10_setLimits_49 : decode prog_1_method_2_code 49 = .ok (.astore 4, 2) := by decide +kernel
theorem d10_setLimits_51 : decode prog_1_method_2_code 51 = .ok (.aload 4, 2) := by decide +kernel
theorem d10_setLimits_53 : decode prog_1_method_2_code 53 = .ok (.getfield 56, 3) := by decide +kernel
theorem d10_setLimits_56 : decode prog_1_method_2_code 56 = .ok (.istore 5, 2) := by decide +kernel
theorem d10_setLimits_58 : decode prog_1_method_2_code 58 = .ok (.aload 4, 2) := by decide +kernel
theorem d10_setLimits_60 : decode prog_1_method_2_code 60 = .ok (.iload_n 1, 1) := by decide +kernel
theorem d10_setLimits_61 : decode prog_1_method_2_code 61 = .ok (.putfield 56, 3) := by decide +kernel
theorem d10_setLimits_64 : decode prog_1_method_2_code 64 = .ok (.aload 4, 2) := by decide +kernel
theorem d10_setLimits_66 : decode prog_1_method_2_code 66 = .ok (.iload_n 2, 1) := by decide +kernel
theorem d10_setLimits_67 : decode prog_1_method_2_code 67 = .ok (.putfield 62, 3) := by decide +kernel
theorem d10_setLimits_70 : decode prog_1_method_2_code 70 = .ok (.aload 4, 2) := by decide +kernel
theorem d10_setLimits_72 : decode prog_1_method_2_code 72 = .ok (.iload_n 3, 1) := by decide +kernel
theorem d10_setLimits_73 : decode prog_1_method_2_code 73 = .ok (.putfield 65, 3) := by decide +kernel
theorem d10_setLimits_76 : decode prog_1_method_2_code 76 = .ok (.iload 5, 2) := by decide +kernel
theorem d10_setLimits_78 : decode prog_1_method_2_code 78 = .ok (.ireturn, 1) := by decide +kernel
theorem d10_setFilter_0 : decode prog_1_method_3_code 0 = .ok (.iload_n 1, 1) := by decide +kernel
theorem d10_setFilter_1 : decode prog_1_method_3_code 1 = .ok (.invokestatic 68, 3) := by decide +kernel
theorem d10_setFilter_4 : decode prog_1_method_3_code 4 = .ok (.ifCond .ne 5, 3) := by decide +kernel
theorem d10_setFilter_7 : decode prog_1_method_3_code 7 = .ok (.iconst (-1), 1) := by decide +kernel
theorem d10_setFilter_8 : decode prog_1_method_3_code 8 = .ok (.ireturn, 1) := by decide +kernel
theorem d10_setFilter_9 : decode prog_1_method_3_code 9 = .ok (.iload_n 2, 1) := by decide +kernel
theorem d10_setFilter_10 : decode prog_1_method_3_code 10 = .ok (.invokestatic 72, 3) := by decide +kernel
theorem d10_setFilter_13 : decode prog_1_method_3_code 13 = .ok (.ifCond .eq 10, 3) := by decide +kernel
theorem d10_setFilter_16 : decode prog_1_method_3_code 16 = .ok (.iload_n 3, 1) := by decide +kernel
theorem d10_setFilter_17 : decode prog_1_method_3_code 17 = .ok (.invokestatic 72, 3) := by decide +kernel
theorem d10_setFilter_20 : decode prog_1_method_3_code 20 = .ok (.ifCond .ne 6, 3) := by decide +kernel
theorem d10_setFilter_23 : decode prog_1_method_3_code 23 = .ok (.bipush (-2), 2) := by decide +kernel
theorem d10_setFilter_25 : decode prog_1_method_3_code 25 = .ok (.ireturn, 1) := by decide +kernel
theorem d10_setFilter_26 : decode prog_1_method_3_code 26 = .ok (.aload_n 0, 1) := by decide +kernel
theorem d10_setFilter_27 : decode prog_1_method_3_code 27 = .ok (.getfield 10, 3) := by decide +kernel
theorem d10_setFilter_30 : decode prog_1_method_3_code 30 = .ok (.getfield 75, 3) := by decide +kernel
theorem d10_setFilter_33 : decode prog_1_method_3_code 33 = .ok (.iload_n 1, 1) := by decide +kernel
theorem d10_setFilter_34 : decode prog_1_method_3_code 34 = .ok (.aaload, 1) := by decide +kernel
theorem d10_setFilter_35 : decode prog_1_method_3_code 35 = .ok (.astore 4, 2) := by decide +kernel
theorem d10_setFilter_37 : decode prog_1_method_3_code 37 = .ok (.aload 4, 2) := by decide +kernel
theorem d10_setFilter_39 : decode prog_1_method_3_code 39 = .ok (.getfield 79, 3) := by decide +kernel
theorem d10_setFilter_42 : decode prog_1_method_3_code 42 = .ok (.istore 5, 2) := by decide +kernel
theorem d10_setFilter_44 : decode prog_1_method_3_code 44 = .ok (.aload 4, 2) := by decide +kernel
theorem d10_setFilter_46 : decode prog_1_method_3_code 46 = .ok (.iload_n 2, 1) := by decide +kernel
theorem d10_setFilter_47 : decode prog_1_method_3_code 47 = .ok (.putfield 79, 3) := by decide +kernel
theorem d10_setFilter_50 : decode prog_1_method_3_code 50 = .ok (.aload 4, 2) := by decide +kernel
theorem d10_setFilter_52 : decode prog_1_method_3_code 52 = .ok (.iload_n 3, 1) := by decide +kernel
theorem d10_setFilter_53 : decode prog_1_method_3_code 53 = .ok (.putfield 84, 3) := by decide +kernel
theorem d10_setFilter_56 : decode prog_1_method_3_code 56 = .ok (.iload 5, 2) := by decide +kernel
theorem d10_setFilter_58 : decode prog_1_method_3_code 58 = .ok (.ireturn, 1) := by decide +kernel
theorem d10_setAnswer_0 : decode prog_1_method_4_code 0 = .ok (.iload_n 1, 1) := by decide +kernel
theorem d10_setAnswer_1 : decode prog_1_method_4_code 1 = .ok (.invokestatic 68, 3) := by decide +kernel
theorem d10_setAnswer_4 : decode prog_1_method_4_code 4 = .ok (.ifCond .ne 5, 3) := by decide +kernel
theorem d10_setAnswer_7 : decode prog_1_method_4_code 7 = .ok (.iconst (-1), 1) := by decide +kernel
theorem d10_setAnswer_8 : decode prog_1_method_4_code 8 = .ok (.ireturn, 1) := by decide +kernel
theorem d10_setAnswer_9 : decode prog_1_method_4_code 9 = .ok (.iload_n 2, 1) := by decide +kernel
theorem d10_setAnswer_10 : decode prog_1_method_4_code 10 = .ok (.iconst 0, 1) := by decide +kernel
theorem d10_setAnswer_11 : decode prog_1_method_4_code 11 = .ok (.iload_n 3, 1) := by decide +kernel
theorem d10_setAnswer_12 : decode prog_1_method_4_code 12 = .ok (.iload 4, 2) := by decide +kernel
theorem d10_setAnswer_14 : decode prog_1_method_4_code 14 = .ok (.invokestatic 87, 3) := by decide +kernel
theorem d10_setAnswer_17 : decode prog_1_method_4_code 17 = .ok (.ifCond .ne 6, 3) := by decide +kernel
theorem d10_setAnswer_20 : decode prog_1_method_4_code 20 = .ok (.bipush (-2), 2) := by decide +kernel
theorem d10_setAnswer_22 : decode prog_1_method_4_code 22 = .ok (.ireturn, 1) := by decide +kernel
theorem d10_setAnswer_23 : decode prog_1_method_4_code 23 = .ok (.aload_n 0, 1) := by decide +kernel
theorem d10_setAnswer_24 : decode prog_1_method_4_code 24 = .ok (.getfield 10, 3) := by decide +kernel
theorem d10_setAnswer_27 : decode prog_1_method_4_code 27 = .ok (.getfield 75, 3) := by decide +kernel
theorem d10_setAnswer_30 : decode prog_1_method_4_code 30 = .ok (.iload_n 1, 1) := by decide +kernel
theorem d10_setAnswer_31 : decode prog_1_method_4_code 31 = .ok (.aaload, 1) := by decide +kernel
theorem d10_setAnswer_32 : decode prog_1_method_4_code 32 = .ok (.getfield 91, 3) := by decide +kernel
theorem d10_setAnswer_35 : decode prog_1_method_4_code 35 = .ok (.astore 5, 2) := by decide +kernel
theorem d10_setAnswer_37 : decode prog_1_method_4_code 37 = .ok (.iload_n 2, 1) := by decide +kernel
theorem d10_setAnswer_38 : decode prog_1_method_4_code 38 = .ok (.iconst 0, 1) := by decide +kernel
theorem d10_setAnswer_39 : decode prog_1_method_4_code 39 = .ok (.invokestatic 95, 3) := by decide +kernel
theorem d10_setAnswer_42 : decode prog_1_method_4_code 42 = .ok (.istore 6, 2) := by decide +kernel
theorem d10_setAnswer_44 : decode prog_1_method_4_code 44 = .ok (.aload 5, 2) := by decide +kernel
theorem d10_setAnswer_46 : decode prog_1_method_4_code 46 = .ok (.iload 6, 2) := by decide +kernel
theorem d10_setAnswer_48 : decode prog_1_method_4_code 48 = .ok (.invokevirtual 99, 3) := by decide +kernel
theorem d10_setAnswer_51 : decode prog_1_method_4_code 51 = .ok (.istore 7, 2) := by decide +kernel
theorem d10_setAnswer_53 : decode prog_1_method_4_code 53 = .ok (.iload 7, 2) := by decide +kernel
theorem d10_setAnswer_55 : decode prog_1_method_4_code 55 = .ok (.ifCond .ge 14, 3) := by decide +kernel
theorem d10_setAnswer_58 : decode prog_1_method_4_code 58 = .ok (.aload 5, 2) := by decide +kernel
theorem d10_setAnswer_60 : decode prog_1_method_4_code 60 = .ok (.invokevirtual 105, 3) := by decide +kernel
theorem d10_setAnswer_63 : decode prog_1_method_4_code 63 = .ok (.ifCond .eq 6, 3) := by decide +kernel
theorem d10_setAnswer_66 : decode prog_1_method_4_code 66 = .ok (.bipush (-3), 2) := by decide +kernel
theorem d10_setAnswer_68 : decode prog_1_method_4_code 68 = .ok (.ireturn, 1) := by decide +kernel
theorem d10_setAnswer_69 : decode prog_1_method_4_code 69 = .ok (.aload 5, 2) := by decide +kernel
theorem d10_setAnswer_71 : decode prog_1_method_4_code 71 = .ok (.iload 7, 2) := by decide +kernel
theorem d10_setAnswer_73 : decode prog_1_method_4_code 73 = .ok (.invokevirtual 109, 3) := by decide +kernel
theorem d10_setAnswer_76 : decode prog_1_method_4_code 76 = .ok (.aload 5, 2) := by decide +kernel
theorem d10_setAnswer_78 : decode prog_1_method_4_code 78 = .ok (.aload 5, 2) := by decide +kernel
theorem d10_setAnswer_80 : decode prog_1_method_4_code 80 = .ok (.getfield 113, 3) := by decide +kernel
theorem d10_setAnswer_83 : decode prog_1_method_4_code 83 = .ok (.iload 6, 2) := by decide +kernel
theorem d10_setAnswer_85 : decode prog_1_method_4_code 85 = .ok (.iload_n 3, 1) := by decide +kernel
theorem d10_setAnswer_86 : decode prog_1_method_4_code 86 = .ok (.iload 4, 2) := by decide +kernel
theorem d10_setAnswer_88 : decode prog_1_method_4_code 88 = .ok (.invokevirtual 116, 3) := by decide +kernel
theorem d10_setAnswer_91 : decode prog_1_method_4_code 91 = .ok (.aload 5, 2) := by decide +kernel
theorem d10_setAnswer_93 : decode prog_1_method_4_code 93 = .ok (.getfield 113, 3) := by decide +kernel
theorem d10_setAnswer_96 : decode prog_1_method_4_code 96 = .ok (.ireturn, 1) := by decide +kernel
theorem d10_removeAnswer_0 : decode prog_1_method_5_code 0 = .ok (.iload_n 1, 1) := by decide +kernel
theorem d10_removeAnswer_1 : decode prog_1_method_5_code 1 = .ok (.invokestatic 68, 3) := by decide +kernel
theorem d10_removeAnswer_4 : decode prog_1_method_5_code 4 = .ok (.ifCond .ne 5, 3) := by decide +kernel
theorem d10_removeAnswer_7 : decode prog_1_method_5_code 7 = .ok (.iconst (-1), 1) := by decide +kernel
theorem d10_removeAnswer_8 : decode prog_1_method_5_code 8 = .ok (.ireturn, 1) := by decide +kernel
theorem d10_removeAnswer_9 : decode prog_1_method_5_code 9 = .ok (.aload_n 0, 1) := by decide +kernel
theorem d10_removeAnswer_10 : decode prog_1_method_5_code 10 = .ok (.getfield 10, 3) := by decide +kernel
theorem d10_removeAnswer_13 : decode prog_1_method_5_code 13 = .ok (.getfield 75, 3) := by decide +kernel
theorem d10_removeAnswer_16 : decode prog_1_method_5_code 16 = .ok (.iload_n 1, 1) := by decide +kernel
theorem d10_removeAnswer_17 : decode prog_1_method_5_code 17 = .ok (.aaload, 1) := by decide +kernel
theorem d10_removeAnswer_18 : decode prog_1_method_5_code 18 = .ok (.getfield 91, 3) := by decide +kernel
theorem d10_removeAnswer_21 : decode prog_1_method_5_code 21 = .ok (.astore_n 3, 1) := by decide +kernel
theorem d10_removeAnswer_22 : decode prog_1_method_5_code 22 = .ok (.iload_n 2, 1) := by decide +kernel
theorem d10_removeAnswer_23 : decode prog_1_method_5_code 23 = .ok (.invokestatic 72, 3) := by decide +kernel
theorem d10_removeAnswer_26 : decode prog_1_method_5_code 26 = .ok (.ifCond .eq 15, 3) := by decide +kernel
theorem d10_removeAnswer_29 : decode prog_1_method_5_code 29 = .ok (.aload_n 3, 1) := by decide +kernel
theorem d10_removeAnswer_30 : decode prog_1_method_5_code 30 = .ok (.iload_n 2, 1) := by decide +kernel
theorem d10_removeAnswer_31 : decode prog_1_method_5_code 31 = .ok (.iconst 0, 1) := by decide +kernel
theorem d10_removeAnswer_32 : decode prog_1_method_5_code 32 = .ok (.invokestatic 95, 3) := by decide +kernel
theorem d10_removeAnswer_35 : decode prog_1_method_5_code 35 = .ok (.invokevirtual 99, 3) := by decide +kernel
theorem d10_removeAnswer_38 : decode prog_1_method_5_code 38 = .ok (.goto 4, 3) := by decide +kernel
theorem d10_removeAnswer_41 : decode prog_1_method_5_code 41 = .ok (.iconst (-1), 1) := by decide +kernel
theorem d10_removeAnswer_42 : decode prog_1_method_5_code 42 = .ok (.istore 4, 2) := by decide +kernel
theorem d10_removeAnswer_44 : decode prog_1_method_5_code 44 = .ok (.iload 4, 2) := by decide +kernel
theorem d10_removeAnswer_46 : decode prog_1_method_5_code 46 = .ok (.ifCond .ge 6, 3) := by decide +kernel
theorem d10_removeAnswer_49 : decode prog_1_method_5_code 49 = .ok (.bipush (-5), 2) := by decide +kernel
theorem d10_removeAnswer_51 : decode prog_1_method_5_code 51 = .ok (.ireturn, 1) := by decide +kernel
theorem d10_removeAnswer_52 : decode prog_1_method_5_code 52 = .ok (.aload_n 3, 1) := by decide +kernel
theorem d10_removeAnswer_53 : decode prog_1_method_5_code 53 = .ok (.iload 4, 2) := by decide +kernel
theorem d10_removeAnswer_55 : decode prog_1_method_5_code 55 = .ok (.invokevirtual 109, 3) := by decide +kernel
theorem d10_removeAnswer_58 : decode prog_1_method_5_code 58 = .ok (.aload_n 3, 1) := by decide +kernel
theorem d10_removeAnswer_59 : decode prog_1_method_5_code 59 = .ok (.getfield 113, 3) := by decide +kernel
theorem d10_removeAnswer_62 : decode prog_1_method_5_code 62 = .ok (.ireturn, 1) := by decide +kernel
theorem d10_detach_0 : decode prog_1_method_6_code 0 = .ok (.iload_n 1, 1) := by decide +kernel
theorem d10_detach_1 : decode prog_1_method_6_code 1 = .ok (.invokestatic 68, 3) := by decide +kernel
theorem d10_detach_4 : decode prog_1_method_6_code 4 = .ok (.ifCond .ne 5, 3) := by decide +kernel
theorem d10_detach_7 : decode prog_1_method_6_code 7 = .ok (.iconst (-1), 1) := by decide +kernel
theorem d10_detach_8 : decode prog_1_method_6_code 8 = .ok (.ireturn, 1) := by decide +kernel
theorem d10_detach_9 : decode prog_1_method_6_code 9 = .ok (.aload_n 0, 1) := by decide +kernel
theorem d10_detach_10 : decode prog_1_method_6_code 10 = .ok (.getfield 10, 3) := by decide +kernel
theorem d10_detach_13 : decode prog_1_method_6_code 13 = .ok (.getfield 75, 3) := by decide +kernel
theorem d10_detach_16 : decode prog_1_method_6_code 16 = .ok (.iload_n 1, 1) := by decide +kernel
theorem d10_detach_17 : decode prog_1_method_6_code 17 = .ok (.aaload, 1) := by decide +kernel
theorem d10_detach_18 : decode prog_1_method_6_code 18 = .ok (.astore_n 2, 1) := by decide +kernel
theorem d10_detach_19 : decode prog_1_method_6_code 19 = .ok (.aload_n 2, 1) := by decide +kernel
theorem d10_detach_20 : decode prog_1_method_6_code 20 = .ok (.getfield 120, 3) := by decide +kernel
theorem d10_detach_23 : decode prog_1_method_6_code 23 = .ok (.istore_n 3, 1) := by decide +kernel
theorem d10_detach_24 : decode prog_1_method_6_code 24 = .ok (.iload_n 3, 1) := by decide +kernel
theorem d10_detach_25 : decode prog_1_method_6_code 25 = .ok (.ifCond .ne 6, 3) := by decide +kernel
theorem d10_detach_28 : decode prog_1_method_6_code 28 = .ok (.bipush (-4), 2) := by decide +kernel
theorem d10_detach_30 : decode prog_1_method_6_code 30 = .ok (.ireturn, 1) := by decide +kernel
theorem d10_detach_31 : decode prog_1_method_6_code 31 = .ok (.aload_n 2, 1) := by decide +kernel
theorem d10_detach_32 : decode prog_1_method_6_code 32 = .ok (.iconst 0, 1) := by decide +kernel
theorem d10_detach_33 : decode prog_1_method_6_code 33 = .ok (.invokevirtual 123, 3) := by decide +kernel
theorem d10_detach_36 : decode prog_1_method_6_code 36 = .ok (.iload_n 3, 1) := by decide +kernel
theorem d10_detach_37 : decode prog_1_method_6_code 37 = .ok (.ireturn, 1) := by decide +kernel
theorem d10_attach_0 : decode prog_1_method_7_code 0 = .ok (.iload_n 1, 1) := by decide +kernel
theorem d10_attach_1 : decode prog_1_method_7_code 1 = .ok (.invokestatic 68, 3) := by decide +kernel
theorem d10_attach_4 : decode prog_1_method_7_code 4 = .ok (.ifCond .ne 5, 3) := by decide +kernel
theorem d10_attach_7 : decode prog_1_method_7_code 7 = .ok (.iconst (-1), 1) := by decide +kernel
theorem d10_attach_8 : decode prog_1_method_7_code 8 = .ok (.ireturn, 1) := by decide +kernel
theorem d10_attach_9 : decode prog_1_method_7_code 9 = .ok (.aload_n 0, 1) := by decide +kernel
theorem d10_attach_10 : decode prog_1_method_7_code 10 = .ok (.getfield 10, 3) := by decide +kernel
theorem d10_attach_13 : decode prog_1_method_7_code 13 = .ok (.getfield 75, 3) := by decide +kernel
theorem d10_attach_16 : decode prog_1_method_7_code 16 = .ok (.iload_n 1, 1) := by decide +kernel
theorem d10_attach_17 : decode prog_1_method_7_code 17 = .ok (.aaload, 1) := by decide +kernel
theorem d10_attach_18 : decode prog_1_method_7_code 18 = .ok (.astore_n 2, 1) := by decide +kernel
theorem d10_attach_19 : decode prog_1_method_7_code 19 = .ok (.aload_n 2, 1) := by decide +kernel
theorem d10_attach_20 : decode prog_1_method_7_code 20 = .ok (.getfield 120, 3) := by decide +kernel
theorem d10_attach_23 : decode prog_1_method_7_code 23 = .ok (.ifCond .eq 6, 3) := by decide +kernel
theorem d10_attach_26 : decode prog_1_method_7_code 26 = .ok (.bipush (-4), 2) := by decide +kernel
theorem d10_attach_28 : decode prog_1_method_7_code 28 = .ok (.ireturn, 1) := by decide +kernel
theorem d10_attach_29 : decode prog_1_method_7_code 29 = .ok (.aload_n 2, 1) := by decide +kernel
theorem d10_attach_30 : decode prog_1_method_7_code 30 = .ok (.iconst 2, 1) := by decide +kernel
theorem d10_attach_31 : decode prog_1_method_7_code 31 = .ok (.invokevirtual 123, 3) := by decide +kernel
theorem d10_attach_34 : decode prog_1_method_7_code 34 = .ok (.aload_n 0, 1) := by decide +kernel
theorem d10_attach_35 : decode prog_1_method_7_code 35 = .ok (.getfield 10, 3) := by decide +kernel
theorem d10_attach_38 : decode prog_1_method_7_code 38 = .ok (.invokevirtual 126, 3) := by decide +kernel
theorem d10_attach_41 : decode prog_1_method_7_code 41 = .ok (.ireturn, 1) := by decide +kernel
theorem d10_request_0 : decode prog_1_method_8_code 0 = .ok (.iload_n 1, 1) := by decide +kernel
theorem d10_request_1 : decode prog_1_method_8_code 1 = .ok (.invokestatic 68, 3) := by decide +kernel
theorem d10_request_4 : decode prog_1_method_8_code 4 = .ok (.ifCond .ne 5, 3) := by decide +kernel
theorem d10_request_7 : decode prog_1_method_8_code 7 = .ok (.iconst (-1), 1) := by decide +kernel
theorem d10_request_8 : decode prog_1_method_8_code 8 = .ok (.ireturn, 1) := by decide +kernel
theorem d10_request_9 : decode prog_1_method_8_code 9 = .ok (.iload_n 2, 1) := by decide +kernel
theorem d10_request_10 : decode prog_1_method_8_code 10 = .ok (.iload_n 3, 1) := by decide +kernel
theorem d10_request_11 : decode prog_1_method_8_code 11 = .ok (.iload 4, 2) := by decide +kernel
theorem d10_request_13 : decode prog_1_method_8_code 13 = .ok (.iload 5, 2) := by decide +kernel
theorem d10_request_15 : decode prog_1_method_8_code 15 = .ok (.invokestatic 87, 3) := by decide +kernel
theorem d10_request_18 : decode prog_1_method_8_code 18 = .ok (.ifCond .ne 6, 3) := by decide +kernel
theorem d10_request_21 : decode prog_1_method_8_code 21 = .ok (.bipush (-2), 2) := by decide +kernel
theorem d10_request_23 : decode prog_1_method_8_code 23 = .ok (.ireturn, 1) := by decide +kernel
theorem d10_request_24 : decode prog_1_method_8_code 24 = .ok (.aload_n 0, 1) := by decide +kernel
theorem d10_request_25 : decode prog_1_method_8_code 25 = .ok (.getfield 10, 3) := by decide +kernel
theorem d10_request_28 : decode prog_1_method_8_code 28 = .ok (.getfield 75, 3) := by decide +kernel
theorem d10_request_31 : decode prog_1_method_8_code 31 = .ok (.iload_n 1, 1) := by decide +kernel
theorem d10_request_32 : decode prog_1_method_8_code 32 = .ok (.aaload, 1) := by decide +kernel
theorem d10_request_33 : decode prog_1_method_8_code 33 = .ok (.astore 6, 2) := by decide +kernel
theorem d10_request_35 : decode prog_1_method_8_code 35 = .ok (.aload 6, 2) := by decide +kernel
theorem d10_request_37 : decode prog_1_method_8_code 37 = .ok (.iload_n 2, 1) := by decide +kernel
theorem d10_request_38 : decode prog_1_method_8_code 38 = .ok (.iload_n 3, 1) := by decide +kernel
theorem d10_request_39 : decode prog_1_method_8_code 39 = .ok (.invokestatic 95, 3) := by decide +kernel
theorem d10_request_42 : decode prog_1_method_8_code 42 = .ok (.iload 4, 2) := by decide +kernel
theorem d10_request_44 : decode prog_1_method_8_code 44 = .ok (.iload 5, 2) := by decide +kernel
theorem d10_request_46 : decode prog_1_method_8_code 46 = .ok (.invokevirtual 130, 3) := by decide +kernel
theorem d10_request_49 : decode prog_1_method_8_code 49 = .ok (.ifCond .ne 6, 3) := by decide +kernel
theorem d10_request_52 : decode prog_1_method_8_code 52 = .ok (.bipush (-3), 2) := by decide +kernel
theorem d10_request_54 : decode prog_1_method_8_code 54 = .ok (.ireturn, 1) := by decide +kernel
theorem d10_request_55 : decode prog_1_method_8_code 55 = .ok (.aload 6, 2) := by decide +kernel
theorem d10_request_57 : decode prog_1_method_8_code 57 = .ok (.getfield 133, 3) := by decide +kernel
theorem d10_request_60 : decode prog_1_method_8_code 60 = .ok (.getfield 113, 3) := by decide +kernel
theorem d10_request_63 : decode prog_1_method_8_code 63 = .ok (.ireturn, 1) := by decide +kernel
theorem d10_cancel_0 : decode prog_1_method_9_code 0 = .ok (.iload_n 1, 1) := by decide +kernel
theorem d10_cancel_1 : decode prog_1_method_9_code 1 = .ok (.invokestatic 68, 3) := by decide +kernel
theorem d10_cancel_4 : decode prog_1_method_9_code 4 = .ok (.ifCond .ne 5, 3) := by decide +kernel
theorem d10_cancel_7 : decode prog_1_method_9_code 7 = .ok (.iconst (-1), 1) := by decide +kernel
theorem d10_cancel_8 : decode prog_1_method_9_code 8 = .ok (.ireturn, 1) := by decide +kernel
theorem d10_cancel_9 : decode prog_1_method_9_code 9 = .ok (.aload_n 0, 1) := by decide +kernel
theorem d10_cancel_10 : decode prog_1_method_9_code 10 = .ok (.getfield 10, 3) := by decide +kernel
theorem d10_cancel_13 : decode prog_1_method_9_code 13 = .ok (.getfield 75, 3) := by decide +kernel
theorem d10_cancel_16 : decode prog_1_method_9_code 16 = .ok (.iload_n 1, 1) := by decide +kernel
theorem d10_cancel_17 : decode prog_1_method_9_code 17 = .ok (.aaload, 1) := by decide +kernel
theorem d10_cancel_18 : decode prog_1_method_9_code 18 = .ok (.iload_n 2, 1) := by decide +kernel
theorem d10_cancel_19 : decode prog_1_method_9_code 19 = .ok (.invokevirtual 136, 3) := by decide +kernel
theorem d10_cancel_22 : decode prog_1_method_9_code 22 = .ok (.ireturn, 1) := by decide +kernel
theorem d10_disturb_0 : decode prog_1_method_10_code 0 = .ok (.iload_n 1, 1) := by decide +kernel
theorem d10_disturb_1 : decode prog_1_method_10_code 1 = .ok (.iconst 1, 1) := by decide +kernel
theorem d10_disturb_2 : decode prog_1_method_10_code 2 = .ok (.bipush 15, 2) := by decide +kernel
theorem d10_disturb_4 : decode prog_1_method_10_code 4 = .ok (.invokestatic 48, 3) := by decide +kernel
theorem d10_disturb_7 : decode prog_1_method_10_code 7 = .ok (.ifCond .eq 14, 3) := by decide +kernel
theorem d10_disturb_10 : decode prog_1_method_10_code 10 = .ok (.iload_n 2, 1) := by decide +kernel
theorem d10_disturb_11 : decode prog_1_method_10_code 11 = .ok (.iconst 0, 1) := by decide +kernel
theorem d10_disturb_12 : decode prog_1_method_10_code 12 = .ok (.sipush 200, 3) := by decide +kernel
theorem d10_disturb_15 : decode prog_1_method_10_code 15 = .ok (.invokestatic 48, 3) := by decide +kernel
theorem d10_disturb_18 : decode prog_1_method_10_code 18 = .ok (.ifCond .ne 6, 3) := by decide +kernel
theorem d10_disturb_21 : decode prog_1_method_10_code 21 = .ok (.bipush (-2), 2) := by decide +kernel
theorem d10_disturb_23 : decode prog_1_method_10_code 23 = .ok (.ireturn, 1) := by decide +kernel
theorem d10_disturb_24 : decode prog_1_method_10_code 24 = .ok (.aload_n 0, 1) := by decide +kernel
theorem d10_disturb_25 : decode prog_1_method_10_code 25 = .ok (.getfield 10, 3) := by decide +kernel
theorem d10_disturb_28 : decode prog_1_method_10_code 28 = .ok (.getfield 139, 3) := by decide +kernel
theorem d10_disturb_31 : decode prog_1_method_10_code 31 = .ok (.astore_n 3, 1) := by decide +kernel
theorem d10_disturb_32 : decode prog_1_method_10_code 32 = .ok (.aload_n 3, 1) := by decide +kernel
theorem d10_disturb_33 : decode prog_1_method_10_code 33 = .ok (.iload_n 1, 1) := by decide +kernel
theorem d10_disturb_34 : decode prog_1_method_10_code 34 = .ok (.aload_n 0, 1) := by decide +kernel
theorem d10_disturb_35 : decode prog_1_method_10_code 35 = .ok (.getfield 10, 3) := by decide +kernel
theorem d10_disturb_38 : decode prog_1_method_10_code 38 = .ok (.getfield 143, 3) := by decide +kernel
theorem d10_disturb_41 : decode prog_1_method_10_code 41 = .ok (.iload_n 2, 1) := by decide +kernel
theorem d10_disturb_42 : decode prog_1_method_10_code 42 = .ok (.iadd, 1) := by decide +kernel
theorem d10_disturb_43 : decode prog_1_method_10_code 43 = .ok (.invokevirtual 146, 3) := by decide +kernel
theorem d10_disturb_46 : decode prog_1_method_10_code 46 = .ok (.ifCond .ne 6, 3) := by decide +kernel
theorem d10_disturb_49 : decode prog_1_method_10_code 49 = .ok (.bipush (-3), 2) := by decide +kernel
theorem d10_disturb_51 : decode prog_1_method_10_code 51 = .ok (.ireturn, 1) := by decide +kernel
theorem d10_disturb_52 : decode prog_1_method_10_code 52 = .ok (.aload_n 3, 1) := by decide +kernel
theorem d10_disturb_53 : decode prog_1_method_10_code 53 = .ok (.getfield 152, 3) := by decide +kernel
theorem d10_disturb_56 : decode prog_1_method_10_code 56 = .ok (.ireturn, 1) := by decide +kernel
theorem d10_run_0 : decode prog_1_method_11_code 0 = .ok (.iload_n 1, 1) := by decide +kernel
theorem d10_run_1 : decode prog_1_method_11_code 1 = .ok (.iconst 1, 1) := by decide +kernel
theorem d10_run_2 : decode prog_1_method_11_code 2 = .ok (.sipush 200, 3) := by decide +kernel
theorem d10_run_5 : decode prog_1_method_11_code 5 = .ok (.invokestatic 48, 3) := by decide +kernel
theorem d10_run_8 : decode prog_1_method_11_code 8 = .ok (.ifCond .ne 6, 3) := by decide +kernel
theorem d10_run_11 : decode prog_1_method_11_code 11 = .ok (.bipush (-2), 2) := by decide +kernel
theorem d10_run_13 : decode prog_1_method_11_code 13 = .ok (.ireturn, 1) := by decide +kernel
theorem d10_run_14 : decode prog_1_method_11_code 14 = .ok (.aload_n 0, 1) := by decide +kernel
theorem d10_run_15 : decode prog_1_method_11_code 15 = .ok (.getfield 10, 3) := by decide +kernel
theorem d10_run_18 : decode prog_1_method_11_code 18 = .ok (.invokevirtual 153, 3) := by decide +kernel
theorem d10_run_21 : decode prog_1_method_11_code 21 = .ok (.istore_n 2, 1) := by decide +kernel
theorem d10_run_22 : decode prog_1_method_11_code 22 = .ok (.iconst 0, 1) := by decide +kernel
theorem d10_run_23 : decode prog_1_method_11_code 23 = .ok (.istore_n 3, 1) := by decide +kernel
theorem d10_run_24 : decode prog_1_method_11_code 24 = .ok (.iload_n 3, 1) := by decide +kernel
theorem d10_run_25 : decode prog_1_method_11_code 25 = .ok (.iload_n 1, 1) := by decide +kernel
theorem d10_run_26 : decode prog_1_method_11_code 26 = .ok (.if_icmp .ge 16, 3) := by decide +kernel
theorem d10_run_29 : decode prog_1_method_11_code 29 = .ok (.aload_n 0, 1) := by decide +kernel
theorem d10_run_30 : decode prog_1_method_11_code 30 = .ok (.getfield 10, 3) := by decide +kernel
theorem d10_run_33 : decode prog_1_method_11_code 33 = .ok (.invokevirtual 156, 3) := by decide +kernel
theorem d10_run_36 : decode prog_1_method_11_code 36 = .ok (.iinc 3 1, 3) := by decide +kernel
theorem d10_run_39 : decode prog_1_method_11_code 39 = .ok (.goto (-15), 3) := by decide +kernel
theorem d10_run_42 : decode prog_1_method_11_code 42 = .ok (.aload_n 0, 1) := by decide +kernel
theorem d10_run_43 : decode prog_1_method_11_code 43 = .ok (.getfield 10, 3) := by decide +kernel
theorem d10_run_46 : decode prog_1_method_11_code 46 = .ok (.invokevirtual 153, 3) := by decide +kernel
theorem d10_run_49 : decode prog_1_method_11_code 49 = .ok (.iload_n 2, 1) := by decide +kernel
theorem d10_run_50 : decode prog_1_method_11_code 50 = .ok (.isub, 1) := by decide +kernel
theorem d10_run_51 : decode prog_1_method_11_code 51 = .ok (.ireturn, 1) := by decide +kernel
theorem d10_settle_0 : decode prog_1_method_12_code 0 = .ok (.iconst 0, 1) := by decide +kernel
theorem d10_settle_1 : decode prog_1_method_12_code 1 = .ok (.istore_n 1, 1) := by decide +kernel
theorem d10_settle_2 : decode prog_1_method_12_code 2 = .ok (.iload_n 1, 1) := by decide +kernel
theorem d10_settle_3 : decode prog_1_method_12_code 3 = .ok (.sipush 1000, 3) := by decide +kernel
theorem d10_settle_6 : decode prog_1_method_12_code 6 = .ok (.if_icmp .ge 28, 3) := by decide +kernel
theorem d10_settle_9 : decode prog_1_method_12_code 9 = .ok (.aload_n 0, 1) := by decide +kernel
theorem d10_settle_10 : decode prog_1_method_12_code 10 = .ok (.getfield 10, 3) := by decide +kernel
theorem d10_settle_13 : decode prog_1_method_12_code 13 = .ok (.invokevirtual 159, 3) := by decide +kernel
theorem d10_settle_16 : decode prog_1_method_12_code 16 = .ok (.ifCond .eq 5, 3) := by decide +kernel
theorem d10_settle_19 : decode prog_1_method_12_code 19 = .ok (.iload_n 1, 1) := by decide +kernel
theorem d10_settle_20 : decode prog_1_method_12_code 20 = .ok (.ireturn, 1) := by decide +kernel
theorem d10_settle_21 : decode prog_1_method_12_code 21 = .ok (.aload_n 0, 1) := by decide +kernel
theorem d10_settle_22 : decode prog_1_method_12_code 22 = .ok (.getfield 10, 3) := by decide +kernel
theorem d10_settle_25 : decode prog_1_method_12_code 25 = .ok (.invokevirtual 156, 3) := by decide +kernel
theorem d10_settle_28 : decode prog_1_method_12_code 28 = .ok (.iinc 1 1, 3) := by decide +kernel
theorem d10_settle_31 : decode prog_1_method_12_code 31 = .ok (.goto (-29), 3) := by decide +kernel
theorem d10_settle_34 : decode prog_1_method_12_code 34 = .ok (.aload_n 0, 1) := by decide +kernel
theorem d10_settle_35 : decode prog_1_method_12_code 35 = .ok (.getfield 10, 3) := by decide +kernel
theorem d10_settle_38 : decode prog_1_method_12_code 38 = .ok (.invokevirtual 159, 3) := by decide +kernel
theorem d10_settle_41 : decode prog_1_method_12_code 41 = .ok (.ifCond .eq 9, 3) := by decide +kernel
theorem d10_settle_44 : decode prog_1_method_12_code 44 = .ok (.sipush 1000, 3) := by decide +kernel
theorem d10_settle_47 : decode prog_1_method_12_code 47 = .ok (.goto 5, 3) := by decide +kernel
theorem d10_settle_50 : decode prog_1_method_12_code 50 = .ok (.bipush (-5), 2) := by decide +kernel
theorem d10_settle_52 : decode prog_1_method_12_code 52 = .ok (.ireturn, 1) := by decide +kernel
theorem d10_phase_0 : decode prog_1_method_13_code 0 = .ok (.iload_n 1, 1) := by decide +kernel
theorem d10_phase_1 : decode prog_1_method_13_code 1 = .ok (.invokestatic 68, 3) := by decide +kernel
theorem d10_phase_4 : decode prog_1_method_13_code 4 = .ok (.ifCond .eq 18, 3) := by decide +kernel
theorem d10_phase_7 : decode prog_1_method_13_code 7 = .ok (.aload_n 0, 1) := by decide +kernel
theorem d10_phase_8 : decode prog_1_method_13_code 8 = .ok (.getfield 10, 3) := by decide +kernel
theorem d10_phase_11 : decode prog_1_method_13_code 11 = .ok (.getfield 75, 3) := by decide +kernel
theorem d10_phase_14 : decode prog_1_method_13_code 14 = .ok (.iload_n 1, 1) := by decide +kernel
theorem d10_phase_15 : decode prog_1_method_13_code 15 = .ok (.aaload, 1) := by decide +kernel
theorem d10_phase_16 : decode prog_1_method_13_code 16 = .ok (.getfield 120, 3) := by decide +kernel
theorem d10_phase_19 : decode prog_1_method_13_code 19 = .ok (.goto 4, 3) := by decide +kernel
theorem d10_phase_22 : decode prog_1_method_13_code 22 = .ok (.iconst (-1), 1) := by decide +kernel
theorem d10_phase_23 : decode prog_1_method_13_code 23 = .ok (.ireturn, 1) := by decide +kernel
theorem d10_isTransmitter_0 : decode prog_1_method_14_code 0 = .ok (.iload_n 1, 1) := by decide +kernel
theorem d10_isTransmitter_1 : decode prog_1_method_14_code 1 = .ok (.invokestatic 68, 3) := by decide +kernel
theorem d10_isTransmitter_4 : decode prog_1_method_14_code 4 = .ok (.ifCond .eq 21, 3) := by decide +kernel
theorem d10_isTransmitter_7 : decode prog_1_method_14_code 7 = .ok (.aload_n 0, 1) := by decide +kernel
theorem d10_isTransmitter_8 : decode prog_1_method_14_code 8 = .ok (.getfield 10, 3) := by decide +kernel
theorem d10_isTransmitter_11 : decode prog_1_method_14_code 11 = .ok (.getfield 75, 3) := by decide +kernel
theorem d10_isTransmitter_14 : decode prog_1_method_14_code 14 = .ok (.iload_n 1, 1) := by decide +kernel
theorem d10_isTransmitter_15 : decode prog_1_method_14_code 15 = .ok (.aaload, 1) := by decide +kernel
theorem d10_isTransmitter_16 : decode prog_1_method_14_code 16 = .ok (.getfield 162, 3) := by decide +kernel
theorem d10_isTransmitter_19 : decode prog_1_method_14_code 19 = .ok (.invokestatic 166, 3) := by decide +kernel
theorem d10_isTransmitter_22 : decode prog_1_method_14_code 22 = .ok (.goto 4, 3) := by decide +kernel
theorem d10_isTransmitter_25 : decode prog_1_method_14_code 25 = .ok (.iconst (-1), 1) := by decide +kernel
theorem d10_isTransmitter_26 : decode prog_1_method_14_code 26 = .ok (.ireturn, 1) := by decide +kernel
theorem d10_transmitErrors_0 : decode prog_1_method_15_code 0 = .ok (.iload_n 1, 1) := by decide +kernel
theorem d10_transmitErrors_1 : decode prog_1_method_15_code 1 = .ok (.invokestatic 68, 3) := by decide +kernel
theorem d10_transmitErrors_4 : decode prog_1_method_15_code 4 = .ok (.ifCond .eq 18, 3) := by decide +kernel
theorem d10_transmitErrors_7 : decode prog_1_method_15_code 7 = .ok (.aload_n 0, 1) := by decide +kernel
theorem d10_transmitErrors_8 : decode prog_1_method_15_code 8 = .ok (.getfield 10, 3) := by decide +kernel
theorem d10_transmitErrors_11 : decode prog_1_method_15_code 11 = .ok (.getfield 75, 3) := by decide +kernel
theorem d10_transmitErrors_14 : decode prog_1_method_15_code 14 = .ok (.iload_n 1, 1) := by decide +kernel
theorem d10_transmitErrors_15 : decode prog_1_method_15_code 15 = .ok (.aaload, 1) := by decide +kernel
theorem d10_transmitErrors_16 : decode prog_1_method_15_code 16 = .ok (.getfield 170, 3) := by decide +kernel
theorem d10_transmitErrors_19 : decode prog_1_method_15_code 19 = .ok (.goto 4, 3) := by decide +kernel
theorem d10_transmitErrors_22 : decode prog_1_method_15_code 22 = .ok (.iconst (-1), 1) := by decide +kernel
theorem d10_transmitErrors_23 : decode prog_1_method_15_code 23 = .ok (.ireturn, 1) := by decide +kernel
theorem d10_receiveErrors_0 : decode prog_1_method_16_code 0 = .ok (.iload_n 1, 1) := by decide +kernel
theorem d10_receiveErrors_1 : decode prog_1_method_16_code 1 = .ok (.invokestatic 68, 3) := by decide +kernel
theorem d10_receiveErrors_4 : decode prog_1_method_16_code 4 = .ok (.ifCond .eq 18, 3) := by decide +kernel
theorem d10_receiveErrors_7 : decode prog_1_method_16_code 7 = .ok (.aload_n 0, 1) := by decide +kernel
theorem d10_receiveErrors_8 : decode prog_1_method_16_code 8 = .ok (.getfield 10, 3) := by decide +kernel
theorem d10_receiveErrors_11 : decode prog_1_method_16_code 11 = .ok (.getfield 75, 3) := by decide +kernel
theorem d10_receiveErrors_14 : decode prog_1_method_16_code 14 = .ok (.iload_n 1, 1) := by decide +kernel
theorem d10_receiveErrors_15 : decode prog_1_method_16_code 15 = .ok (.aaload, 1) := by decide +kernel
theorem d10_receiveErrors_16 : decode prog_1_method_16_code 16 = .ok (.getfield 173, 3) := by decide +kernel
theorem d10_receiveErrors_19 : decode prog_1_method_16_code 19 = .ok (.goto 4, 3) := by decide +kernel
theorem d10_receiveErrors_22 : decode prog_1_method_16_code 22 = .ok (.iconst (-1), 1) := by decide +kernel
theorem d10_receiveErrors_23 : decode prog_1_method_16_code 23 = .ok (.ireturn, 1) := by decide +kernel
theorem d10_isPassive_0 : decode prog_1_method_17_code 0 = .ok (.iload_n 1, 1) := by decide +kernel
theorem d10_isPassive_1 : decode prog_1_method_17_code 1 = .ok (.invokestatic 68, 3) := by decide +kernel
theorem d10_isPassive_4 : decode prog_1_method_17_code 4 = .ok (.ifCond .eq 21, 3) := by decide +kernel
theorem d10_isPassive_7 : decode prog_1_method_17_code 7 = .ok (.aload_n 0, 1) := by decide +kernel
theorem d10_isPassive_8 : decode prog_1_method_17_code 8 = .ok (.getfield 10, 3) := by decide +kernel
theorem d10_isPassive_11 : decode prog_1_method_17_code 11 = .ok (.getfield 75, 3) := by decide +kernel
theorem d10_isPassive_14 : decode prog_1_method_17_code 14 = .ok (.iload_n 1, 1) := by decide +kernel
theorem d10_isPassive_15 : decode prog_1_method_17_code 15 = .ok (.aaload, 1) := by decide +kernel
theorem d10_isPassive_16 : decode prog_1_method_17_code 16 = .ok (.invokevirtual 176, 3) := by decide +kernel
theorem d10_isPassive_19 : decode prog_1_method_17_code 19 = .ok (.invokestatic 166, 3) := by decide +kernel
theorem d10_isPassive_22 : decode prog_1_method_17_code 22 = .ok (.goto 4, 3) := by decide +kernel
theorem d10_isPassive_25 : decode prog_1_method_17_code 25 = .ok (.iconst (-1), 1) := by decide +kernel
theorem d10_isPassive_26 : decode prog_1_method_17_code 26 = .ok (.ireturn, 1) := by decide +kernel
theorem d10_errors_0 : decode prog_1_method_18_code 0 = .ok (.iload_n 1, 1) := by decide +kernel
theorem d10_errors_1 : decode prog_1_method_18_code 1 = .ok (.invokestatic 68, 3) := by decide +kernel
theorem d10_errors_4 : decode prog_1_method_18_code 4 = .ok (.ifCond .ne 5, 3) := by decide +kernel
theorem d10_errors_7 : decode prog_1_method_18_code 7 = .ok (.iconst (-1), 1) := by decide +kernel
theorem d10_errors_8 : decode prog_1_method_18_code 8 = .ok (.ireturn, 1) := by decide +kernel
theorem d10_errors_9 : decode prog_1_method_18_code 9 = .ok (.iload_n 2, 1) := by decide +kernel
theorem d10_errors_10 : decode prog_1_method_18_code 10 = .ok (.iconst 1, 1) := by decide +kernel
theorem d10_errors_11 : decode prog_1_method_18_code 11 = .ok (.iconst 5, 1) := by decide +kernel
theorem d10_errors_12 : decode prog_1_method_18_code 12 = .ok (.invokestatic 48, 3) := by decide +kernel
theorem d10_errors_15 : decode prog_1_method_18_code 15 = .ok (.ifCond .ne 6, 3) := by decide +kernel
theorem d10_errors_18 : decode prog_1_method_18_code 18 = .ok (.bipush (-2), 2) := by decide +kernel
theorem d10_errors_20 : decode prog_1_method_18_code 20 = .ok (.ireturn, 1) := by decide +kernel
theorem d10_errors_21 : decode prog_1_method_18_code 21 = .ok (.aload_n 0, 1) := by decide +kernel
theorem d10_errors_22 : decode prog_1_method_18_code 22 = .ok (.getfield 10, 3) := by decide +kernel
theorem d10_errors_25 : decode prog_1_method_18_code 25 = .ok (.getfield 75, 3) := by decide +kernel
theorem d10_errors_28 : decode prog_1_method_18_code 28 = .ok (.iload_n 1, 1) := by decide +kernel
theorem d10_errors_29 : decode prog_1_method_18_code 29 = .ok (.aaload, 1) := by decide +kernel
theorem d10_errors_30 : decode prog_1_method_18_code 30 = .ok (.getfield 179, 3) := by decide +kernel
theorem d10_errors_33 : decode prog_1_method_18_code 33 = .ok (.getfield 183, 3) := by decide +kernel
theorem d10_errors_36 : decode prog_1_method_18_code 36 = .ok (.iload_n 2, 1) := by decide +kernel
theorem d10_errors_37 : decode prog_1_method_18_code 37 = .ok (.iaload, 1) := by decide +kernel
theorem d10_errors_38 : decode prog_1_method_18_code 38 = .ok (.ireturn, 1) := by decide +kernel
theorem d10_lastError_0 : decode prog_1_method_19_code 0 = .ok (.iload_n 1, 1) := by decide +kernel
theorem d10_lastError_1 : decode prog_1_method_19_code 1 = .ok (.invokestatic 68, 3) := by decide +kernel
theorem d10_lastError_4 : decode prog_1_method_19_code 4 = .ok (.ifCond .eq 21, 3) := by decide +kernel
theorem d10_lastError_7 : decode prog_1_method_19_code 7 = .ok (.aload_n 0, 1) := by decide +kernel
theorem d10_lastError_8 : decode prog_1_method_19_code 8 = .ok (.getfield 10, 3) := by decide +kernel
theorem d10_lastError_11 : decode prog_1_method_19_code 11 = .ok (.getfield 75, 3) := by decide +kernel
theorem d10_lastError_14 : decode prog_1_method_19_code 14 = .ok (.iload_n 1, 1) := by decide +kernel
theorem d10_lastError_15 : decode prog_1_method_19_code 15 = .ok (.aaload, 1) := by decide +kernel
theorem d10_lastError_16 : decode prog_1_method_19_code 16 = .ok (.getfield 179, 3) := by decide +kernel
theorem d10_lastError_19 : decode prog_1_method_19_code 19 = .ok (.getfield 189, 3) := by decide +kernel
theorem d10_lastError_22 : decode prog_1_method_19_code 22 = .ok (.goto 4, 3) := by decide +kernel
theorem d10_lastError_25 : decode prog_1_method_19_code 25 = .ok (.iconst (-1), 1) := by decide +kernel
theorem d10_lastError_26 : decode prog_1_method_19_code 26 = .ok (.ireturn, 1) := by decide +kernel
theorem d10_lostArbitrations_0 : decode prog_1_method_20_code 0 = .ok (.iload_n 1, 1) := by decide +kernel
theorem d10_lostArbitrations_1 : decode prog_1_method_20_code 1 = .ok (.invokestatic 68, 3) := by decide +kernel
theorem d10_lostArbitrations_4 : decode prog_1_method_20_code 4 = .ok (.ifCond .eq 21, 3) := by decide +kernel
theorem d10_lostArbitrations_7 : decode prog_1_method_20_code 7 = .ok (.aload_n 0, 1) := by decide +kernel
theorem d10_lostArbitrations_8 : decode prog_1_method_20_code 8 = .ok (.getfield 10, 3) := by decide +kernel
theorem d10_lostArbitrations_11 : decode prog_1_method_20_code 11 = .ok (.getfield 75, 3) := by decide +kernel
theorem d10_lostArbitrations_14 : decode prog_1_method_20_code 14 = .ok (.iload_n 1, 1) := by decide +kernel
theorem d10_lostArbitrations_15 : decode prog_1_method_20_code 15 = .ok (.aaload, 1) := by decide +kernel
theorem d10_lostArbitrations_16 : decode prog_1_method_20_code 16 = .ok (.getfield 179, 3) := by decide +kernel
theorem d10_lostArbitrations_19 : decode prog_1_method_20_code 19 = .ok (.getfield 192, 3) := by decide +kernel
theorem d10_lostArbitrations_22 : decode prog_1_method_20_code 22 = .ok (.goto 4, 3) := by decide +kernel
theorem d10_lostArbitrations_25 : decode prog_1_method_20_code 25 = .ok (.iconst (-1), 1) := by decide +kernel
theorem d10_lostArbitrations_26 : decode prog_1_method_20_code 26 = .ok (.ireturn, 1) := by decide +kernel
theorem d10_overloads_0 : decode prog_1_method_21_code 0 = .ok (.iload_n 1, 1) := by decide +kernel
theorem d10_overloads_1 : decode prog_1_method_21_code 1 = .ok (.invokestatic 68, 3) := by decide +kernel
theorem d10_overloads_4 : decode prog_1_method_21_code 4 = .ok (.ifCond .eq 21, 3) := by decide +kernel
theorem d10_overloads_7 : decode prog_1_method_21_code 7 = .ok (.aload_n 0, 1) := by decide +kernel
theorem d10_overloads_8 : decode prog_1_method_21_code 8 = .ok (.getfield 10, 3) := by decide +kernel
theorem d10_overloads_11 : decode prog_1_method_21_code 11 = .ok (.getfield 75, 3) := by decide +kernel
theorem d10_overloads_14 : decode prog_1_method_21_code 14 = .ok (.iload_n 1, 1) := by decide +kernel
theorem d10_overloads_15 : decode prog_1_method_21_code 15 = .ok (.aaload, 1) := by decide +kernel
theorem d10_overloads_16 : decode prog_1_method_21_code 16 = .ok (.getfield 179, 3) := by decide +kernel
theorem d10_overloads_19 : decode prog_1_method_21_code 19 = .ok (.getfield 195, 3) := by decide +kernel
theorem d10_overloads_22 : decode prog_1_method_21_code 22 = .ok (.goto 4, 3) := by decide +kernel
theorem d10_overloads_25 : decode prog_1_method_21_code 25 = .ok (.iconst (-1), 1) := by decide +kernel
theorem d10_overloads_26 : decode prog_1_method_21_code 26 = .ok (.ireturn, 1) := by decide +kernel
theorem d10_sent_0 : decode prog_1_method_22_code 0 = .ok (.iload_n 1, 1) := by decide +kernel
theorem d10_sent_1 : decode prog_1_method_22_code 1 = .ok (.invokestatic 68, 3) := by decide +kernel
theorem d10_sent_4 : decode prog_1_method_22_code 4 = .ok (.ifCond .eq 21, 3) := by decide +kernel
theorem d10_sent_7 : decode prog_1_method_22_code 7 = .ok (.aload_n 0, 1) := by decide +kernel
theorem d10_sent_8 : decode prog_1_method_22_code 8 = .ok (.getfield 10, 3) := by decide +kernel
theorem d10_sent_11 : decode prog_1_method_22_code 11 = .ok (.getfield 75, 3) := by decide +kernel
theorem d10_sent_14 : decode prog_1_method_22_code 14 = .ok (.iload_n 1, 1) := by decide +kernel
theorem d10_sent_15 : decode prog_1_method_22_code 15 = .ok (.aaload, 1) := by decide +kernel
theorem d10_sent_16 : decode prog_1_method_22_code 16 = .ok (.getfield 179, 3) := by decide +kernel
theorem d10_sent_19 : decode prog_1_method_22_code 19 = .ok (.getfield 198, 3) := by decide +kernel
theorem d10_sent_22 : decode prog_1_method_22_code 22 = .ok (.goto 4, 3) := by decide +kernel
theorem d10_sent_25 : decode prog_1_method_22_code 25 = .ok (.iconst (-1), 1) := by decide +kernel
theorem d10_sent_26 : decode prog_1_method_22_code 26 = .ok (.ireturn, 1) := by decide +kernel
theorem d10_overruns_0 : decode prog_1_method_23_code 0 = .ok (.iload_n 1, 1) := by decide +kernel
theorem d10_overruns_1 : decode prog_1_method_23_code 1 = .ok (.invokestatic 68, 3) := by decide +kernel
theorem d10_overruns_4 : decode prog_1_method_23_code 4 = .ok (.ifCond .eq 21, 3) := by decide +kernel
theorem d10_overruns_7 : decode prog_1_method_23_code 7 = .ok (.aload_n 0, 1) := by decide +kernel
theorem d10_overruns_8 : decode prog_1_method_23_code 8 = .ok (.getfield 10, 3) := by decide +kernel
theorem d10_overruns_11 : decode prog_1_method_23_code 11 = .ok (.getfield 75, 3) := by decide +kernel
theorem d10_overruns_14 : decode prog_1_method_23_code 14 = .ok (.iload_n 1, 1) := by decide +kernel
theorem d10_overruns_15 : decode prog_1_method_23_code 15 = .ok (.aaload, 1) := by decide +kernel
theorem d10_overruns_16 : decode prog_1_method_23_code 16 = .ok (.getfield 179, 3) := by decide +kernel
theorem d10_overruns_19 : decode prog_1_method_23_code 19 = .ok (.getfield 201, 3) := by decide +kernel
theorem d10_overruns_22 : decode prog_1_method_23_code 22 = .ok (.goto 4, 3) := by decide +kernel
theorem d10_overruns_25 : decode prog_1_method_23_code 25 = .ok (.iconst (-1), 1) := by decide +kernel
theorem d10_overruns_26 : decode prog_1_method_23_code 26 = .ok (.ireturn, 1) := by decide +kernel
theorem d10_waiting_0 : decode prog_1_method_24_code 0 = .ok (.iload_n 1, 1) := by decide +kernel
theorem d10_waiting_1 : decode prog_1_method_24_code 1 = .ok (.invokestatic 68, 3) := by decide +kernel
theorem d10_waiting_4 : decode prog_1_method_24_code 4 = .ok (.ifCond .eq 21, 3) := by decide +kernel
theorem d10_waiting_7 : decode prog_1_method_24_code 7 = .ok (.aload_n 0, 1) := by decide +kernel
theorem d10_waiting_8 : decode prog_1_method_24_code 8 = .ok (.getfield 10, 3) := by decide +kernel
theorem d10_waiting_11 : decode prog_1_method_24_code 11 = .ok (.getfield 75, 3) := by decide +kernel
theorem d10_waiting_14 : decode prog_1_method_24_code 14 = .ok (.iload_n 1, 1) := by decide +kernel
theorem d10_waiting_15 : decode prog_1_method_24_code 15 = .ok (.aaload, 1) := by decide +kernel
theorem d10_waiting_16 : decode prog_1_method_24_code 16 = .ok (.getfield 133, 3) := by decide +kernel
theorem d10_waiting_19 : decode prog_1_method_24_code 19 = .ok (.getfield 113, 3) := by decide +kernel
theorem d10_waiting_22 : decode prog_1_method_24_code 22 = .ok (.goto 4, 3) := by decide +kernel
theorem d10_waiting_25 : decode prog_1_method_24_code 25 = .ok (.iconst (-1), 1) := by decide +kernel
theorem d10_waiting_26 : decode prog_1_method_24_code 26 = .ok (.ireturn, 1) := by decide +kernel
theorem d10_waitingFrame_0 : decode prog_1_method_25_code 0 = .ok (.iload_n 1, 1) := by decide +kernel
theorem d10_waitingFrame_1 : decode prog_1_method_25_code 1 = .ok (.invokestatic 68, 3) := by decide +kernel
theorem d10_waitingFrame_4 : decode prog_1_method_25_code 4 = .ok (.ifCond .eq 22, 3) := by decide +kernel
theorem d10_waitingFrame_7 : decode prog_1_method_25_code 7 = .ok (.aload_n 0, 1) := by decide +kernel
theorem d10_waitingFrame_8 : decode prog_1_method_25_code 8 = .ok (.getfield 10, 3) := by decide +kernel
theorem d10_waitingFrame_11 : decode prog_1_method_25_code 11 = .ok (.getfield 75, 3) := by decide +kernel
theorem d10_waitingFrame_14 : decode prog_1_method_25_code 14 = .ok (.iload_n 1, 1) := by decide +kernel
theorem d10_waitingFrame_15 : decode prog_1_method_25_code 15 = .ok (.aaload, 1) := by decide +kernel
theorem d10_waitingFrame_16 : decode prog_1_method_25_code 16 = .ok (.getfield 133, 3) := by decide +kernel
theorem d10_waitingFrame_19 : decode prog_1_method_25_code 19 = .ok (.iload_n 2, 1) := by decide +kernel
theorem d10_waitingFrame_20 : decode prog_1_method_25_code 20 = .ok (.invokevirtual 204, 3) := by decide +kernel
theorem d10_waitingFrame_23 : decode prog_1_method_25_code 23 = .ok (.goto 4, 3) := by decide +kernel
theorem d10_waitingFrame_26 : decode prog_1_method_25_code 26 = .ok (.iconst (-1), 1) := by decide +kernel
theorem d10_waitingFrame_27 : decode prog_1_method_25_code 27 = .ok (.ireturn, 1) := by decide +kernel
theorem d10_received_0 : decode prog_1_method_26_code 0 = .ok (.iload_n 1, 1) := by decide +kernel
theorem d10_received_1 : decode prog_1_method_26_code 1 = .ok (.invokestatic 68, 3) := by decide +kernel
theorem d10_received_4 : decode prog_1_method_26_code 4 = .ok (.ifCond .eq 21, 3) := by decide +kernel
theorem d10_received_7 : decode prog_1_method_26_code 7 = .ok (.aload_n 0, 1) := by decide +kernel
theorem d10_received_8 : decode prog_1_method_26_code 8 = .ok (.getfield 10, 3) := by decide +kernel
theorem d10_received_11 : decode prog_1_method_26_code 11 = .ok (.getfield 75, 3) := by decide +kernel
theorem d10_received_14 : decode prog_1_method_26_code 14 = .ok (.iload_n 1, 1) := by decide +kernel
theorem d10_received_15 : decode prog_1_method_26_code 15 = .ok (.aaload, 1) := by decide +kernel
theorem d10_received_16 : decode prog_1_method_26_code 16 = .ok (.getfield 207, 3) := by decide +kernel
theorem d10_received_19 : decode prog_1_method_26_code 19 = .ok (.getfield 113, 3) := by decide +kernel
theorem d10_received_22 : decode prog_1_method_26_code 22 = .ok (.goto 4, 3) := by decide +kernel
theorem d10_received_25 : decode prog_1_method_26_code 25 = .ok (.iconst (-1), 1) := by decide +kernel
theorem d10_received_26 : decode prog_1_method_26_code 26 = .ok (.ireturn, 1) := by decide +kernel
theorem d10_receivedFrame_0 : decode prog_1_method_27_code 0 = .ok (.iload_n 1, 1) := by decide +kernel
theorem d10_receivedFrame_1 : decode prog_1_method_27_code 1 = .ok (.invokestatic 68, 3) := by decide +kernel
theorem d10_receivedFrame_4 : decode prog_1_method_27_code 4 = .ok (.ifCond .eq 22, 3) := by decide +kernel
theorem d10_receivedFrame_7 : decode prog_1_method_27_code 7 = .ok (.aload_n 0, 1) := by decide +kernel
theorem d10_receivedFrame_8 : decode prog_1_method_27_code 8 = .ok (.getfield 10, 3) := by decide +kernel
theorem d10_receivedFrame_11 : decode prog_1_method_27_code 11 = .ok (.getfield 75, 3) := by decide +kernel
theorem d10_receivedFrame_14 : decode prog_1_method_27_code 14 = .ok (.iload_n 1, 1) := by decide +kernel
theorem d10_receivedFrame_15 : decode prog_1_method_27_code 15 = .ok (.aaload, 1) := by decide +kernel
theorem d10_receivedFrame_16 : decode prog_1_method_27_code 16 = .ok (.getfield 207, 3) := by decide +kernel
theorem d10_receivedFrame_19 : decode prog_1_method_27_code 19 = .ok (.iload_n 2, 1) := by decide +kernel
theorem d10_receivedFrame_20 : decode prog_1_method_27_code 20 = .ok (.invokevirtual 204, 3) := by decide +kernel
theorem d10_receivedFrame_23 : decode prog_1_method_27_code 23 = .ok (.goto 4, 3) := by decide +kernel
theorem d10_receivedFrame_26 : decode prog_1_method_27_code 26 = .ok (.iconst (-1), 1) := by decide +kernel
theorem d10_receivedFrame_27 : decode prog_1_method_27_code 27 = .ok (.ireturn, 1) := by decide +kernel
theorem d10_receivedLength_0 : decode prog_1_method_28_code 0 = .ok (.iload_n 1, 1) := by decide +kernel
theorem d10_receivedLength_1 : decode prog_1_method_28_code 1 = .ok (.invokestatic 68, 3) := by decide +kernel
theorem d10_receivedLength_4 : decode prog_1_method_28_code 4 = .ok (.ifCond .eq 22, 3) := by decide +kernel
theorem d10_receivedLength_7 : decode prog_1_method_28_code 7 = .ok (.aload_n 0, 1) := by decide +kernel
theorem d10_receivedLength_8 : decode prog_1_method_28_code 8 = .ok (.getfield 10, 3) := by decide +kernel
theorem d10_receivedLength_11 : decode prog_1_method_28_code 11 = .ok (.getfield 75, 3) := by decide +kernel
theorem d10_receivedLength_14 : decode prog_1_method_28_code 14 = .ok (.iload_n 1, 1) := by decide +kernel
theorem d10_receivedLength_15 : decode prog_1_method_28_code 15 = .ok (.aaload, 1) := by decide +kernel
theorem d10_receivedLength_16 : decode prog_1_method_28_code 16 = .ok (.getfield 207, 3) := by decide +kernel
theorem d10_receivedLength_19 : decode prog_1_method_28_code 19 = .ok (.iload_n 2, 1) := by decide +kernel
theorem d10_receivedLength_20 : decode prog_1_method_28_code 20 = .ok (.invokevirtual 210, 3) := by decide +kernel
theorem d10_receivedLength_23 : decode prog_1_method_28_code 23 = .ok (.goto 4, 3) := by decide +kernel
theorem d10_receivedLength_26 : decode prog_1_method_28_code 26 = .ok (.iconst (-1), 1) := by decide +kernel
theorem d10_receivedLength_27 : decode prog_1_method_28_code 27 = .ok (.ireturn, 1) := by decide +kernel
theorem d10_receivedData_0 : decode prog_1_method_29_code 0 = .ok (.iload_n 1, 1) := by decide +kernel
theorem d10_receivedData_1 : decode prog_1_method_29_code 1 = .ok (.invokestatic 68, 3) := by decide +kernel
theorem d10_receivedData_4 : decode prog_1_method_29_code 4 = .ok (.ifCond .eq 22, 3) := by decide +kernel
theorem d10_receivedData_7 : decode prog_1_method_29_code 7 = .ok (.aload_n 0, 1) := by decide +kernel
theorem d10_receivedData_8 : decode prog_1_method_29_code 8 = .ok (.getfield 10, 3) := by decide +kernel
theorem d10_receivedData_11 : decode prog_1_method_29_code 11 = .ok (.getfield 75, 3) := by decide +kernel
theorem d10_receivedData_14 : decode prog_1_method_29_code 14 = .ok (.iload_n 1, 1) := by decide +kernel
theorem d10_receivedData_15 : decode prog_1_method_29_code 15 = .ok (.aaload, 1) := by decide +kernel
theorem d10_receivedData_16 : decode prog_1_method_29_code 16 = .ok (.getfield 207, 3) := by decide +kernel
theorem d10_receivedData_19 : decode prog_1_method_29_code 19 = .ok (.iload_n 2, 1) := by decide +kernel
theorem d10_receivedData_20 : decode prog_1_method_29_code 20 = .ok (.invokevirtual 213, 3) := by decide +kernel
theorem d10_receivedData_23 : decode prog_1_method_29_code 23 = .ok (.goto 4, 3) := by decide +kernel
theorem d10_receivedData_26 : decode prog_1_method_29_code 26 = .ok (.iconst 0, 1) := by decide +kernel
theorem d10_receivedData_27 : decode prog_1_method_29_code 27 = .ok (.ireturn, 1) := by decide +kernel
theorem d10_discard_0 : decode prog_1_method_30_code 0 = .ok (.iload_n 1, 1) := by decide +kernel
theorem d10_discard_1 : decode prog_1_method_30_code 1 = .ok (.invokestatic 68, 3) := by decide +kernel
theorem d10_discard_4 : decode prog_1_method_30_code 4 = .ok (.ifCond .ne 5, 3) := by decide +kernel
theorem d10_discard_7 : decode prog_1_method_30_code 7 = .ok (.iconst (-1), 1) := by decide +kernel
theorem d10_discard_8 : decode prog_1_method_30_code 8 = .ok (.ireturn, 1) := by decide +kernel
theorem d10_discard_9 : decode prog_1_method_30_code 9 = .ok (.aload_n 0, 1) := by decide +kernel
theorem d10_discard_10 : decode prog_1_method_30_code 10 = .ok (.getfield 10, 3) := by decide +kernel
theorem d10_discard_13 : decode prog_1_method_30_code 13 = .ok (.getfield 75, 3) := by decide +kernel
theorem d10_discard_16 : decode prog_1_method_30_code 16 = .ok (.iload_n 1, 1) := by decide +kernel
theorem d10_discard_17 : decode prog_1_method_30_code 17 = .ok (.aaload, 1) := by decide +kernel
theorem d10_discard_18 : decode prog_1_method_30_code 18 = .ok (.getfield 207, 3) := by decide +kernel
theorem d10_discard_21 : decode prog_1_method_30_code 21 = .ok (.astore_n 2, 1) := by decide +kernel
theorem d10_discard_22 : decode prog_1_method_30_code 22 = .ok (.aload_n 2, 1) := by decide +kernel
theorem d10_discard_23 : decode prog_1_method_30_code 23 = .ok (.getfield 113, 3) := by decide +kernel
theorem d10_discard_26 : decode prog_1_method_30_code 26 = .ok (.ifCond .ne 6, 3) := by decide +kernel
theorem d10_discard_29 : decode prog_1_method_30_code 29 = .ok (.bipush (-5), 2) := by decide +kernel
theorem d10_discard_31 : decode prog_1_method_30_code 31 = .ok (.ireturn, 1) := by decide +kernel
theorem d10_discard_32 : decode prog_1_method_30_code 32 = .ok (.aload_n 2, 1) := by decide +kernel
theorem d10_discard_33 : decode prog_1_method_30_code 33 = .ok (.iconst 0, 1) := by decide +kernel
theorem d10_discard_34 : decode prog_1_method_30_code 34 = .ok (.invokevirtual 109, 3) := by decide +kernel
theorem d10_discard_37 : decode prog_1_method_30_code 37 = .ok (.aload_n 2, 1) := by decide +kernel
theorem d10_discard_38 : decode prog_1_method_30_code 38 = .ok (.getfield 113, 3) := by decide +kernel
theorem d10_discard_41 : decode prog_1_method_30_code 41 = .ok (.ireturn, 1) := by decide +kernel
theorem d10_time_0 : decode prog_1_method_31_code 0 = .ok (.aload_n 0, 1) := by decide +kernel
theorem d10_time_1 : decode prog_1_method_31_code 1 = .ok (.getfield 10, 3) := by decide +kernel
theorem d10_time_4 : decode prog_1_method_31_code 4 = .ok (.getfield 143, 3) := by decide +kernel
theorem d10_time_7 : decode prog_1_method_31_code 7 = .ok (.ireturn, 1) := by decide +kernel
theorem d10_level_0 : decode prog_1_method_32_code 0 = .ok (.iload_n 1, 1) := by decide +kernel
theorem d10_level_1 : decode prog_1_method_32_code 1 = .ok (.iconst 1, 1) := by decide +kernel
theorem d10_level_2 : decode prog_1_method_32_code 2 = .ok (.sipush 256, 3) := by decide +kernel
theorem d10_level_5 : decode prog_1_method_32_code 5 = .ok (.invokestatic 48, 3) := by decide +kernel
theorem d10_level_8 : decode prog_1_method_32_code 8 = .ok (.ifCond .ne 6, 3) := by decide +kernel
theorem d10_level_11 : decode prog_1_method_32_code 11 = .ok (.bipush (-2), 2) := by decide +kernel
theorem d10_level_13 : decode prog_1_method_32_code 13 = .ok (.ireturn, 1) := by decide +kernel
theorem d10_level_14 : decode prog_1_method_32_code 14 = .ok (.aload_n 0, 1) := by decide +kernel
theorem d10_level_15 : decode prog_1_method_32_code 15 = .ok (.getfield 10, 3) := by decide +kernel
theorem d10_level_18 : decode prog_1_method_32_code 18 = .ok (.iload_n 1, 1) := by decide +kernel
theorem d10_level_19 : decode prog_1_method_32_code 19 = .ok (.invokevirtual 216, 3) := by decide +kernel
theorem d10_level_22 : decode prog_1_method_32_code 22 = .ok (.ireturn, 1) := by decide +kernel
theorem d10_winner_0 : decode prog_1_method_33_code 0 = .ok (.aload_n 0, 1) := by decide +kernel
theorem d10_winner_1 : decode prog_1_method_33_code 1 = .ok (.getfield 10, 3) := by decide +kernel
theorem d10_winner_4 : decode prog_1_method_33_code 4 = .ok (.invokevirtual 219, 3) := by decide +kernel
theorem d10_winner_7 : decode prog_1_method_33_code 7 = .ok (.ireturn, 1) := by decide +kernel
theorem d10_bitsUntilSent_0 : decode prog_1_method_34_code 0 = .ok (.iload_n 1, 1) := by decide +kernel
theorem d10_bitsUntilSent_1 : decode prog_1_method_34_code 1 = .ok (.invokestatic 68, 3) := by decide +kernel
theorem d10_bitsUntilSent_4 : decode prog_1_method_34_code 4 = .ok (.ifCond .ne 5, 3) := by decide +kernel
theorem d10_bitsUntilSent_7 : decode prog_1_method_34_code 7 = .ok (.iconst (-1), 1) := by decide +kernel
theorem d10_bitsUntilSent_8 : decode prog_1_method_34_code 8 = .ok (.ireturn, 1) := by decide +kernel
theorem d10_bitsUntilSent_9 : decode prog_1_method_34_code 9 = .ok (.aload_n 0, 1) := by decide +kernel
theorem d10_bitsUntilSent_10 : decode prog_1_method_34_code 10 = .ok (.getfield 16, 3) := by decide +kernel
theorem d10_bitsUntilSent_13 : decode prog_1_method_34_code 13 = .ok (.aload_n 0, 1) := by decide +kernel
theorem d10_bitsUntilSent_14 : decode prog_1_method_34_code 14 = .ok (.getfield 10, 3) := by decide +kernel
theorem d10_bitsUntilSent_17 : decode prog_1_method_34_code 17 = .ok (.invokevirtual 222, 3) := by decide +kernel
theorem d10_bitsUntilSent_20 : decode prog_1_method_34_code 20 = .ok (.aload_n 0, 1) := by decide +kernel
theorem d10_bitsUntilSent_21 : decode prog_1_method_34_code 21 = .ok (.getfield 16, 3) := by decide +kernel
theorem d10_bitsUntilSent_24 : decode prog_1_method_34_code 24 = .ok (.getfield 75, 3) := by decide +kernel
theorem d10_bitsUntilSent_27 : decode prog_1_method_34_code 27 = .ok (.iload_n 1, 1) := by decide +kernel
theorem d10_bitsUntilSent_28 : decode prog_1_method_34_code 28 = .ok (.aaload, 1) := by decide +kernel
theorem d10_bitsUntilSent_29 : decode prog_1_method_34_code 29 = .ok (.getfield 179, 3) := by decide +kernel
theorem d10_bitsUntilSent_32 : decode prog_1_method_34_code 32 = .ok (.astore_n 2, 1) := by decide +kernel
theorem d10_bitsUntilSent_33 : decode prog_1_method_34_code 33 = .ok (.aload_n 2, 1) := by decide +kernel
theorem d10_bitsUntilSent_34 : decode prog_1_method_34_code 34 = .ok (.getfield 198, 3) := by decide +kernel
theorem d10_bitsUntilSent_37 : decode prog_1_method_34_code 37 = .ok (.istore_n 3, 1) := by decide +kernel
theorem d10_bitsUntilSent_38 : decode prog_1_method_34_code 38 = .ok (.iconst 1, 1) := by decide +kernel
theorem d10_bitsUntilSent_39 : decode prog_1_method_34_code 39 = .ok (.istore 4, 2) := by decide +kernel
theorem d10_bitsUntilSent_41 : decode prog_1_method_34_code 41 = .ok (.iload 4, 2) := by decide +kernel
theorem d10_bitsUntilSent_43 : decode prog_1_method_34_code 43 = .ok (.sipush 1000, 3) := by decide +kernel
theorem d10_bitsUntilSent_46 : decode prog_1_method_34_code 46 = .ok (.if_icmp .gt 27, 3) := by decide +kernel
theorem d10_bitsUntilSent_49 : decode prog_1_method_34_code 49 = .ok (.aload_n 0, 1) := by decide +kernel
theorem d10_bitsUntilSent_50 : decode prog_1_method_34_code 50 = .ok (.getfield 16, 3) := by decide +kernel
theorem d10_bitsUntilSent_53 : decode prog_1_method_34_code 53 = .ok (.invokevirtual 156, 3) := by decide +kernel
theorem d10_bitsUntilSent_56 : decode prog_1_method_34_code 56 = .ok (.aload_n 2, 1) := by decide +kernel
theorem d10_bitsUntilSent_57 : decode prog_1_method_34_code 57 = .ok (.getfield 198, 3) := by decide +kernel
theorem d10_bitsUntilSent_60 : decode prog_1_method_34_code 60 = .ok (.iload_n 3, 1) := by decide +kernel
theorem d10_bitsUntilSent_61 : decode prog_1_method_34_code 61 = .ok (.if_icmp .eq 6, 3) := by decide +kernel
theorem d10_bitsUntilSent_64 : decode prog_1_method_34_code 64 = .ok (.iload 4, 2) := by decide +kernel
theorem d10_bitsUntilSent_66 : decode prog_1_method_34_code 66 = .ok (.ireturn, 1) := by decide +kernel
theorem d10_bitsUntilSent_67 : decode prog_1_method_34_code 67 = .ok (.iinc 4 1, 3) := by decide +kernel
theorem d10_bitsUntilSent_70 : decode prog_1_method_34_code 70 = .ok (.goto (-29), 3) := by decide +kernel
theorem d10_bitsUntilSent_73 : decode prog_1_method_34_code 73 = .ok (.bipush (-5), 2) := by decide +kernel
theorem d10_bitsUntilSent_75 : decode prog_1_method_34_code 75 = .ok (.ireturn, 1) := by decide +kernel
theorem d10_crc_0 : decode prog_1_method_35_code 0 = .ok (.iload_n 1, 1) := by decide +kernel
theorem d10_crc_1 : decode prog_1_method_35_code 1 = .ok (.iload_n 2, 1) := by decide +kernel
theorem d10_crc_2 : decode prog_1_method_35_code 2 = .ok (.iload_n 3, 1) := by decide +kernel
theorem d10_crc_3 : decode prog_1_method_35_code 3 = .ok (.iload 4, 2) := by decide +kernel
theorem d10_crc_5 : decode prog_1_method_35_code 5 = .ok (.invokestatic 87, 3) := by decide +kernel
theorem d10_crc_8 : decode prog_1_method_35_code 8 = .ok (.ifCond .ne 6, 3) := by decide +kernel
theorem d10_crc_11 : decode prog_1_method_35_code 11 = .ok (.bipush (-2), 2) := by decide +kernel
theorem d10_crc_13 : decode prog_1_method_35_code 13 = .ok (.ireturn, 1) := by decide +kernel
theorem d10_crc_14 : decode prog_1_method_35_code 14 = .ok (.aload_n 0, 1) := by decide +kernel
theorem d10_crc_15 : decode prog_1_method_35_code 15 = .ok (.iload_n 1, 1) := by decide +kernel
theorem d10_crc_16 : decode prog_1_method_35_code 16 = .ok (.iload_n 2, 1) := by decide +kernel
theorem d10_crc_17 : decode prog_1_method_35_code 17 = .ok (.invokestatic 95, 3) := by decide +kernel
theorem d10_crc_20 : decode prog_1_method_35_code 20 = .ok (.iload_n 3, 1) := by decide +kernel
theorem d10_crc_21 : decode prog_1_method_35_code 21 = .ok (.iload 4, 2) := by decide +kernel
theorem d10_crc_23 : decode prog_1_method_35_code 23 = .ok (.bipush 82, 2) := by decide +kernel
theorem d10_crc_25 : decode prog_1_method_35_code 25 = .ok (.invokevirtual 226, 3) := by decide +kernel
theorem d10_crc_28 : decode prog_1_method_35_code 28 = .ok (.pop, 1) := by decide +kernel
theorem d10_crc_29 : decode prog_1_method_35_code 29 = .ok (.aload_n 0, 1) := by decide +kernel
theorem d10_crc_30 : decode prog_1_method_35_code 30 = .ok (.getfield 30, 3) := by decide +kernel
theorem d10_crc_33 : decode prog_1_method_35_code 33 = .ok (.getfield 230, 3) := by decide +kernel
theorem d10_crc_36 : decode prog_1_method_35_code 36 = .ok (.ireturn, 1) := by decide +kernel
theorem d10_frameBits_0 : decode prog_1_method_36_code 0 = .ok (.iload_n 1, 1) := by decide +kernel
theorem d10_frameBits_1 : decode prog_1_method_36_code 1 = .ok (.iload_n 2, 1) := by decide +kernel
theorem d10_frameBits_2 : decode prog_1_method_36_code 2 = .ok (.iload_n 3, 1) := by decide +kernel
theorem d10_frameBits_3 : decode prog_1_method_36_code 3 = .ok (.iload 4, 2) := by decide +kernel
theorem d10_frameBits_5 : decode prog_1_method_36_code 5 = .ok (.invokestatic 87, 3) := by decide +kernel
theorem d10_frameBits_8 : decode prog_1_method_36_code 8 = .ok (.ifCond .ne 6, 3) := by decide +kernel
theorem d10_frameBits_11 : decode prog_1_method_36_code 11 = .ok (.bipush (-2), 2) := by decide +kernel
theorem d10_frameBits_13 : decode prog_1_method_36_code 13 = .ok (.ireturn, 1) := by decide +kernel
theorem d10_frameBits_14 : decode prog_1_method_36_code 14 = .ok (.aload_n 0, 1) := by decide +kernel
theorem d10_frameBits_15 : decode prog_1_method_36_code 15 = .ok (.iload_n 1, 1) := by decide +kernel
theorem d10_frameBits_16 : decode prog_1_method_36_code 16 = .ok (.iload_n 2, 1) := by decide +kernel
theorem d10_frameBits_17 : decode prog_1_method_36_code 17 = .ok (.invokestatic 95, 3) := by decide +kernel
theorem d10_frameBits_20 : decode prog_1_method_36_code 20 = .ok (.iload_n 3, 1) := by decide +kernel
theorem d10_frameBits_21 : decode prog_1_method_36_code 21 = .ok (.iload 4, 2) := by decide +kernel
theorem d10_frameBits_23 : decode prog_1_method_36_code 23 = .ok (.bipush 82, 2) := by decide +kernel
theorem d10_frameBits_25 : decode prog_1_method_36_code 25 = .ok (.invokevirtual 226, 3) := by decide +kernel
theorem d10_frameBits_28 : decode prog_1_method_36_code 28 = .ok (.bipush 10, 2) := by decide +kernel
theorem d10_frameBits_30 : decode prog_1_method_36_code 30 = .ok (.iadd, 1) := by decide +kernel
theorem d10_frameBits_31 : decode prog_1_method_36_code 31 = .ok (.ireturn, 1) := by decide +kernel
theorem d10_frameBit_0 : decode prog_1_method_37_code 0 = .ok (.iload_n 1, 1) := by decide +kernel
theorem d10_frameBit_1 : decode prog_1_method_37_code 1 = .ok (.iload_n 2, 1) := by decide +kernel
theorem d10_frameBit_2 : decode prog_1_method_37_code 2 = .ok (.iload_n 3, 1) := by decide +kernel
theorem d10_frameBit_3 : decode prog_1_method_37_code 3 = .ok (.iload 4, 2) := by decide +kernel
theorem d10_frameBit_5 : decode prog_1_method_37_code 5 = .ok (.invokestatic 87, 3) := by decide +kernel
theorem d10_frameBit_8 : decode prog_1_method_37_code 8 = .ok (.ifCond .ne 6, 3) := by decide +kernel
theorem d10_frameBit_11 : decode prog_1_method_37_code 11 = .ok (.bipush (-2), 2) := by decide +kernel
theorem d10_frameBit_13 : decode prog_1_method_37_code 13 = .ok (.ireturn, 1) := by decide +kernel
theorem d10_frameBit_14 : decode prog_1_method_37_code 14 = .ok (.iload 5, 2) := by decide +kernel
theorem d10_frameBit_16 : decode prog_1_method_37_code 16 = .ok (.ifCond .lt 10, 3) := by decide +kernel
theorem d10_frameBit_19 : decode prog_1_method_37_code 19 = .ok (.iload 5, 2) := by decide +kernel
theorem d10_frameBit_21 : decode prog_1_method_37_code 21 = .ok (.bipush 92, 2) := by decide +kernel
theorem d10_frameBit_23 : decode prog_1_method_37_code 23 = .ok (.if_icmp .lt 6, 3) := by decide +kernel
theorem d10_frameBit_26 : decode prog_1_method_37_code 26 = .ok (.bipush (-5), 2) := by decide +kernel
theorem d10_frameBit_28 : decode prog_1_method_37_code 28 = .ok (.ireturn, 1) := by decide +kernel
theorem d10_frameBit_29 : decode prog_1_method_37_code 29 = .ok (.aload_n 0, 1) := by decide +kernel
theorem d10_frameBit_30 : decode prog_1_method_37_code 30 = .ok (.iload_n 1, 1) := by decide +kernel
theorem d10_frameBit_31 : decode prog_1_method_37_code 31 = .ok (.iload_n 2, 1) := by decide +kernel
theorem d10_frameBit_32 : decode prog_1_method_37_code 32 = .ok (.invokestatic 95, 3) := by decide +kernel
theorem d10_frameBit_35 : decode prog_1_method_37_code 35 = .ok (.iload_n 3, 1) := by decide +kernel
theorem d10_frameBit_36 : decode prog_1_method_37_code 36 = .ok (.iload 4, 2) := by decide +kernel
theorem d10_frameBit_38 : decode prog_1_method_37_code 38 = .ok (.iload 5, 2) := by decide +kernel
theorem d10_frameBit_40 : decode prog_1_method_37_code 40 = .ok (.iconst 1, 1) := by decide +kernel
theorem d10_frameBit_41 : decode prog_1_method_37_code 41 = .ok (.iadd, 1) := by decide +kernel
theorem d10_frameBit_42 : decode prog_1_method_37_code 42 = .ok (.invokevirtual 226, 3) := by decide +kernel
theorem d10_frameBit_45 : decode prog_1_method_37_code 45 = .ok (.istore 6, 2) := by decide +kernel
theorem d10_frameBit_47 : decode prog_1_method_37_code 47 = .ok (.iload 6, 2) := by decide +kernel
theorem d10_frameBit_49 : decode prog_1_method_37_code 49 = .ok (.iload 5, 2) := by decide +kernel
theorem d10_frameBit_51 : decode prog_1_method_37_code 51 = .ok (.if_icmp .le 11, 3) := by decide +kernel
theorem d10_frameBit_54 : decode prog_1_method_37_code 54 = .ok (.aload_n 0, 1) := by decide +kernel
theorem d10_frameBit_55 : decode prog_1_method_37_code 55 = .ok (.getfield 30, 3) := by decide +kernel
theorem d10_frameBit_58 : decode prog_1_method_37_code 58 = .ok (.getfield 233, 3) := by decide +kernel
theorem d10_frameBit_61 : decode prog_1_method_37_code 61 = .ok (.ireturn, 1) := by decide +kernel
theorem d10_frameBit_62 : decode prog_1_method_37_code 62 = .ok (.iload 5, 2) := by decide +kernel
theorem d10_frameBit_64 : decode prog_1_method_37_code 64 = .ok (.iload 6, 2) := by decide +kernel
theorem d10_frameBit_66 : decode prog_1_method_37_code 66 = .ok (.bipush 10, 2) := by decide +kernel
theorem d10_frameBit_68 : decode prog_1_method_37_code 68 = .ok (.iadd, 1) := by decide +kernel
theorem d10_frameBit_69 : decode prog_1_method_37_code 69 = .ok (.if_icmp .ge 7, 3) := by decide +kernel
theorem d10_frameBit_72 : decode prog_1_method_37_code 72 = .ok (.iconst 1, 1) := by decide +kernel
theorem d10_frameBit_73 : decode prog_1_method_37_code 73 = .ok (.goto 5, 3) := by decide +kernel
theorem d10_frameBit_76 : decode prog_1_method_37_code 76 = .ok (.bipush (-5), 2) := by decide +kernel
theorem d10_frameBit_78 : decode prog_1_method_37_code 78 = .ok (.ireturn, 1) := by decide +kernel
theorem d10_worstBits_0 : decode prog_1_method_38_code 0 = .ok (.iload_n 1, 1) := by decide +kernel
theorem d10_worstBits_1 : decode prog_1_method_38_code 1 = .ok (.invokestatic 236, 3) := by decide +kernel
theorem d10_worstBits_4 : decode prog_1_method_38_code 4 = .ok (.ifCond .eq 10, 3) := by decide +kernel
theorem d10_worstBits_7 : decode prog_1_method_38_code 7 = .ok (.iload_n 1, 1) := by decide +kernel
theorem d10_worstBits_8 : decode prog_1_method_38_code 8 = .ok (.invokestatic 239, 3) := by decide +kernel
theorem d10_worstBits_11 : decode prog_1_method_38_code 11 = .ok (.goto 5, 3) := by decide +kernel
theorem d10_worstBits_14 : decode prog_1_method_38_code 14 = .ok (.bipush (-2), 2) := by decide +kernel
theorem d10_worstBits_16 : decode prog_1_method_38_code 16 = .ok (.ireturn, 1) := by decide +kernel
theorem d10_addMessage_0 : decode prog_1_method_39_code 0 = .ok (.iload_n 1, 1) := by decide +kernel
theorem d10_addMessage_1 : decode prog_1_method_39_code 1 = .ok (.invokestatic 72, 3) := by decide +kernel
theorem d10_addMessage_4 : decode prog_1_method_39_code 4 = .ok (.ifCond .eq 33, 3) := by decide +kernel
theorem d10_addMessage_7 : decode prog_1_method_39_code 7 = .ok (.iload_n 2, 1) := by decide +kernel
theorem d10_addMessage_8 : decode prog_1_method_39_code 8 = .ok (.invokestatic 236, 3) := by decide +kernel
theorem d10_addMessage_11 : decode prog_1_method_39_code 11 = .ok (.ifCond .eq 26, 3) := by decide +kernel
theorem d10_addMessage_14 : decode prog_1_method_39_code 14 = .ok (.iload_n 3, 1) := by decide +kernel
theorem d10_addMessage_15 : decode prog_1_method_39_code 15 = .ok (.iconst 1, 1) := by decide +kernel
theorem d10_addMessage_16 : decode prog_1_method_39_code 16 = .ok (.sipush 5000, 3) := by decide +kernel
theorem d10_addMessage_19 : decode prog_1_method_39_code 19 = .ok (.invokestatic 48, 3) := by decide +kernel
theorem d10_addMessage_22 : decode prog_1_method_39_code 22 = .ok (.ifCond .eq 15, 3) := by decide +kernel
theorem d10_addMessage_25 : decode prog_1_method_39_code 25 = .ok (.iload 4, 2) := by decide +kernel
theorem d10_addMessage_27 : decode prog_1_method_39_code 27 = .ok (.iconst 0, 1) := by decide +kernel
theorem d10_addMessage_28 : decode prog_1_method_39_code 28 = .ok (.sipush 500, 3) := by decide +kernel
theorem d10_addMessage_31 : decode prog_1_method_39_code 31 = .ok (.invokestatic 48, 3) := by decide +kernel
theorem d10_addMessage_34 : decode prog_1_method_39_code 34 = .ok (.ifCond .ne 6, 3) := by decide +kernel
theorem d10_addMessage_37 : decode prog_1_method_39_code 37 = .ok (.bipush (-2), 2) := by decide +kernel
theorem d10_addMessage_39 : decode prog_1_method_39_code 39 = .ok (.ireturn, 1) := by decide +kernel
theorem d10_addMessage_40 : decode prog_1_method_39_code 40 = .ok (.aload_n 0, 1) := by decide +kernel
theorem d10_addMessage_41 : decode prog_1_method_39_code 41 = .ok (.getfield 37, 3) := by decide +kernel
theorem d10_addMessage_44 : decode prog_1_method_39_code 44 = .ok (.iload_n 1, 1) := by decide +kernel
theorem d10_addMessage_45 : decode prog_1_method_39_code 45 = .ok (.iload_n 2, 1) := by decide +kernel
theorem d10_addMessage_46 : decode prog_1_method_39_code 46 = .ok (.iload_n 3, 1) := by decide +kernel
theorem d10_addMessage_47 : decode prog_1_method_39_code 47 = .ok (.iload 4, 2) := by decide +kernel
theorem d10_addMessage_49 : decode prog_1_method_39_code 49 = .ok (.invokevirtual 242, 3) := by decide +kernel
theorem d10_addMessage_52 : decode prog_1_method_39_code 52 = .ok (.ifCond .ne 6, 3) := by decide +kernel
theorem d10_addMessage_55 : decode prog_1_method_39_code 55 = .ok (.bipush (-3), 2) := by decide +kernel
theorem d10_addMessage_57 : decode prog_1_method_39_code 57 = .ok (.ireturn, 1) := by decide +kernel
theorem d10_addMessage_58 : decode prog_1_method_39_code 58 = .ok (.aload_n 0, 1) := by decide +kernel
theorem d10_addMessage_59 : decode prog_1_method_39_code 59 = .ok (.getfield 37, 3) := by decide +kernel
theorem d10_addMessage_62 : decode prog_1_method_39_code 62 = .ok (.getfield 246, 3) := by decide +kernel
theorem d10_addMessage_65 : decode prog_1_method_39_code 65 = .ok (.ireturn, 1) := by decide +kernel
theorem d10_removeMessage_0 : decode prog_1_method_40_code 0 = .ok (.aload_n 0, 1) := by decide +kernel
theorem d10_removeMessage_1 : decode prog_1_method_40_code 1 = .ok (.getfield 37, 3) := by decide +kernel
theorem d10_removeMessage_4 : decode prog_1_method_40_code 4 = .ok (.iload_n 1, 1) := by decide +kernel
theorem d10_removeMessage_5 : decode prog_1_method_40_code 5 = .ok (.invokevirtual 247, 3) := by decide +kernel
theorem d10_removeMessage_8 : decode prog_1_method_40_code 8 = .ok (.istore_n 2, 1) := by decide +kernel
theorem d10_removeMessage_9 : decode prog_1_method_40_code 9 = .ok (.iload_n 2, 1) := by decide +kernel
theorem d10_removeMessage_10 : decode prog_1_method_40_code 10 = .ok (.ifCond .ge 6, 3) := by decide +kernel
theorem d10_removeMessage_13 : decode prog_1_method_40_code 13 = .ok (.bipush (-5), 2) := by decide +kernel
theorem d10_removeMessage_15 : decode prog_1_method_40_code 15 = .ok (.ireturn, 1) := by decide +kernel
theorem d10_removeMessage_16 : decode prog_1_method_40_code 16 = .ok (.aload_n 0, 1) := by decide +kernel
theorem d10_removeMessage_17 : decode prog_1_method_40_code 17 = .ok (.getfield 37, 3) := by decide +kernel
theorem d10_removeMessage_20 : decode prog_1_method_40_code 20 = .ok (.iload_n 2, 1) := by decide +kernel
theorem d10_removeMessage_21 : decode prog_1_method_40_code 21 = .ok (.invokevirtual 248, 3) := by decide +kernel
theorem d10_removeMessage_24 : decode prog_1_method_40_code 24 = .ok (.aload_n 0, 1) := by decide +kernel
theorem d10_removeMessage_25 : decode prog_1_method_40_code 25 = .ok (.getfield 37, 3) := by decide +kernel
theorem d10_removeMessage_28 : decode prog_1_method_40_code 28 = .ok (.getfield 246, 3) := by decide +kernel
theorem d10_removeMessage_31 : decode prog_1_method_40_code 31 = .ok (.ireturn, 1) := by decide +kernel
theorem d10_responseTime_0 : decode prog_1_method_41_code 0 = .ok (.aload_n 0, 1) := by decide +kernel
theorem d10_responseTime_1 : decode prog_1_method_41_code 1 = .ok (.getfield 37, 3) := by decide +kernel
theorem d10_responseTime_4 : decode prog_1_method_41_code 4 = .ok (.iload_n 1, 1) := by decide +kernel
theorem d10_responseTime_5 : decode prog_1_method_41_code 5 = .ok (.invokevirtual 247, 3) := by decide +kernel
theorem d10_responseTime_8 : decode prog_1_method_41_code 8 = .ok (.istore_n 2, 1) := by decide +kernel
theorem d10_responseTime_9 : decode prog_1_method_41_code 9 = .ok (.iload_n 2, 1) := by decide +kernel
theorem d10_responseTime_10 : decode prog_1_method_41_code 10 = .ok (.ifCond .ge 8, 3) := by decide +kernel
theorem d10_responseTime_13 : decode prog_1_method_41_code 13 = .ok (.bipush (-2), 2) := by decide +kernel
theorem d10_responseTime_15 : decode prog_1_method_41_code 15 = .ok (.goto 11, 3) := by decide +kernel
theorem d10_responseTime_18 : decode prog_1_method_41_code 18 = .ok (.aload_n 0, 1) := by decide +kernel
theorem d10_responseTime_19 : decode prog_1_method_41_code 19 = .ok (.getfield 37, 3) := by decide +kernel
theorem d10_responseTime_22 : decode prog_1_method_41_code 22 = .ok (.iload_n 2, 1) := by decide +kernel
theorem d10_responseTime_23 : decode prog_1_method_41_code 23 = .ok (.invokevirtual 249, 3) := by decide +kernel
theorem d10_responseTime_26 : decode prog_1_method_41_code 26 = .ok (.ireturn, 1) := by decide +kernel
theorem d10_misses_0 : decode prog_1_method_42_code 0 = .ok (.iconst 0, 1) := by decide +kernel
theorem d10_misses_1 : decode prog_1_method_42_code 1 = .ok (.istore_n 1, 1) := by decide +kernel
theorem d10_misses_2 : decode prog_1_method_42_code 2 = .ok (.iconst 0, 1) := by decide +kernel
theorem d10_misses_3 : decode prog_1_method_42_code 3 = .ok (.istore_n 2, 1) := by decide +kernel
theorem d10_misses_4 : decode prog_1_method_42_code 4 = .ok (.iload_n 2, 1) := by decide +kernel
theorem d10_misses_5 : decode prog_1_method_42_code 5 = .ok (.aload_n 0, 1) := by decide +kernel
theorem d10_misses_6 : decode prog_1_method_42_code 6 = .ok (.getfield 37, 3) := by decide +kernel
theorem d10_misses_9 : decode prog_1_method_42_code 9 = .ok (.getfield 246, 3) := by decide +kernel
theorem d10_misses_12 : decode prog_1_method_42_code 12 = .ok (.if_icmp .ge 25, 3) := by decide +kernel
theorem d10_misses_15 : decode prog_1_method_42_code 15 = .ok (.aload_n 0, 1) := by decide +kernel
theorem d10_misses_16 : decode prog_1_method_42_code 16 = .ok (.getfield 37, 3) := by decide +kernel
theorem d10_misses_19 : decode prog_1_method_42_code 19 = .ok (.iload_n 2, 1) := by decide +kernel
theorem d10_misses_20 : decode prog_1_method_42_code 20 = .ok (.invokevirtual 249, 3) := by decide +kernel
theorem d10_misses_23 : decode prog_1_method_42_code 23 = .ok (.bipush (-5), 2) := by decide +kernel
theorem d10_misses_25 : decode prog_1_method_42_code 25 = .ok (.if_icmp .ne 6, 3) := by decide +kernel
theorem d10_misses_28 : decode prog_1_method_42_code 28 = .ok (.iinc 1 1, 3) := by decide +kernel
theorem d10_misses_31 : decode prog_1_method_42_code 31 = .ok (.iinc 2 1, 3) := by decide +kernel
theorem d10_misses_34 : decode prog_1_method_42_code 34 = .ok (.goto (-30), 3) := by decide +kernel
theorem d10_misses_37 : decode prog_1_method_42_code 37 = .ok (.iload_n 1, 1) := by decide +kernel
theorem d10_misses_38 : decode prog_1_method_42_code 38 = .ok (.ireturn, 1) := by decide +kernel
theorem d10_append_0 : decode prog_1_method_43_code 0 = .ok (.iload_n 1, 1) := by decide +kernel
theorem d10_append_1 : decode prog_1_method_43_code 1 = .ok (.iconst 0, 1) := by decide +kernel
theorem d10_append_2 : decode prog_1_method_43_code 2 = .ok (.bipush 127, 2) := by decide +kernel
theorem d10_append_4 : decode prog_1_method_43_code 4 = .ok (.invokestatic 48, 3) := by decide +kernel
theorem d10_append_7 : decode prog_1_method_43_code 7 = .ok (.ifCond .ne 6, 3) := by decide +kernel
theorem d10_append_10 : decode prog_1_method_43_code 10 = .ok (.bipush (-2), 2) := by decide +kernel
theorem d10_append_12 : decode prog_1_method_43_code 12 = .ok (.ireturn, 1) := by decide +kernel
theorem d10_append_13 : decode prog_1_method_43_code 13 = .ok (.aload_n 0, 1) := by decide +kernel
theorem d10_append_14 : decode prog_1_method_43_code 14 = .ok (.getfield 44, 3) := by decide +kernel
theorem d10_append_17 : decode prog_1_method_43_code 17 = .ok (.iload_n 1, 1) := by decide +kernel
theorem d10_append_18 : decode prog_1_method_43_code 18 = .ok (.invokevirtual 252, 3) := by decide +kernel
theorem d10_append_21 : decode prog_1_method_43_code 21 = .ok (.ifCond .ne 6, 3) := by decide +kernel
theorem d10_append_24 : decode prog_1_method_43_code 24 = .ok (.bipush (-3), 2) := by decide +kernel
theorem d10_append_26 : decode prog_1_method_43_code 26 = .ok (.ireturn, 1) := by decide +kernel
theorem d10_append_27 : decode prog_1_method_43_code 27 = .ok (.aload_n 0, 1) := by decide +kernel
theorem d10_append_28 : decode prog_1_method_43_code 28 = .ok (.getfield 44, 3) := by decide +kernel
theorem d10_append_31 : decode prog_1_method_43_code 31 = .ok (.getfield 254, 3) := by decide +kernel
theorem d10_append_34 : decode prog_1_method_43_code 34 = .ok (.ireturn, 1) := by decide +kernel
theorem d10_clearText_0 : decode prog_1_method_44_code 0 = .ok (.aload_n 0, 1) := by decide +kernel
theorem d10_clearText_1 : decode prog_1_method_44_code 1 = .ok (.getfield 44, 3) := by decide +kernel
theorem d10_clearText_4 : decode prog_1_method_44_code 4 = .ok (.getfield 254, 3) := by decide +kernel
theorem d10_clearText_7 : decode prog_1_method_44_code 7 = .ok (.istore_n 1, 1) := by decide +kernel
theorem d10_clearText_8 : decode prog_1_method_44_code 8 = .ok (.aload_n 0, 1) := by decide +kernel
theorem d10_clearText_9 : decode prog_1_method_44_code 9 = .ok (.getfield 44, 3) := by decide +kernel
theorem d10_clearText_12 : decode prog_1_method_44_code 12 = .ok (.iconst 0, 1) := by decide +kernel
theorem d10_clearText_13 : decode prog_1_method_44_code 13 = .ok (.putfield 254, 3) := by decide +kernel
theorem d10_clearText_16 : decode prog_1_method_44_code 16 = .ok (.iload_n 1, 1) := by decide +kernel
theorem d10_clearText_17 : decode prog_1_method_44_code 17 = .ok (.ireturn, 1) := by decide +kernel
theorem d10_faultPosition_0 : decode prog_1_method_45_code 0 = .ok (.aload_n 0, 1) := by decide +kernel
theorem d10_faultPosition_1 : decode prog_1_method_45_code 1 = .ok (.getfield 44, 3) := by decide +kernel
theorem d10_faultPosition_4 : decode prog_1_method_45_code 4 = .ok (.invokevirtual 255, 3) := by decide +kernel
theorem d10_faultPosition_7 : decode prog_1_method_45_code 7 = .ok (.ireturn, 1) := by decide +kernel
theorem d10_load_0 : decode prog_1_method_46_code 0 = .ok (.aload_n 0, 1) := by decide +kernel
theorem d10_load_1 : decode prog_1_method_46_code 1 = .ok (.getfield 44, 3) := by decide +kernel
theorem d10_load_4 : decode prog_1_method_46_code 4 = .ok (.invokevirtual 255, 3) := by decide +kernel
theorem d10_load_7 : decode prog_1_method_46_code 7 = .ok (.istore_n 1, 1) := by decide +kernel
theorem d10_load_8 : decode prog_1_method_46_code 8 = .ok (.iload_n 1, 1) := by decide +kernel
theorem d10_load_9 : decode prog_1_method_46_code 9 = .ok (.bipush (-5), 2) := by decide +kernel
theorem d10_load_11 : decode prog_1_method_46_code 11 = .ok (.if_icmp .eq 9, 3) := by decide +kernel
theorem d10_load_14 : decode prog_1_method_46_code 14 = .ok (.sipush (-1000), 3) := by decide +kernel
theorem d10_load_17 : decode prog_1_method_46_code 17 = .ok (.iload_n 1, 1) := by decide +kernel
theorem d10_load_18 : decode prog_1_method_46_code 18 = .ok (.isub, 1) := by decide +kernel
theorem d10_load_19 : decode prog_1_method_46_code 19 = .ok (.ireturn, 1) := by decide +kernel
theorem d10_load_20 : decode prog_1_method_46_code 20 = .ok (.aload_n 0, 1) := by decide +kernel
theorem d10_load_21 : decode prog_1_method_46_code 21 = .ok (.getfield 44, 3) := by decide +kernel
theorem d10_load_24 : decode prog_1_method_46_code 24 = .ok (.getfield 258, 3) := by decide +kernel
theorem d10_load_27 : decode prog_1_method_46_code 27 = .ok (.astore_n 2, 1) := by decide +kernel
theorem d10_load_28 : decode prog_1_method_46_code 28 = .ok (.aload_n 2, 1) := by decide +kernel
theorem d10_load_29 : decode prog_1_method_46_code 29 = .ok (.invokevirtual 262, 3) := by decide +kernel
theorem d10_load_32 : decode prog_1_method_46_code 32 = .ok (.iconst 0, 1) := by decide +kernel
theorem d10_load_33 : decode prog_1_method_46_code 33 = .ok (.istore_n 3, 1) := by decide +kernel
theorem d10_load_34 : decode prog_1_method_46_code 34 = .ok (.iconst 0, 1) := by decide +kernel
theorem d10_load_35 : decode prog_1_method_46_code 35 = .ok (.istore 4, 2) := by decide +kernel
theorem d10_load_37 : decode prog_1_method_46_code 37 = .ok (.iload 4, 2) := by decide +kernel
theorem d10_load_39 : decode prog_1_method_46_code 39 = .ok (.aload_n 0, 1) := by decide +kernel
theorem d10_load_40 : decode prog_1_method_46_code 40 = .ok (.getfield 44, 3) := by decide +kernel
theorem d10_load_43 : decode prog_1_method_46_code 43 = .ok (.getfield 254, 3) := by decide +kernel
theorem d10_load_46 : decode prog_1_method_46_code 46 = .ok (.if_icmp .ge 41, 3) := by decide +kernel
theorem d10_load_49 : decode prog_1_method_46_code 49 = .ok (.aload_n 2, 1) := by decide +kernel
theorem d10_load_50 : decode prog_1_method_46_code 50 = .ok (.aload_n 0, 1) := by decide +kernel
theorem d10_load_51 : decode prog_1_method_46_code 51 = .ok (.getfield 44, 3) := by decide +kernel
theorem d10_load_54 : decode prog_1_method_46_code 54 = .ok (.iload 4, 2) := by decide +kernel
theorem d10_load_56 : decode prog_1_method_46_code 56 = .ok (.invokevirtual 267, 3) := by decide +kernel
theorem d10_load_59 : decode prog_1_method_46_code 59 = .ok (.invokevirtual 270, 3) := by decide +kernel
theorem d10_load_62 : decode prog_1_method_46_code 62 = .ok (.pop, 1) := by decide +kernel
theorem d10_load_63 : decode prog_1_method_46_code 63 = .ok (.aload_n 2, 1) := by decide +kernel
theorem d10_load_64 : decode prog_1_method_46_code 64 = .ok (.invokevirtual 273, 3) := by decide +kernel
theorem d10_load_67 : decode prog_1_method_46_code 67 = .ok (.ifCond .eq 14, 3) := by decide +kernel
theorem d10_load_70 : decode prog_1_method_46_code 70 = .ok (.aload_n 0, 1) := by decide +kernel
theorem d10_load_71 : decode prog_1_method_46_code 71 = .ok (.aload_n 2, 1) := by decide +kernel
theorem d10_load_72 : decode prog_1_method_46_code 72 = .ok (.invokevirtual 276, 3) := by decide +kernel
theorem d10_load_75 : decode prog_1_method_46_code 75 = .ok (.ifCond .eq 6, 3) := by decide +kernel
theorem d10_load_78 : decode prog_1_method_46_code 78 = .ok (.iinc 3 1, 3) := by decide +kernel
theorem d10_load_81 : decode prog_1_method_46_code 81 = .ok (.iinc 4 1, 3) := by decide +kernel
theorem d10_load_84 : decode prog_1_method_46_code 84 = .ok (.goto (-47), 3) := by decide +kernel
theorem d10_load_87 : decode prog_1_method_46_code 87 = .ok (.iload_n 3, 1) := by decide +kernel
theorem d10_load_88 : decode prog_1_method_46_code 88 = .ok (.ireturn, 1) := by decide +kernel
theorem d10_save_0 : decode prog_1_method_47_code 0 = .ok (.iload_n 1, 1) := by decide +kernel
theorem d10_save_1 : decode prog_1_method_47_code 1 = .ok (.invokestatic 280, 3) := by decide +kernel
theorem d10_save_4 : decode prog_1_method_47_code 4 = .ok (.ifCond .ne 6, 3) := by decide +kernel
theorem d10_save_7 : decode prog_1_method_47_code 7 = .ok (.bipush (-2), 2) := by decide +kernel
theorem d10_save_9 : decode prog_1_method_47_code 9 = .ok (.ireturn, 1) := by decide +kernel
theorem d10_save_10 : decode prog_1_method_47_code 10 = .ok (.aload_n 0, 1) := by decide +kernel
theorem d10_save_11 : decode prog_1_method_47_code 11 = .ok (.getfield 19, 3) := by decide +kernel
theorem d10_save_14 : decode prog_1_method_47_code 14 = .ok (.iload_n 1, 1) := by decide +kernel
theorem d10_save_15 : decode prog_1_method_47_code 15 = .ok (.aaload, 1) := by decide +kernel
theorem d10_save_16 : decode prog_1_method_47_code 16 = .ok (.aload_n 0, 1) := by decide +kernel
theorem d10_save_17 : decode prog_1_method_47_code 17 = .ok (.getfield 10, 3) := by decide +kernel
theorem d10_save_20 : decode prog_1_method_47_code 20 = .ok (.invokevirtual 222, 3) := by decide +kernel
theorem d10_save_23 : decode prog_1_method_47_code 23 = .ok (.aload_n 0, 1) := by decide +kernel
theorem d10_save_24 : decode prog_1_method_47_code 24 = .ok (.getfield 23, 3) := by decide +kernel
theorem d10_save_27 : decode prog_1_method_47_code 27 = .ok (.iload_n 1, 1) := by decide +kernel
theorem d10_save_28 : decode prog_1_method_47_code 28 = .ok (.iconst 1, 1) := by decide +kernel
theorem d10_save_29 : decode prog_1_method_47_code 29 = .ok (.bastore, 1) := by decide +kernel
theorem d10_save_30 : decode prog_1_method_47_code 30 = .ok (.aload_n 0, 1) := by decide +kernel
theorem d10_save_31 : decode prog_1_method_47_code 31 = .ok (.getfield 10, 3) := by decide +kernel
theorem d10_save_34 : decode prog_1_method_47_code 34 = .ok (.getfield 143, 3) := by decide +kernel
theorem d10_save_37 : decode prog_1_method_47_code 37 = .ok (.ireturn, 1) := by decide +kernel
theorem d10_restore_0 : decode prog_1_method_48_code 0 = .ok (.iload_n 1, 1) := by decide +kernel
theorem d10_restore_1 : decode prog_1_method_48_code 1 = .ok (.invokestatic 280, 3) := by decide +kernel
theorem d10_restore_4 : decode prog_1_method_48_code 4 = .ok (.ifCond .ne 6, 3) := by decide +kernel
theorem d10_restore_7 : decode prog_1_method_48_code 7 = .ok (.bipush (-2), 2) := by decide +kernel
theorem d10_restore_9 : decode prog_1_method_48_code 9 = .ok (.ireturn, 1) := by decide +kernel
theorem d10_restore_10 : decode prog_1_method_48_code 10 = .ok (.aload_n 0, 1) := by decide +kernel
theorem d10_restore_11 : decode prog_1_method_48_code 11 = .ok (.getfield 23, 3) := by decide +kernel
theorem d10_restore_14 : decode prog_1_method_48_code 14 = .ok (.iload_n 1, 1) := by decide +kernel
theorem d10_restore_15 : decode prog_1_method_48_code 15 = .ok (.baload, 1) := by decide +kernel
theorem d10_restore_16 : decode prog_1_method_48_code 16 = .ok (.ifCond .ne 6, 3) := by decide +kernel
theorem d10_restore_19 : decode prog_1_method_48_code 19 = .ok (.bipush (-5), 2) := by decide +kernel
theorem d10_restore_21 : decode prog_1_method_48_code 21 = .ok (.ireturn, 1) := by decide +kernel
theorem d10_restore_22 : decode prog_1_method_48_code 22 = .ok (.aload_n 0, 1) := by decide +kernel
theorem d10_restore_23 : decode prog_1_method_48_code 23 = .ok (.getfield 10, 3) := by decide +kernel
theorem d10_restore_26 : decode prog_1_method_48_code 26 = .ok (.aload_n 0, 1) := by decide +kernel
theorem d10_restore_27 : decode prog_1_method_48_code 27 = .ok (.getfield 19, 3) := by decide +kernel
theorem d10_restore_30 : decode prog_1_method_48_code 30 = .ok (.iload_n 1, 1) := by decide +kernel
theorem d10_restore_31 : decode prog_1_method_48_code 31 = .ok (.aaload, 1) := by decide +kernel
theorem d10_restore_32 : decode prog_1_method_48_code 32 = .ok (.invokevirtual 222, 3) := by decide +kernel
theorem d10_restore_35 : decode prog_1_method_48_code 35 = .ok (.aload_n 0, 1) := by decide +kernel
theorem d10_restore_36 : decode prog_1_method_48_code 36 = .ok (.getfield 10, 3) := by decide +kernel
theorem d10_restore_39 : decode prog_1_method_48_code 39 = .ok (.getfield 143, 3) := by decide +kernel
theorem d10_restore_42 : decode prog_1_method_48_code 42 = .ok (.ireturn, 1) := by decide +kernel
theorem d10_checksum_0 : decode prog_1_method_49_code 0 = .ok (.ldc2_w 283, 3) := by decide +kernel
theorem d10_checksum_3 : decode prog_1_method_49_code 3 = .ok (.aload_n 0, 1) := by decide +kernel
theorem d10_checksum_4 : decode prog_1_method_49_code 4 = .ok (.getfield 10, 3) := by decide +kernel
theorem d10_checksum_7 : decode prog_1_method_49_code 7 = .ok (.getfield 143, 3) := by decide +kernel
theorem d10_checksum_10 : decode prog_1_method_49_code 10 = .ok (.i2l, 1) := by decide +kernel
theorem d10_checksum_11 : decode prog_1_method_49_code 11 = .ok (.invokestatic 285, 3) := by decide +kernel
theorem d10_checksum_14 : decode prog_1_method_49_code 14 = .ok (.lstore_n 1, 1) := by decide +kernel
theorem d10_checksum_15 : decode prog_1_method_49_code 15 = .ok (.iconst 0, 1) := by decide +kernel
theorem d10_checksum_16 : decode prog_1_method_49_code 16 = .ok (.istore_n 3, 1) := by decide +kernel
theorem d10_checksum_17 : decode prog_1_method_49_code 17 = .ok (.iload_n 3, 1) := by decide +kernel
theorem d10_checksum_18 : decode prog_1_method_49_code 18 = .ok (.iconst 4, 1) := by decide +kernel
theorem d10_checksum_19 : decode prog_1_method_49_code 19 = .ok (.if_icmp .ge 23, 3) := by decide +kernel
theorem d10_checksum_22 : decode prog_1_method_49_code 22 = .ok (.lload_n 1, 1) := by decide +kernel
theorem d10_checksum_23 : decode prog_1_method_49_code 23 = .ok (.aload_n 0, 1) := by decide +kernel
theorem d10_checksum_24 : decode prog_1_method_49_code 24 = .ok (.getfield 10, 3) := by decide +kernel
theorem d10_checksum_27 : decode prog_1_method_49_code 27 = .ok (.getfield 75, 3) := by decide +kernel
theorem d10_checksum_30 : decode prog_1_method_49_code 30 = .ok (.iload_n 3, 1) := by decide +kernel
theorem d10_checksum_31 : decode prog_1_method_49_code 31 = .ok (.aaload, 1) := by decide +kernel
theorem d10_checksum_32 : decode prog_1_method_49_code 32 = .ok (.invokestatic 289, 3) := by decide +kernel
theorem d10_checksum_35 : decode prog_1_method_49_code 35 = .ok (.lstore_n 1, 1) := by decide +kernel
theorem d10_checksum_36 : decode prog_1_method_49_code 36 = .ok (.iinc 3 1, 3) := by decide +kernel
theorem d10_checksum_39 : decode prog_1_method_49_code 39 = .ok (.goto (-22), 3) := by decide +kernel
theorem d10_checksum_42 : decode prog_1_method_49_code 42 = .ok (.iconst 1, 1) := by decide +kernel
theorem d10_checksum_43 : decode prog_1_method_49_code 43 = .ok (.istore_n 3, 1) := by decide +kernel
theorem d10_checksum_44 : decode prog_1_method_49_code 44 = .ok (.iload_n 3, 1) := by decide +kernel
theorem d10_checksum_45 : decode prog_1_method_49_code 45 = .ok (.bipush 32, 2) := by decide +kernel
theorem d10_checksum_47 : decode prog_1_method_49_code 47 = .ok (.if_icmp .gt 23, 3) := by decide +kernel
theorem d10_checksum_50 : decode prog_1_method_49_code 50 = .ok (.lload_n 1, 1) := by decide +kernel
theorem d10_checksum_51 : decode prog_1_method_49_code 51 = .ok (.aload_n 0, 1) := by decide +kernel
theorem d10_checksum_52 : decode prog_1_method_49_code 52 = .ok (.getfield 10, 3) := by decide +kernel
theorem d10_checksum_55 : decode prog_1_method_49_code 55 = .ok (.iload_n 3, 1) := by decide +kernel
theorem d10_checksum_56 : decode prog_1_method_49_code 56 = .ok (.invokevirtual 216, 3) := by decide +kernel
theorem d10_checksum_59 : decode prog_1_method_49_code 59 = .ok (.i2l, 1) := by decide +kernel
theorem d10_checksum_60 : decode prog_1_method_49_code 60 = .ok (.invokestatic 285, 3) := by decide +kernel
theorem d10_checksum_63 : decode prog_1_method_49_code 63 = .ok (.lstore_n 1, 1) := by decide +kernel
theorem d10_checksum_64 : decode prog_1_method_49_code 64 = .ok (.iinc 3 1, 3) := by decide +kernel
theorem d10_checksum_67 : decode prog_1_method_49_code 67 = .ok (.goto (-23), 3) := by decide +kernel
theorem d10_checksum_70 : decode prog_1_method_49_code 70 = .ok (.lload_n 1, 1) := by decide +kernel
theorem d10_checksum_71 : decode prog_1_method_49_code 71 = .ok (.lreturn, 1) := by decide +kernel
theorem d10_isWithin_0 : decode prog_1_method_50_code 0 = .ok (.iload_n 0, 1) := by decide +kernel
theorem d10_isWithin_1 : decode prog_1_method_50_code 1 = .ok (.iload_n 1, 1) := by decide +kernel
theorem d10_isWithin_2 : decode prog_1_method_50_code 2 = .ok (.if_icmp .lt 12, 3) := by decide +kernel
theorem d10_isWithin_5 : decode prog_1_method_50_code 5 = .ok (.iload_n 0, 1) := by decide +kernel
theorem d10_isWithin_6 : decode prog_1_method_50_code 6 = .ok (.iload_n 2, 1) := by decide +kernel
theorem d10_isWithin_7 : decode prog_1_method_50_code 7 = .ok (.if_icmp .gt 7, 3) := by decide +kernel
theorem d10_isWithin_10 : decode prog_1_method_50_code 10 = .ok (.iconst 1, 1) := by decide +kernel
theorem d10_isWithin_11 : decode prog_1_method_50_code 11 = .ok (.goto 4, 3) := by decide +kernel
theorem d10_isWithin_14 : decode prog_1_method_50_code 14 = .ok (.iconst 0, 1) := by decide +kernel
theorem d10_isWithin_15 : decode prog_1_method_50_code 15 = .ok (.ireturn, 1) := by decide +kernel
theorem d10_isNode_0 : decode prog_1_method_51_code 0 = .ok (.iload_n 0, 1) := by decide +kernel
theorem d10_isNode_1 : decode prog_1_method_51_code 1 = .ok (.iconst 0, 1) := by decide +kernel
theorem d10_isNode_2 : decode prog_1_method_51_code 2 = .ok (.iconst 3, 1) := by decide +kernel
theorem d10_isNode_3 : decode prog_1_method_51_code 3 = .ok (.invokestatic 48, 3) := by decide +kernel
theorem d10_isNode_6 : decode prog_1_method_51_code 6 = .ok (.ireturn, 1) := by decide +kernel
theorem d10_isSlot_0 : decode prog_1_method_52_code 0 = .ok (.iload_n 0, 1) := by decide +kernel
theorem d10_isSlot_1 : decode prog_1_method_52_code 1 = .ok (.iconst 0, 1) := by decide +kernel
theorem d10_isSlot_2 : decode prog_1_method_52_code 2 = .ok (.iconst 1, 1) := by decide +kernel
theorem d10_isSlot_3 : decode prog_1_method_52_code 3 = .ok (.invokestatic 48, 3) := by decide +kernel
theorem d10_isSlot_6 : decode prog_1_method_52_code 6 = .ok (.ireturn, 1) := by decide +kernel
theorem d10_isIdentifier_0 : decode prog_1_method_53_code 0 = .ok (.iload_n 0, 1) := by decide +kernel
theorem d10_isIdentifier_1 : decode prog_1_method_53_code 1 = .ok (.iconst 0, 1) := by decide +kernel
theorem d10_isIdentifier_2 : decode prog_1_method_53_code 2 = .ok (.sipush 2047, 3) := by decide +kernel
theorem d10_isIdentifier_5 : decode prog_1_method_53_code 5 = .ok (.invokestatic 48, 3) := by decide +kernel
theorem d10_isIdentifier_8 : decode prog_1_method_53_code 8 = .ok (.ireturn, 1) := by decide +kernel
theorem d10_isLength_0 : decode prog_1_method_54_code 0 = .ok (.iload_n 0, 1) := by decide +kernel
theorem d10_isLength_1 : decode prog_1_method_54_code 1 = .ok (.iconst 0, 1) := by decide +kernel
theorem d10_isLength_2 : decode prog_1_method_54_code 2 = .ok (.iconst 4, 1) := by decide +kernel
theorem d10_isLength_3 : decode prog_1_method_54_code 3 = .ok (.invokestatic 48, 3) := by decide +kernel
theorem d10_isLength_6 : decode prog_1_method_54_code 6 = .ok (.ireturn, 1) := by decide +kernel
theorem d10_isFrame_0 : decode prog_1_method_55_code 0 = .ok (.iload_n 0, 1) := by decide +kernel
theorem d10_isFrame_1 : decode prog_1_method_55_code 1 = .ok (.invokestatic 72, 3) := by decide +kernel
theorem d10_isFrame_4 : decode prog_1_method_55_code 4 = .ok (.ifCond .eq 18, 3) := by decide +kernel
theorem d10_isFrame_7 : decode prog_1_method_55_code 7 = .ok (.iload_n 2, 1) := by decide +kernel
theorem d10_isFrame_8 : decode prog_1_method_55_code 8 = .ok (.invokestatic 236, 3) := by decide +kernel
theorem d10_isFrame_11 : decode prog_1_method_55_code 11 = .ok (.ifCond .eq 11, 3) := by decide +kernel
theorem d10_isFrame_14 : decode prog_1_method_55_code 14 = .ok (.iload_n 1, 1) := by decide +kernel
theorem d10_isFrame_15 : decode prog_1_method_55_code 15 = .ok (.ifCond .eq 9, 3) := by decide +kernel
theorem d10_isFrame_18 : decode prog_1_method_55_code 18 = .ok (.iload_n 3, 1) := by decide +kernel
theorem d10_isFrame_19 : decode prog_1_method_55_code 19 = .ok (.ifCond .eq 5, 3) := by decide +kernel
theorem d10_isFrame_22 : decode prog_1_method_55_code 22 = .ok (.iconst 0, 1) := by decide +kernel
theorem d10_isFrame_23 : decode prog_1_method_55_code 23 = .ok (.ireturn, 1) := by decide +kernel
theorem d10_isFrame_24 : decode prog_1_method_55_code 24 = .ok (.iload_n 2, 1) := by decide +kernel
theorem d10_isFrame_25 : decode prog_1_method_55_code 25 = .ok (.iconst 4, 1) := by decide +kernel
theorem d10_isFrame_26 : decode prog_1_method_55_code 26 = .ok (.if_icmp .eq 12, 3) := by decide +kernel
theorem d10_isFrame_29 : decode prog_1_method_55_code 29 = .ok (.iload_n 3, 1) := by decide +kernel
theorem d10_isFrame_30 : decode prog_1_method_55_code 30 = .ok (.bipush 8, 2) := by decide +kernel
theorem d10_isFrame_32 : decode prog_1_method_55_code 32 = .ok (.iload_n 2, 1) := by decide +kernel
theorem d10_isFrame_33 : decode prog_1_method_55_code 33 = .ok (.imul, 1) := by decide +kernel
theorem d10_isFrame_34 : decode prog_1_method_55_code 34 = .ok (.iushr, 1) := by decide +kernel
theorem d10_isFrame_35 : decode prog_1_method_55_code 35 = .ok (.ifCond .ne 7, 3) := by decide +kernel
theorem d10_isFrame_38 : decode prog_1_method_55_code 38 = .ok (.iconst 1, 1) := by decide +kernel
theorem d10_isFrame_39 : decode prog_1_method_55_code 39 = .ok (.goto 4, 3) := by decide +kernel
theorem d10_isFrame_42 : decode prog_1_method_55_code 42 = .ok (.iconst 0, 1) := by decide +kernel
theorem d10_isFrame_43 : decode prog_1_method_55_code 43 = .ok (.ireturn, 1) := by decide +kernel
theorem d10_asInt_0 : decode prog_1_method_56_code 0 = .ok (.iload_n 0, 1) := by decide +kernel
theorem d10_asInt_1 : decode prog_1_method_56_code 1 = .ok (.ifCond .eq 7, 3) := by decide +kernel
theorem d10_asInt_4 : decode prog_1_method_56_code 4 = .ok (.iconst 1, 1) := by decide +kernel
theorem d10_asInt_5 : decode prog_1_method_56_code 5 = .ok (.goto 4, 3) := by decide +kernel
theorem d10_asInt_8 : decode prog_1_method_56_code 8 = .ok (.iconst 0, 1) := by decide +kernel
theorem d10_asInt_9 : decode prog_1_method_56_code 9 = .ok (.ireturn, 1) := by decide +kernel
theorem d10_keyOf_0 : decode prog_1_method_57_code 0 = .ok (.iconst 2, 1) := by decide +kernel
theorem d10_keyOf_1 : decode prog_1_method_57_code 1 = .ok (.iload_n 0, 1) := by decide +kernel
theorem d10_keyOf_2 : decode prog_1_method_57_code 2 = .ok (.imul, 1) := by decide +kernel
theorem d10_keyOf_3 : decode prog_1_method_57_code 3 = .ok (.iload_n 1, 1) := by decide +kernel
theorem d10_keyOf_4 : decode prog_1_method_57_code 4 = .ok (.invokestatic 166, 3) := by decide +kernel
theorem d10_keyOf_7 : decode prog_1_method_57_code 7 = .ok (.iadd, 1) := by decide +kernel
theorem d10_keyOf_8 : decode prog_1_method_57_code 8 = .ok (.ireturn, 1) := by decide +kernel
theorem d10_longestFrame_0 : decode prog_1_method_58_code 0 = .ok (.bipush 47, 2) := by decide +kernel
theorem d10_longestFrame_2 : decode prog_1_method_58_code 2 = .ok (.bipush 8, 2) := by decide +kernel
theorem d10_longestFrame_4 : decode prog_1_method_58_code 4 = .ok (.iload_n 0, 1) := by decide +kernel
theorem d10_longestFrame_5 : decode prog_1_method_58_code 5 = .ok (.imul, 1) := by decide +kernel
theorem d10_longestFrame_6 : decode prog_1_method_58_code 6 = .ok (.iadd, 1) := by decide +kernel
theorem d10_longestFrame_7 : decode prog_1_method_58_code 7 = .ok (.bipush 33, 2) := by decide +kernel
theorem d10_longestFrame_9 : decode prog_1_method_58_code 9 = .ok (.bipush 8, 2) := by decide +kernel
theorem d10_longestFrame_11 : decode prog_1_method_58_code 11 = .ok (.iload_n 0, 1) := by decide +kernel
theorem d10_longestFrame_12 : decode prog_1_method_58_code 12 = .ok (.imul, 1) := by decide +kernel
theorem d10_longestFrame_13 : decode prog_1_method_58_code 13 = .ok (.iadd, 1) := by decide +kernel
theorem d10_longestFrame_14 : decode prog_1_method_58_code 14 = .ok (.iconst 4, 1) := by decide +kernel
theorem d10_longestFrame_15 : decode prog_1_method_58_code 15 = .ok (.idiv, 1) := by decide +kernel
theorem d10_longestFrame_16 : decode prog_1_method_58_code 16 = .ok (.iadd, 1) := by decide +kernel
theorem d10_longestFrame_17 : decode prog_1_method_58_code 17 = .ok (.ireturn, 1) := by decide +kernel
theorem d10_mix_0 : decode prog_1_method_59_code 0 = .ok (.ldc2_w 293, 3) := by decide +kernel
theorem d10_mix_3 : decode prog_1_method_59_code 3 = .ok (.lload_n 0, 1) := by decide +kernel
theorem d10_mix_4 : decode prog_1_method_59_code 4 = .ok (.lmul, 1) := by decide +kernel
theorem d10_mix_5 : decode prog_1_method_59_code 5 = .ok (.lload_n 2, 1) := by decide +kernel
theorem d10_mix_6 : decode prog_1_method_59_code 6 = .ok (.ladd, 1) := by decide +kernel
theorem d10_mix_7 : decode prog_1_method_59_code 7 = .ok (.lreturn, 1) := by decide +kernel
theorem d10_mixNode_0 : decode prog_1_method_60_code 0 = .ok (.aload_n 2, 1) := by decide +kernel
theorem d10_mixNode_1 : decode prog_1_method_60_code 1 = .ok (.getfield 179, 3) := by decide +kernel
theorem d10_mixNode_4 : decode prog_1_method_60_code 4 = .ok (.astore_n 3, 1) := by decide +kernel
theorem d10_mixNode_5 : decode prog_1_method_60_code 5 = .ok (.lload_n 0, 1) := by decide +kernel
theorem d10_mixNode_6 : decode prog_1_method_60_code 6 = .ok (.aload_n 2, 1) := by decide +kernel
theorem d10_mixNode_7 : decode prog_1_method_60_code 7 = .ok (.getfield 120, 3) := by decide +kernel
theorem d10_mixNode_10 : decode prog_1_method_60_code 10 = .ok (.i2l, 1) := by decide +kernel
theorem d10_mixNode_11 : decode prog_1_method_60_code 11 = .ok (.invokestatic 285, 3) := by decide +kernel
theorem d10_mixNode_14 : decode prog_1_method_60_code 14 = .ok (.lstore 4, 2) := by decide +kernel
theorem d10_mixNode_16 : decode prog_1_method_60_code 16 = .ok (.lload 4, 2) := by decide +kernel
theorem d10_mixNode_18 : decode prog_1_method_60_code 18 = .ok (.aload_n 2, 1) := by decide +kernel
theorem d10_mixNode_19 : decode prog_1_method_60_code 19 = .ok (.getfield 162, 3) := by decide +kernel
theorem d10_mixNode_22 : decode prog_1_method_60_code 22 = .ok (.invokestatic 166, 3) := by decide +kernel
theorem d10_mixNode_25 : decode prog_1_method_60_code 25 = .ok (.i2l, 1) := by decide +kernel
theorem d10_mixNode_26 : decode prog_1_method_60_code 26 = .ok (.invokestatic 285, 3) := by decide +kernel
theorem d10_mixNode_29 : decode prog_1_method_60_code 29 = .ok (.lstore 4, 2) := by decide +kernel
theorem d10_mixNode_31 : decode prog_1_method_60_code 31 = .ok (.lload 4, 2) := by decide +kernel
theorem d10_mixNode_33 : decode prog_1_method_60_code 33 = .ok (.aload_n 2, 1) := by decide +kernel
theorem d10_mixNode_34 : decode prog_1_method_60_code 34 = .ok (.getfield 170, 3) := by decide +kernel
theorem d10_mixNode_37 : decode prog_1_method_60_code 37 = .ok (.i2l, 1) := by decide +kernel
theorem d10_mixNode_38 : decode prog_1_method_60_code 38 = .ok (.invokestatic 285, 3) := by decide +kernel
theorem d10_mixNode_41 : decode prog_1_method_60_code 41 = .ok (.lstore 4, 2) := by decide +kernel
theorem d10_mixNode_43 : decode prog_1_method_60_code 43 = .ok (.lload 4, 2) := by decide +kernel
theorem d10_mixNode_45 : decode prog_1_method_60_code 45 = .ok (.aload_n 2, 1) := by decide +kernel
theorem d10_mixNode_46 : decode prog_1_method_60_code 46 = .ok (.getfield 173, 3) := by decide +kernel
theorem d10_mixNode_49 : decode prog_1_method_60_code 49 = .ok (.i2l, 1) := by decide +kernel
theorem d10_mixNode_50 : decode prog_1_method_60_code 50 = .ok (.invokestatic 285, 3) := by decide +kernel
theorem d10_mixNode_53 : decode prog_1_method_60_code 53 = .ok (.lstore 4, 2) := by decide +kernel
theorem d10_mixNode_55 : decode prog_1_method_60_code 55 = .ok (.iconst 1, 1) := by decide +kernel
theorem d10_mixNode_56 : decode prog_1_method_60_code 56 = .ok (.istore 6, 2) := by decide +kernel
theorem d10_mixNode_58 : decode prog_1_method_60_code 58 = .ok (.iload 6, 2) := by decide +kernel
theorem d10_mixNode_60 : decode prog_1_method_60_code 60 = .ok (.iconst 5, 1) := by decide +kernel
theorem d10_mixNode_61 : decode prog_1_method_60_code 61 = .ok (.if_icmp .gt 24, 3) := by decide +kernel
theorem d10_mixNode_64 : decode prog_1_method_60_code 64 = .ok (.lload 4, 2) := by decide +kernel
theorem d10_mixNode_66 : decode prog_1_method_60_code 66 = .ok (.aload_n 3, 1) := by decide +kernel
theorem d10_mixNode_67 : decode prog_1_method_60_code 67 = .ok (.getfield 183, 3) := by decide +kernel
theorem d10_mixNode_70 : decode prog_1_method_60_code 70 = .ok (.iload 6, 2) := by decide +kernel
theorem d10_mixNode_72 : decode prog_1_method_60_code 72 = .ok (.iaload, 1) := by decide +kernel
theorem d10_mixNode_73 : decode prog_1_method_60_code 73 = .ok (.i2l, 1) := by decide +kernel
theorem d10_mixNode_74 : decode prog_1_method_60_code 74 = .ok (.invokestatic 285, 3) := by decide +kernel
theorem d10_mixNode_77 : decode prog_1_method_60_code 77 = .ok (.lstore 4, 2) := by decide +kernel
theorem d10_mixNode_79 : decode prog_1_method_60_code 79 = .ok (.iinc 6 1, 3) := by decide +kernel
theorem d10_mixNode_82 : decode prog_1_method_60_code 82 = .ok (.goto (-24), 3) := by decide +kernel
theorem d10_mixNode_85 : decode prog_1_method_60_code 85 = .ok (.lload 4, 2) := by decide +kernel
theorem d10_mixNode_87 : decode prog_1_method_60_code 87 = .ok (.aload_n 3, 1) := by decide +kernel
theorem d10_mixNode_88 : decode prog_1_method_60_code 88 = .ok (.getfield 189, 3) := by decide +kernel
theorem d10_mixNode_91 : decode prog_1_method_60_code 91 = .ok (.i2l, 1) := by decide +kernel
theorem d10_mixNode_92 : decode prog_1_method_60_code 92 = .ok (.invokestatic 285, 3) := by decide +kernel
theorem d10_mixNode_95 : decode prog_1_method_60_code 95 = .ok (.lstore 4, 2) := by decide +kernel
theorem d10_mixNode_97 : decode prog_1_method_60_code 97 = .ok (.lload 4, 2) := by decide +kernel
theorem d10_mixNode_99 : decode prog_1_method_60_code 99 = .ok (.aload_n 3, 1) := by decide +kernel
theorem d10_mixNode_100 : decode prog_1_method_60_code 100 = .ok (.getfield 192, 3) := by decide +kernel
theorem d10_mixNode_103 : decode prog_1_method_60_code 103 = .ok (.i2l, 1) := by decide +kernel
theorem d10_mixNode_104 : decode prog_1_method_60_code 104 = .ok (.invokestatic 285, 3) := by decide +kernel
theorem d10_mixNode_107 : decode prog_1_method_60_code 107 = .ok (.lstore 4, 2) := by decide +kernel
theorem d10_mixNode_109 : decode prog_1_method_60_code 109 = .ok (.lload 4, 2) := by decide +kernel
theorem d10_mixNode_111 : decode prog_1_method_60_code 111 = .ok (.aload_n 3, 1) := by decide +kernel
theorem d10_mixNode_112 : decode prog_1_method_60_code 112 = .ok (.getfield 195, 3) := by decide +kernel
theorem d10_mixNode_115 : decode prog_1_method_60_code 115 = .ok (.i2l, 1) := by decide +kernel
theorem d10_mixNode_116 : decode prog_1_method_60_code 116 = .ok (.invokestatic 285, 3) := by decide +kernel
theorem d10_mixNode_119 : decode prog_1_method_60_code 119 = .ok (.lstore 4, 2) := by decide +kernel
theorem d10_mixNode_121 : decode prog_1_method_60_code 121 = .ok (.lload 4, 2) := by decide +kernel
theorem d10_mixNode_123 : decode prog_1_method_60_code 123 = .ok (.aload_n 3, 1) := by decide +kernel
theorem d10_mixNode_124 : decode prog_1_method_60_code 124 = .ok (.getfield 198, 3) := by decide +kernel
theorem d10_mixNode_127 : decode prog_1_method_60_code 127 = .ok (.i2l, 1) := by decide +kernel
theorem d10_mixNode_128 : decode prog_1_method_60_code 128 = .ok (.invokestatic 285, 3) := by decide +kernel
theorem d10_mixNode_131 : decode prog_1_method_60_code 131 = .ok (.lstore 4, 2) := by decide +kernel
theorem d10_mixNode_133 : decode prog_1_method_60_code 133 = .ok (.lload 4, 2) := by decide +kernel
theorem d10_mixNode_135 : decode prog_1_method_60_code 135 = .ok (.aload_n 3, 1) := by decide +kernel
theorem d10_mixNode_136 : decode prog_1_method_60_code 136 = .ok (.getfield 201, 3) := by decide +kernel
theorem d10_mixNode_139 : decode prog_1_method_60_code 139 = .ok (.i2l, 1) := by decide +kernel
theorem d10_mixNode_140 : decode prog_1_method_60_code 140 = .ok (.invokestatic 285, 3) := by decide +kernel
theorem d10_mixNode_143 : decode prog_1_method_60_code 143 = .ok (.lstore 4, 2) := by decide +kernel
theorem d10_mixNode_145 : decode prog_1_method_60_code 145 = .ok (.lload 4, 2) := by decide +kernel
theorem d10_mixNode_147 : decode prog_1_method_60_code 147 = .ok (.aload_n 2, 1) := by decide +kernel
theorem d10_mixNode_148 : decode prog_1_method_60_code 148 = .ok (.getfield 133, 3) := by decide +kernel
theorem d10_mixNode_151 : decode prog_1_method_60_code 151 = .ok (.aload_n 2, 1) := by decide +kernel
theorem d10_mixNode_152 : decode prog_1_method_60_code 152 = .ok (.getfield 207, 3) := by decide +kernel
theorem d10_mixNode_155 : decode prog_1_method_60_code 155 = .ok (.invokestatic 295, 3) := by decide +kernel
theorem d10_mixNode_158 : decode prog_1_method_60_code 158 = .ok (.lreturn, 1) := by decide +kernel
theorem d10_mixFrames_0 : decode prog_1_method_61_code 0 = .ok (.lload_n 0, 1) := by decide +kernel
theorem d10_mixFrames_1 : decode prog_1_method_61_code 1 = .ok (.aload_n 2, 1) := by decide +kernel
theorem d10_mixFrames_2 : decode prog_1_method_61_code 2 = .ok (.getfield 113, 3) := by decide +kernel
theorem d10_mixFrames_5 : decode prog_1_method_61_code 5 = .ok (.i2l, 1) := by decide +kernel
theorem d10_mixFrames_6 : decode prog_1_method_61_code 6 = .ok (.invokestatic 285, 3) := by decide +kernel
theorem d10_mixFrames_9 : decode prog_1_method_61_code 9 = .ok (.lstore 4, 2) := by decide +kernel
theorem d10_mixFrames_11 : decode prog_1_method_61_code 11 = .ok (.iconst 0, 1) := by decide +kernel
theorem d10_mixFrames_12 : decode prog_1_method_61_code 12 = .ok (.istore 6, 2) := by decide +kernel
theorem d10_mixFrames_14 : decode prog_1_method_61_code 14 = .ok (.iload 6, 2) := by decide +kernel
theorem d10_mixFrames_16 : decode prog_1_method_61_code 16 = .ok (.aload_n 2, 1) := by decide +kernel
theorem d10_mixFrames_17 : decode prog_1_method_61_code 17 = .ok (.getfield 113, 3) := by decide +kernel
theorem d10_mixFrames_20 : decode prog_1_method_61_code 20 = .ok (.if_icmp .ge 23, 3) := by decide +kernel
theorem d10_mixFrames_23 : decode prog_1_method_61_code 23 = .ok (.lload 4, 2) := by decide +kernel
theorem d10_mixFrames_25 : decode prog_1_method_61_code 25 = .ok (.aload_n 2, 1) := by decide +kernel
theorem d10_mixFrames_26 : decode prog_1_method_61_code 26 = .ok (.iload 6, 2) := by decide +kernel
theorem d10_mixFrames_28 : decode prog_1_method_61_code 28 = .ok (.invokevirtual 204, 3) := by decide +kernel
theorem d10_mixFrames_31 : decode prog_1_method_61_code 31 = .ok (.i2l, 1) := by decide +kernel
theorem d10_mixFrames_32 : decode prog_1_method_61_code 32 = .ok (.invokestatic 285, 3) := by decide +kernel
theorem d10_mixFrames_35 : decode prog_1_method_61_code 35 = .ok (.lstore 4, 2) := by decide +kernel
theorem d10_mixFrames_37 : decode prog_1_method_61_code 37 = .ok (.iinc 6 1, 3) := by decide +kernel
theorem d10_mixFrames_40 : decode prog_1_method_61_code 40 = .ok (.goto (-26), 3) := by decide +kernel
theorem d10_mixFrames_43 : decode prog_1_method_61_code 43 = .ok (.lload 4, 2) := by decide +kernel
theorem d10_mixFrames_45 : decode prog_1_method_61_code 45 = .ok (.aload_n 3, 1) := by decide +kernel
theorem d10_mixFrames_46 : decode prog_1_method_61_code 46 = .ok (.getfield 113, 3) := by decide +kernel
theorem d10_mixFrames_49 : decode prog_1_method_61_code 49 = .ok (.i2l, 1) := by decide +kernel
theorem d10_mixFrames_50 : decode prog_1_method_61_code 50 = .ok (.invokestatic 285, 3) := by decide +kernel
theorem d10_mixFrames_53 : decode prog_1_method_61_code 53 = .ok (.lstore 4, 2) := by decide +kernel
theorem d10_mixFrames_55 : decode prog_1_method_61_code 55 = .ok (.iconst 0, 1) := by decide +kernel
theorem d10_mixFrames_56 : decode prog_1_method_61_code 56 = .ok (.istore 6, 2) := by decide +kernel
theorem d10_mixFrames_58 : decode prog_1_method_61_code 58 = .ok (.iload 6, 2) := by decide +kernel
theorem d10_mixFrames_60 : decode prog_1_method_61_code 60 = .ok (.aload_n 3, 1) := by decide +kernel
theorem d10_mixFrames_61 : decode prog_1_method_61_code 61 = .ok (.getfield 113, 3) := by decide +kernel
theorem d10_mixFrames_64 : decode prog_1_method_61_code 64 = .ok (.if_icmp .ge 51, 3) := by decide +kernel
theorem d10_mixFrames_67 : decode prog_1_method_61_code 67 = .ok (.lload 4, 2) := by decide +kernel
theorem d10_mixFrames_69 : decode prog_1_method_61_code 69 = .ok (.aload_n 3, 1) := by decide +kernel
theorem d10_mixFrames_70 : decode prog_1_method_61_code 70 = .ok (.iload 6, 2) := by decide +kernel
theorem d10_mixFrames_72 : decode prog_1_method_61_code 72 = .ok (.invokevirtual 204, 3) := by decide +kernel
theorem d10_mixFrames_75 : decode prog_1_method_61_code 75 = .ok (.i2l, 1) := by decide +kernel
theorem d10_mixFrames_76 : decode prog_1_method_61_code 76 = .ok (.invokestatic 285, 3) := by decide +kernel
theorem d10_mixFrames_79 : decode prog_1_method_61_code 79 = .ok (.lstore 4, 2) := by decide +kernel
theorem d10_mixFrames_81 : decode prog_1_method_61_code 81 = .ok (.lload 4, 2) := by decide +kernel
theorem d10_mixFrames_83 : decode prog_1_method_61_code 83 = .ok (.aload_n 3, 1) := by decide +kernel
theorem d10_mixFrames_84 : decode prog_1_method_61_code 84 = .ok (.iload 6, 2) := by decide +kernel
theorem d10_mixFrames_86 : decode prog_1_method_61_code 86 = .ok (.invokevirtual 210, 3) := by decide +kernel
theorem d10_mixFrames_89 : decode prog_1_method_61_code 89 = .ok (.i2l, 1) := by decide +kernel
theorem d10_mixFrames_90 : decode prog_1_method_61_code 90 = .ok (.invokestatic 285, 3) := by decide +kernel
theorem d10_mixFrames_93 : decode prog_1_method_61_code 93 = .ok (.lstore 4, 2) := by decide +kernel
theorem d10_mixFrames_95 : decode prog_1_method_61_code 95 = .ok (.lload 4, 2) := by decide +kernel
theorem d10_mixFrames_97 : decode prog_1_method_61_code 97 = .ok (.aload_n 3, 1) := by decide +kernel
theorem d10_mixFrames_98 : decode prog_1_method_61_code 98 = .ok (.iload 6, 2) := by decide +kernel
theorem d10_mixFrames_100 : decode prog_1_method_61_code 100 = .ok (.invokevirtual 213, 3) := by decide +kernel
theorem d10_mixFrames_103 : decode prog_1_method_61_code 103 = .ok (.i2l, 1) := by decide +kernel
theorem d10_mixFrames_104 : decode prog_1_method_61_code 104 = .ok (.invokestatic 285, 3) := by decide +kernel
theorem d10_mixFrames_107 : decode prog_1_method_61_code 107 = .ok (.lstore 4, 2) := by decide +kernel
theorem d10_mixFrames_109 : decode prog_1_method_61_code 109 = .ok (.iinc 6 1, 3) := by decide +kernel
theorem d10_mixFrames_112 : decode prog_1_method_61_code 112 = .ok (.goto (-54), 3) := by decide +kernel
theorem d10_mixFrames_115 : decode prog_1_method_61_code 115 = .ok (.lload 4, 2) := by decide +kernel
theorem d10_mixFrames_117 : decode prog_1_method_61_code 117 = .ok (.lreturn, 1) := by decide +kernel
theorem d10_walk_0 : decode prog_1_method_62_code 0 = .ok (.iload_n 1, 1) := by decide +kernel
theorem d10_walk_1 : decode prog_1_method_62_code 1 = .ok (.iload_n 2, 1) := by decide +kernel
theorem d10_walk_2 : decode prog_1_method_62_code 2 = .ok (.iload_n 3, 1) := by decide +kernel
theorem d10_walk_3 : decode prog_1_method_62_code 3 = .ok (.invokestatic 299, 3) := by decide +kernel
theorem d10_walk_6 : decode prog_1_method_62_code 6 = .ok (.lstore 5, 2) := by decide +kernel
theorem d10_walk_8 : decode prog_1_method_62_code 8 = .ok (.aload_n 0, 1) := by decide +kernel
theorem d10_walk_9 : decode prog_1_method_62_code 9 = .ok (.getfield 30, 3) := by decide +kernel
theorem d10_walk_12 : decode prog_1_method_62_code 12 = .ok (.invokevirtual 303, 3) := by decide +kernel
theorem d10_walk_15 : decode prog_1_method_62_code 15 = .ok (.iconst 1, 1) := by decide +kernel
theorem d10_walk_16 : decode prog_1_method_62_code 16 = .ok (.istore 7, 2) := by decide +kernel
theorem d10_walk_18 : decode prog_1_method_62_code 18 = .ok (.iload 7, 2) := by decide +kernel
theorem d10_walk_20 : decode prog_1_method_62_code 20 = .ok (.iload 4, 2) := by decide +kernel
theorem d10_walk_22 : decode prog_1_method_62_code 22 = .ok (.if_icmp .ge 61, 3) := by decide +kernel
theorem d10_walk_25 : decode prog_1_method_62_code 25 = .ok (.aload_n 0, 1) := by decide +kernel
theorem d10_walk_26 : decode prog_1_method_62_code 26 = .ok (.getfield 30, 3) := by decide +kernel
theorem d10_walk_29 : decode prog_1_method_62_code 29 = .ok (.invokevirtual 306, 3) := by decide +kernel
theorem d10_walk_32 : decode prog_1_method_62_code 32 = .ok (.ifCond .eq 51, 3) := by decide +kernel
theorem d10_walk_35 : decode prog_1_method_62_code 35 = .ok (.aload_n 0, 1) := by decide +kernel
theorem d10_walk_36 : decode prog_1_method_62_code 36 = .ok (.getfield 30, 3) := by decide +kernel
theorem d10_walk_39 : decode prog_1_method_62_code 39 = .ok (.lload 5, 2) := by decide +kernel
theorem d10_walk_41 : decode prog_1_method_62_code 41 = .ok (.invokevirtual 309, 3) := by decide +kernel
theorem d10_walk_44 : decode prog_1_method_62_code 44 = .ok (.istore 8, 2) := by decide +kernel
theorem d10_walk_46 : decode prog_1_method_62_code 46 = .ok (.aload_n 0, 1) := by decide +kernel
theorem d10_walk_47 : decode prog_1_method_62_code 47 = .ok (.getfield 30, 3) := by decide +kernel
theorem d10_walk_50 : decode prog_1_method_62_code 50 = .ok (.invokevirtual 313, 3) := by decide +kernel
theorem d10_walk_53 : decode prog_1_method_62_code 53 = .ok (.ifCond .eq 15, 3) := by decide +kernel
theorem d10_walk_56 : decode prog_1_method_62_code 56 = .ok (.aload_n 0, 1) := by decide +kernel
theorem d10_walk_57 : decode prog_1_method_62_code 57 = .ok (.getfield 30, 3) := by decide +kernel
theorem d10_walk_60 : decode prog_1_method_62_code 60 = .ok (.iload 8, 2) := by decide +kernel
theorem d10_walk_62 : decode prog_1_method_62_code 62 = .ok (.invokevirtual 316, 3) := by decide +kernel
theorem d10_walk_65 : decode prog_1_method_62_code 65 = .ok (.goto 12, 3) := by decide +kernel
theorem d10_walk_68 : decode prog_1_method_62_code 68 = .ok (.aload_n 0, 1) := by decide +kernel
theorem d10_walk_69 : decode prog_1_method_62_code 69 = .ok (.getfield 30, 3) := by decide +kernel
theorem d10_walk_72 : decode prog_1_method_62_code 72 = .ok (.iload 8, 2) := by decide +kernel
theorem d10_walk_74 : decode prog_1_method_62_code 74 = .ok (.invokevirtual 319, 3) := by decide +kernel
theorem d10_walk_77 : decode prog_1_method_62_code 77 = .ok (.iinc 7 1, 3) := by decide +kernel
theorem d10_walk_80 : decode prog_1_method_62_code 80 = .ok (.goto (-62), 3) := by decide +kernel
theorem d10_walk_83 : decode prog_1_method_62_code 83 = .ok (.iload 7, 2) := by decide +kernel
theorem d10_walk_85 : decode prog_1_method_62_code 85 = .ok (.ireturn, 1) := by decide +kernel
theorem d10_requestRead_0 : decode prog_1_method_63_code 0 = .ok (.aload_n 1, 1) := by decide +kernel
theorem d10_requestRead_1 : decode prog_1_method_63_code 1 = .ok (.getfield 322, 3) := by decide +kernel
theorem d10_requestRead_4 : decode prog_1_method_63_code 4 = .ok (.invokestatic 68, 3) := by decide +kernel
theorem d10_requestRead_7 : decode prog_1_method_63_code 7 = .ok (.ifCond .ne 5, 3) := by decide +kernel
theorem d10_requestRead_10 : decode prog_1_method_63_code 10 = .ok (.iconst 0, 1) := by decide +kernel
theorem d10_requestRead_11 : decode prog_1_method_63_code 11 = .ok (.ireturn, 1) := by decide +kernel
theorem d10_requestRead_12 : decode prog_1_method_63_code 12 = .ok (.aload_n 0, 1) := by decide +kernel
theorem d10_requestRead_13 : decode prog_1_method_63_code 13 = .ok (.getfield 10, 3) := by decide +kernel
theorem d10_requestRead_16 : decode prog_1_method_63_code 16 = .ok (.getfield 75, 3) := by decide +kernel
theorem d10_requestRead_19 : decode prog_1_method_63_code 19 = .ok (.aload_n 1, 1) := by decide +kernel
theorem d10_requestRead_20 : decode prog_1_method_63_code 20 = .ok (.getfield 322, 3) := by decide +kernel
theorem d10_requestRead_23 : decode prog_1_method_63_code 23 = .ok (.aaload, 1) := by decide +kernel
theorem d10_requestRead_24 : decode prog_1_method_63_code 24 = .ok (.aload_n 1, 1) := by decide +kernel
theorem d10_requestRead_25 : decode prog_1_method_63_code 25 = .ok (.getfield 325, 3) := by decide +kernel
theorem d10_requestRead_28 : decode prog_1_method_63_code 28 = .ok (.aload_n 1, 1) := by decide +kernel
theorem d10_requestRead_29 : decode prog_1_method_63_code 29 = .ok (.getfield 328, 3) := by decide +kernel
theorem d10_requestRead_32 : decode prog_1_method_63_code 32 = .ok (.invokestatic 95, 3) := by decide +kernel
theorem d10_requestRead_35 : decode prog_1_method_63_code 35 = .ok (.aload_n 1, 1) := by decide +kernel
theorem d10_requestRead_36 : decode prog_1_method_63_code 36 = .ok (.getfield 331, 3) := by decide +kernel
theorem d10_requestRead_39 : decode prog_1_method_63_code 39 = .ok (.aload_n 1, 1) := by decide +kernel
theorem d10_requestRead_40 : decode prog_1_method_63_code 40 = .ok (.getfield 334, 3) := by decide +kernel
theorem d10_requestRead_43 : decode prog_1_method_63_code 43 = .ok (.invokevirtual 130, 3) := by decide +kernel
theorem d10_requestRead_46 : decode prog_1_method_63_code 46 = .ok (.ireturn, 1) := by decide +kernel

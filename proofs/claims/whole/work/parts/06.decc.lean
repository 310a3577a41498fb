theorem d11_intermits_0 : decode prog_13_method_55_code 0 = .ok (.aload_n 0, 1) := by decide +kernel
theorem d11_intermits_1 : decode prog_13_method_55_code 1 = .ok (.getfield 7, 3) := by decide +kernel
theorem d11_intermits_4 : decode prog_13_method_55_code 4 = .ok (.iload_n 1, 1) := by decide +kernel
theorem d11_intermits_5 : decode prog_13_method_55_code 5 = .ok (.iconst 2, 1) := by decide +kernel
theorem d11_intermits_6 : decode prog_13_method_55_code 6 = .ok (.invokestatic 35, 3) := by decide +kernel
theorem d11_intermits_9 : decode prog_13_method_55_code 9 = .ok (.iaload, 1) := by decide +kernel
theorem d11_intermits_10 : decode prog_13_method_55_code 10 = .ok (.istore_n 3, 1) := by decide +kernel
theorem d11_intermits_11 : decode prog_13_method_55_code 11 = .ok (.aload_n 0, 1) := by decide +kernel
theorem d11_intermits_12 : decode prog_13_method_55_code 12 = .ok (.getfield 7, 3) := by decide +kernel
theorem d11_intermits_15 : decode prog_13_method_55_code 15 = .ok (.iload_n 1, 1) := by decide +kernel
theorem d11_intermits_16 : decode prog_13_method_55_code 16 = .ok (.iconst 2, 1) := by decide +kernel
theorem d11_intermits_17 : decode prog_13_method_55_code 17 = .ok (.invokestatic 35, 3) := by decide +kernel
theorem d11_intermits_20 : decode prog_13_method_55_code 20 = .ok (.dup2, 1) := by decide +kernel
theorem d11_intermits_21 : decode prog_13_method_55_code 21 = .ok (.iaload, 1) := by decide +kernel
theorem d11_intermits_22 : decode prog_13_method_55_code 22 = .ok (.iconst 1, 1) := by decide +kernel
theorem d11_intermits_23 : decode prog_13_method_55_code 23 = .ok (.iadd, 1) := by decide +kernel
theorem d11_intermits_24 : decode prog_13_method_55_code 24 = .ok (.iastore, 1) := by decide +kernel
theorem d11_intermits_25 : decode prog_13_method_55_code 25 = .ok (.iload_n 3, 1) := by decide +kernel
theorem d11_intermits_26 : decode prog_13_method_55_code 26 = .ok (.iconst 2, 1) := by decide +kernel
theorem d11_intermits_27 : decode prog_13_method_55_code 27 = .ok (.if_icmp .ge 17, 3) := by decide +kernel
theorem d11_intermits_30 : decode prog_13_method_55_code 30 = .ok (.iload_n 2, 1) := by decide +kernel
theorem d11_intermits_31 : decode prog_13_method_55_code 31 = .ok (.ifCond .ne 53, 3) := by decide +kernel
theorem d11_intermits_34 : decode prog_13_method_55_code 34 = .ok (.aload_n 0, 1) := by decide +kernel
theorem d11_intermits_35 : decode prog_13_method_55_code 35 = .ok (.iload_n 1, 1) := by decide +kernel
theorem d11_intermits_36 : decode prog_13_method_55_code 36 = .ok (.bipush 6, 2) := by decide +kernel
theorem d11_intermits_38 : decode prog_13_method_55_code 38 = .ok (.invokevirtual 84, 3) := by decide +kernel
theorem d11_intermits_41 : decode prog_13_method_55_code 41 = .ok (.goto 43, 3) := by decide +kernel
theorem d11_intermits_44 : decode prog_13_method_55_code 44 = .ok (.iload_n 2, 1) := by decide +kernel
theorem d11_intermits_45 : decode prog_13_method_55_code 45 = .ok (.ifCond .ne 12, 3) := by decide +kernel
theorem d11_intermits_48 : decode prog_13_method_55_code 48 = .ok (.aload_n 0, 1) := by decide +kernel
theorem d11_intermits_49 : decode prog_13_method_55_code 49 = .ok (.iload_n 1, 1) := by decide +kernel
theorem d11_intermits_50 : decode prog_13_method_55_code 50 = .ok (.iconst 0, 1) := by decide +kernel
theorem d11_intermits_51 : decode prog_13_method_55_code 51 = .ok (.invokevirtual 146, 3) := by decide +kernel
theorem d11_intermits_54 : decode prog_13_method_55_code 54 = .ok (.goto 30, 3) := by decide +kernel
theorem d11_intermits_57 : decode prog_13_method_55_code 57 = .ok (.aload_n 0, 1) := by decide +kernel
theorem d11_intermits_58 : decode prog_13_method_55_code 58 = .ok (.iload_n 1, 1) := by decide +kernel
theorem d11_intermits_59 : decode prog_13_method_55_code 59 = .ok (.aload_n 0, 1) := by decide +kernel
theorem d11_intermits_60 : decode prog_13_method_55_code 60 = .ok (.iload_n 1, 1) := by decide +kernel
theorem d11_intermits_61 : decode prog_13_method_55_code 61 = .ok (.invokevirtual 110, 3) := by decide +kernel
theorem d11_intermits_64 : decode prog_13_method_55_code 64 = .ok (.ifCond .eq 16, 3) := by decide +kernel
theorem d11_intermits_67 : decode prog_13_method_55_code 67 = .ok (.aload_n 0, 1) := by decide +kernel
theorem d11_intermits_68 : decode prog_13_method_55_code 68 = .ok (.iload_n 1, 1) := by decide +kernel
theorem d11_intermits_69 : decode prog_13_method_55_code 69 = .ok (.invokevirtual 119, 3) := by decide +kernel
theorem d11_intermits_72 : decode prog_13_method_55_code 72 = .ok (.ifCond .eq 8, 3) := by decide +kernel
theorem d11_intermits_75 : decode prog_13_method_55_code 75 = .ok (.bipush 9, 2) := by decide +kernel
theorem d11_intermits_77 : decode prog_13_method_55_code 77 = .ok (.goto 4, 3) := by decide +kernel
theorem d11_intermits_80 : decode prog_13_method_55_code 80 = .ok (.iconst 3, 1) := by decide +kernel
theorem d11_intermits_81 : decode prog_13_method_55_code 81 = .ok (.invokevirtual 84, 3) := by decide +kernel
theorem d11_intermits_84 : decode prog_13_method_55_code 84 = .ok (.return_, 1) := by decide +kernel
theorem d11_suspends_0 : decode prog_13_method_56_code 0 = .ok (.aload_n 0, 1) := by decide +kernel
theorem d11_suspends_1 : decode prog_13_method_56_code 1 = .ok (.getfield 7, 3) := by decide +kernel
theorem d11_suspends_4 : decode prog_13_method_56_code 4 = .ok (.iload_n 1, 1) := by decide +kernel
theorem d11_suspends_5 : decode prog_13_method_56_code 5 = .ok (.iconst 2, 1) := by decide +kernel
theorem d11_suspends_6 : decode prog_13_method_56_code 6 = .ok (.invokestatic 35, 3) := by decide +kernel
theorem d11_suspends_9 : decode prog_13_method_56_code 9 = .ok (.dup2, 1) := by decide +kernel
theorem d11_suspends_10 : decode prog_13_method_56_code 10 = .ok (.iaload, 1) := by decide +kernel
theorem d11_suspends_11 : decode prog_13_method_56_code 11 = .ok (.iconst 1, 1) := by decide +kernel
theorem d11_suspends_12 : decode prog_13_method_56_code 12 = .ok (.iadd, 1) := by decide +kernel
theorem d11_suspends_13 : decode prog_13_method_56_code 13 = .ok (.iastore, 1) := by decide +kernel
theorem d11_suspends_14 : decode prog_13_method_56_code 14 = .ok (.iload_n 2, 1) := by decide +kernel
theorem d11_suspends_15 : decode prog_13_method_56_code 15 = .ok (.ifCond .ne 12, 3) := by decide +kernel
theorem d11_suspends_18 : decode prog_13_method_56_code 18 = .ok (.aload_n 0, 1) := by decide +kernel
theorem d11_suspends_19 : decode prog_13_method_56_code 19 = .ok (.iload_n 1, 1) := by decide +kernel
theorem d11_suspends_20 : decode prog_13_method_56_code 20 = .ok (.iconst 0, 1) := by decide +kernel
theorem d11_suspends_21 : decode prog_13_method_56_code 21 = .ok (.invokevirtual 146, 3) := by decide +kernel
theorem d11_suspends_24 : decode prog_13_method_56_code 24 = .ok (.goto 24, 3) := by decide +kernel
theorem d11_suspends_27 : decode prog_13_method_56_code 27 = .ok (.aload_n 0, 1) := by decide +kernel
theorem d11_suspends_28 : decode prog_13_method_56_code 28 = .ok (.getfield 7, 3) := by decide +kernel
theorem d11_suspends_31 : decode prog_13_method_56_code 31 = .ok (.iload_n 1, 1) := by decide +kernel
theorem d11_suspends_32 : decode prog_13_method_56_code 32 = .ok (.iconst 2, 1) := by decide +kernel
theorem d11_suspends_33 : decode prog_13_method_56_code 33 = .ok (.invokestatic 35, 3) := by decide +kernel
theorem d11_suspends_36 : decode prog_13_method_56_code 36 = .ok (.iaload, 1) := by decide +kernel
theorem d11_suspends_37 : decode prog_13_method_56_code 37 = .ok (.bipush 8, 2) := by decide +kernel
theorem d11_suspends_39 : decode prog_13_method_56_code 39 = .ok (.if_icmp .ne 9, 3) := by decide +kernel
theorem d11_suspends_42 : decode prog_13_method_56_code 42 = .ok (.aload_n 0, 1) := by decide +kernel
theorem d11_suspends_43 : decode prog_13_method_56_code 43 = .ok (.iload_n 1, 1) := by decide +kernel
theorem d11_suspends_44 : decode prog_13_method_56_code 44 = .ok (.iconst 3, 1) := by decide +kernel
theorem d11_suspends_45 : decode prog_13_method_56_code 45 = .ok (.invokevirtual 84, 3) := by decide +kernel
theorem d11_suspends_48 : decode prog_13_method_56_code 48 = .ok (.return_, 1) := by decide +kernel
theorem d11_recovers_0 : decode prog_13_method_57_code 0 = .ok (.aload_n 0, 1) := by decide +kernel
theorem d11_recovers_1 : decode prog_13_method_57_code 1 = .ok (.getfield 7, 3) := by decide +kernel
theorem d11_recovers_4 : decode prog_13_method_57_code 4 = .ok (.iload_n 1, 1) := by decide +kernel
theorem d11_recovers_5 : decode prog_13_method_57_code 5 = .ok (.iconst 2, 1) := by decide +kernel
theorem d11_recovers_6 : decode prog_13_method_57_code 6 = .ok (.invokestatic 35, 3) := by decide +kernel
theorem d11_recovers_9 : decode prog_13_method_57_code 9 = .ok (.iload_n 2, 1) := by decide +kernel
theorem d11_recovers_10 : decode prog_13_method_57_code 10 = .ok (.iconst 1, 1) := by decide +kernel
theorem d11_recovers_11 : decode prog_13_method_57_code 11 = .ok (.if_icmp .ne 18, 3) := by decide +kernel
theorem d11_recovers_14 : decode prog_13_method_57_code 14 = .ok (.aload_n 0, 1) := by decide +kernel
theorem d11_recovers_15 : decode prog_13_method_57_code 15 = .ok (.getfield 7, 3) := by decide +kernel
theorem d11_recovers_18 : decode prog_13_method_57_code 18 = .ok (.iload_n 1, 1) := by decide +kernel
theorem d11_recovers_19 : decode prog_13_method_57_code 19 = .ok (.iconst 2, 1) := by decide +kernel
theorem d11_recovers_20 : decode prog_13_method_57_code 20 = .ok (.invokestatic 35, 3) := by decide +kernel
theorem d11_recovers_23 : decode prog_13_method_57_code 23 = .ok (.iaload, 1) := by decide +kernel
theorem d11_recovers_24 : decode prog_13_method_57_code 24 = .ok (.iconst 1, 1) := by decide +kernel
theorem d11_recovers_25 : decode prog_13_method_57_code 25 = .ok (.iadd, 1) := by decide +kernel
theorem d11_recovers_26 : decode prog_13_method_57_code 26 = .ok (.goto 4, 3) := by decide +kernel
theorem d11_recovers_29 : decode prog_13_method_57_code 29 = .ok (.iconst 0, 1) := by decide +kernel
theorem d11_recovers_30 : decode prog_13_method_57_code 30 = .ok (.iastore, 1) := by decide +kernel
theorem d11_recovers_31 : decode prog_13_method_57_code 31 = .ok (.aload_n 0, 1) := by decide +kernel
theorem d11_recovers_32 : decode prog_13_method_57_code 32 = .ok (.getfield 7, 3) := by decide +kernel
theorem d11_recovers_35 : decode prog_13_method_57_code 35 = .ok (.iload_n 1, 1) := by decide +kernel
theorem d11_recovers_36 : decode prog_13_method_57_code 36 = .ok (.iconst 2, 1) := by decide +kernel
theorem d11_recovers_37 : decode prog_13_method_57_code 37 = .ok (.invokestatic 35, 3) := by decide +kernel
theorem d11_recovers_40 : decode prog_13_method_57_code 40 = .ok (.iaload, 1) := by decide +kernel
theorem d11_recovers_41 : decode prog_13_method_57_code 41 = .ok (.bipush 11, 2) := by decide +kernel
theorem d11_recovers_43 : decode prog_13_method_57_code 43 = .ok (.if_icmp .ne 77, 3) := by decide +kernel
theorem d11_recovers_46 : decode prog_13_method_57_code 46 = .ok (.aload_n 0, 1) := by decide +kernel
theorem d11_recovers_47 : decode prog_13_method_57_code 47 = .ok (.getfield 7, 3) := by decide +kernel
theorem d11_recovers_50 : decode prog_13_method_57_code 50 = .ok (.iload_n 1, 1) := by decide +kernel
theorem d11_recovers_51 : decode prog_13_method_57_code 51 = .ok (.iconst 2, 1) := by decide +kernel
theorem d11_recovers_52 : decode prog_13_method_57_code 52 = .ok (.invokestatic 35, 3) := by decide +kernel
theorem d11_recovers_55 : decode prog_13_method_57_code 55 = .ok (.iconst 0, 1) := by decide +kernel
theorem d11_recovers_56 : decode prog_13_method_57_code 56 = .ok (.iastore, 1) := by decide +kernel
theorem d11_recovers_57 : decode prog_13_method_57_code 57 = .ok (.aload_n 0, 1) := by decide +kernel
theorem d11_recovers_58 : decode prog_13_method_57_code 58 = .ok (.getfield 7, 3) := by decide +kernel
theorem d11_recovers_61 : decode prog_13_method_57_code 61 = .ok (.iload_n 1, 1) := by decide +kernel
theorem d11_recovers_62 : decode prog_13_method_57_code 62 = .ok (.iconst 3, 1) := by decide +kernel
theorem d11_recovers_63 : decode prog_13_method_57_code 63 = .ok (.invokestatic 35, 3) := by decide +kernel
theorem d11_recovers_66 : decode prog_13_method_57_code 66 = .ok (.dup2, 1) := by decide +kernel
theorem d11_recovers_67 : decode prog_13_method_57_code 67 = .ok (.iaload, 1) := by decide +kernel
theorem d11_recovers_68 : decode prog_13_method_57_code 68 = .ok (.iconst 1, 1) := by decide +kernel
theorem d11_recovers_69 : decode prog_13_method_57_code 69 = .ok (.iadd, 1) := by decide +kernel
theorem d11_recovers_70 : decode prog_13_method_57_code 70 = .ok (.iastore, 1) := by decide +kernel
theorem d11_recovers_71 : decode prog_13_method_57_code 71 = .ok (.aload_n 0, 1) := by decide +kernel
theorem d11_recovers_72 : decode prog_13_method_57_code 72 = .ok (.getfield 7, 3) := by decide +kernel
theorem d11_recovers_75 : decode prog_13_method_57_code 75 = .ok (.iload_n 1, 1) := by decide +kernel
theorem d11_recovers_76 : decode prog_13_method_57_code 76 = .ok (.iconst 3, 1) := by decide +kernel
theorem d11_recovers_77 : decode prog_13_method_57_code 77 = .ok (.invokestatic 35, 3) := by decide +kernel
theorem d11_recovers_80 : decode prog_13_method_57_code 80 = .ok (.iaload, 1) := by decide +kernel
theorem d11_recovers_81 : decode prog_13_method_57_code 81 = .ok (.aload_n 0, 1) := by decide +kernel
theorem d11_recovers_82 : decode prog_13_method_57_code 82 = .ok (.getfield 7, 3) := by decide +kernel
theorem d11_recovers_85 : decode prog_13_method_57_code 85 = .ok (.sipush 1027, 3) := by decide +kernel
theorem d11_recovers_88 : decode prog_13_method_57_code 88 = .ok (.iaload, 1) := by decide +kernel
theorem d11_recovers_89 : decode prog_13_method_57_code 89 = .ok (.if_icmp .lt 31, 3) := by decide +kernel
theorem d11_recovers_92 : decode prog_13_method_57_code 92 = .ok (.aload_n 0, 1) := by decide +kernel
theorem d11_recovers_93 : decode prog_13_method_57_code 93 = .ok (.getfield 7, 3) := by decide +kernel
theorem d11_recovers_96 : decode prog_13_method_57_code 96 = .ok (.iload_n 1, 1) := by decide +kernel
theorem d11_recovers_97 : decode prog_13_method_57_code 97 = .ok (.iconst 4, 1) := by decide +kernel
theorem d11_recovers_98 : decode prog_13_method_57_code 98 = .ok (.invokestatic 35, 3) := by decide +kernel
theorem d11_recovers_101 : decode prog_13_method_57_code 101 = .ok (.iconst 0, 1) := by decide +kernel
theorem d11_recovers_102 : decode prog_13_method_57_code 102 = .ok (.iastore, 1) := by decide +kernel
theorem d11_recovers_103 : decode prog_13_method_57_code 103 = .ok (.aload_n 0, 1) := by decide +kernel
theorem d11_recovers_104 : decode prog_13_method_57_code 104 = .ok (.getfield 7, 3) := by decide +kernel
theorem d11_recovers_107 : decode prog_13_method_57_code 107 = .ok (.iload_n 1, 1) := by decide +kernel
theorem d11_recovers_108 : decode prog_13_method_57_code 108 = .ok (.iconst 5, 1) := by decide +kernel
theorem d11_recovers_109 : decode prog_13_method_57_code 109 = .ok (.invokestatic 35, 3) := by decide +kernel
theorem d11_recovers_112 : decode prog_13_method_57_code 112 = .ok (.iconst 0, 1) := by decide +kernel
theorem d11_recovers_113 : decode prog_13_method_57_code 113 = .ok (.iastore, 1) := by decide +kernel
theorem d11_recovers_114 : decode prog_13_method_57_code 114 = .ok (.aload_n 0, 1) := by decide +kernel
theorem d11_recovers_115 : decode prog_13_method_57_code 115 = .ok (.iload_n 1, 1) := by decide +kernel
theorem d11_recovers_116 : decode prog_13_method_57_code 116 = .ok (.iconst 3, 1) := by decide +kernel
theorem d11_recovers_117 : decode prog_13_method_57_code 117 = .ok (.invokevirtual 84, 3) := by decide +kernel
theorem d11_recovers_120 : decode prog_13_method_57_code 120 = .ok (.return_, 1) := by decide +kernel
theorem d11_sentByAll_0 : decode prog_13_method_58_code 0 = .ok (.aload_n 0, 1) := by decide +kernel
theorem d11_sentByAll_1 : decode prog_13_method_58_code 1 = .ok (.getfield 7, 3) := by decide +kernel
theorem d11_sentByAll_4 : decode prog_13_method_58_code 4 = .ok (.iconst 0, 1) := by decide +kernel
theorem d11_sentByAll_5 : decode prog_13_method_58_code 5 = .ok (.bipush 14, 2) := by decide +kernel
theorem d11_sentByAll_7 : decode prog_13_method_58_code 7 = .ok (.invokestatic 35, 3) := by decide +kernel
theorem d11_sentByAll_10 : decode prog_13_method_58_code 10 = .ok (.iaload, 1) := by decide +kernel
theorem d11_sentByAll_11 : decode prog_13_method_58_code 11 = .ok (.aload_n 0, 1) := by decide +kernel
theorem d11_sentByAll_12 : decode prog_13_method_58_code 12 = .ok (.getfield 7, 3) := by decide +kernel
theorem d11_sentByAll_15 : decode prog_13_method_58_code 15 = .ok (.iconst 1, 1) := by decide +kernel
theorem d11_sentByAll_16 : decode prog_13_method_58_code 16 = .ok (.bipush 14, 2) := by decide +kernel
theorem d11_sentByAll_18 : decode prog_13_method_58_code 18 = .ok (.invokestatic 35, 3) := by decide +kernel
theorem d11_sentByAll_21 : decode prog_13_method_58_code 21 = .ok (.iaload, 1) := by decide +kernel
theorem d11_sentByAll_22 : decode prog_13_method_58_code 22 = .ok (.iadd, 1) := by decide +kernel
theorem d11_sentByAll_23 : decode prog_13_method_58_code 23 = .ok (.aload_n 0, 1) := by decide +kernel
theorem d11_sentByAll_24 : decode prog_13_method_58_code 24 = .ok (.getfield 7, 3) := by decide +kernel
theorem d11_sentByAll_27 : decode prog_13_method_58_code 27 = .ok (.iconst 2, 1) := by decide +kernel
theorem d11_sentByAll_28 : decode prog_13_method_58_code 28 = .ok (.bipush 14, 2) := by decide +kernel
theorem d11_sentByAll_30 : decode prog_13_method_58_code 30 = .ok (.invokestatic 35, 3) := by decide +kernel
theorem d11_sentByAll_33 : decode prog_13_method_58_code 33 = .ok (.iaload, 1) := by decide +kernel
theorem d11_sentByAll_34 : decode prog_13_method_58_code 34 = .ok (.iadd, 1) := by decide +kernel
theorem d11_sentByAll_35 : decode prog_13_method_58_code 35 = .ok (.aload_n 0, 1) := by decide +kernel
theorem d11_sentByAll_36 : decode prog_13_method_58_code 36 = .ok (.getfield 7, 3) := by decide +kernel
theorem d11_sentByAll_39 : decode prog_13_method_58_code 39 = .ok (.iconst 3, 1) := by decide +kernel
theorem d11_sentByAll_40 : decode prog_13_method_58_code 40 = .ok (.bipush 14, 2) := by decide +kernel
theorem d11_sentByAll_42 : decode prog_13_method_58_code 42 = .ok (.invokestatic 35, 3) := by decide +kernel
theorem d11_sentByAll_45 : decode prog_13_method_58_code 45 = .ok (.iaload, 1) := by decide +kernel
theorem d11_sentByAll_46 : decode prog_13_method_58_code 46 = .ok (.iadd, 1) := by decide +kernel
theorem d11_sentByAll_47 : decode prog_13_method_58_code 47 = .ok (.ireturn, 1) := by decide +kernel
theorem d11_bit_0 : decode prog_13_method_59_code 0 = .ok (.iconst 1, 1) := by decide +kernel
theorem d11_bit_1 : decode prog_13_method_59_code 1 = .ok (.istore_n 1, 1) := by decide +kernel
theorem d11_bit_2 : decode prog_13_method_59_code 2 = .ok (.iconst 0, 1) := by decide +kernel
theorem d11_bit_3 : decode prog_13_method_59_code 3 = .ok (.istore_n 2, 1) := by decide +kernel
theorem d11_bit_4 : decode prog_13_method_59_code 4 = .ok (.iload_n 2, 1) := by decide +kernel
theorem d11_bit_5 : decode prog_13_method_59_code 5 = .ok (.iconst 4, 1) := by decide +kernel
theorem d11_bit_6 : decode prog_13_method_59_code 6 = .ok (.if_icmp .ge 39, 3) := by decide +kernel
theorem d11_bit_9 : decode prog_13_method_59_code 9 = .ok (.aload_n 0, 1) := by decide +kernel
theorem d11_bit_10 : decode prog_13_method_59_code 10 = .ok (.getfield 7, 3) := by decide +kernel
theorem d11_bit_13 : decode prog_13_method_59_code 13 = .ok (.iload_n 2, 1) := by decide +kernel
theorem d11_bit_14 : decode prog_13_method_59_code 14 = .ok (.bipush 26, 2) := by decide +kernel
theorem d11_bit_16 : decode prog_13_method_59_code 16 = .ok (.invokestatic 35, 3) := by decide +kernel
theorem d11_bit_19 : decode prog_13_method_59_code 19 = .ok (.aload_n 0, 1) := by decide +kernel
theorem d11_bit_20 : decode prog_13_method_59_code 20 = .ok (.iload_n 2, 1) := by decide +kernel
theorem d11_bit_21 : decode prog_13_method_59_code 21 = .ok (.invokevirtual 162, 3) := by decide +kernel
theorem d11_bit_24 : decode prog_13_method_59_code 24 = .ok (.iastore, 1) := by decide +kernel
theorem d11_bit_25 : decode prog_13_method_59_code 25 = .ok (.iload_n 1, 1) := by decide +kernel
theorem d11_bit_26 : decode prog_13_method_59_code 26 = .ok (.aload_n 0, 1) := by decide +kernel
theorem d11_bit_27 : decode prog_13_method_59_code 27 = .ok (.getfield 7, 3) := by decide +kernel
theorem d11_bit_30 : decode prog_13_method_59_code 30 = .ok (.iload_n 2, 1) := by decide +kernel
theorem d11_bit_31 : decode prog_13_method_59_code 31 = .ok (.bipush 26, 2) := by decide +kernel
theorem d11_bit_33 : decode prog_13_method_59_code 33 = .ok (.invokestatic 35, 3) := by decide +kernel
theorem d11_bit_36 : decode prog_13_method_59_code 36 = .ok (.iaload, 1) := by decide +kernel
theorem d11_bit_37 : decode prog_13_method_59_code 37 = .ok (.iand, 1) := by decide +kernel
theorem d11_bit_38 : decode prog_13_method_59_code 38 = .ok (.istore_n 1, 1) := by decide +kernel
theorem d11_bit_39 : decode prog_13_method_59_code 39 = .ok (.iinc 2 1, 3) := by decide +kernel
theorem d11_bit_42 : decode prog_13_method_59_code 42 = .ok (.goto (-38), 3) := by decide +kernel
theorem d11_bit_45 : decode prog_13_method_59_code 45 = .ok (.aload_n 0, 1) := by decide +kernel
theorem d11_bit_46 : decode prog_13_method_59_code 46 = .ok (.invokevirtual 165, 3) := by decide +kernel
theorem d11_bit_49 : decode prog_13_method_59_code 49 = .ok (.istore_n 2, 1) := by decide +kernel
theorem d11_bit_50 : decode prog_13_method_59_code 50 = .ok (.iconst 0, 1) := by decide +kernel
theorem d11_bit_51 : decode prog_13_method_59_code 51 = .ok (.istore_n 3, 1) := by decide +kernel
theorem d11_bit_52 : decode prog_13_method_59_code 52 = .ok (.iload_n 3, 1) := by decide +kernel
theorem d11_bit_53 : decode prog_13_method_59_code 53 = .ok (.iconst 4, 1) := by decide +kernel
theorem d11_bit_54 : decode prog_13_method_59_code 54 = .ok (.if_icmp .ge 21, 3) := by decide +kernel
theorem d11_bit_57 : decode prog_13_method_59_code 57 = .ok (.aload_n 0, 1) := by decide +kernel
theorem d11_bit_58 : decode prog_13_method_59_code 58 = .ok (.iload_n 3, 1) := by decide +kernel
theorem d11_bit_59 : decode prog_13_method_59_code 59 = .ok (.iload_n 1, 1) := by decide +kernel
theorem d11_bit_60 : decode prog_13_method_59_code 60 = .ok (.iload_n 2, 1) := by decide +kernel
theorem d11_bit_61 : decode prog_13_method_59_code 61 = .ok (.iload_n 3, 1) := by decide +kernel
theorem d11_bit_62 : decode prog_13_method_59_code 62 = .ok (.ishr, 1) := by decide +kernel
theorem d11_bit_63 : decode prog_13_method_59_code 63 = .ok (.iconst 1, 1) := by decide +kernel
theorem d11_bit_64 : decode prog_13_method_59_code 64 = .ok (.iand, 1) := by decide +kernel
theorem d11_bit_65 : decode prog_13_method_59_code 65 = .ok (.ixor, 1) := by decide +kernel
theorem d11_bit_66 : decode prog_13_method_59_code 66 = .ok (.invokevirtual 169, 3) := by decide +kernel
theorem d11_bit_69 : decode prog_13_method_59_code 69 = .ok (.iinc 3 1, 3) := by decide +kernel
theorem d11_bit_72 : decode prog_13_method_59_code 72 = .ok (.goto (-20), 3) := by decide +kernel
theorem d11_bit_75 : decode prog_13_method_59_code 75 = .ok (.aload_n 0, 1) := by decide +kernel
theorem d11_bit_76 : decode prog_13_method_59_code 76 = .ok (.getfield 7, 3) := by decide +kernel
theorem d11_bit_79 : decode prog_13_method_59_code 79 = .ok (.sipush 1050, 3) := by decide +kernel
theorem d11_bit_82 : decode prog_13_method_59_code 82 = .ok (.aload_n 0, 1) := by decide +kernel
theorem d11_bit_83 : decode prog_13_method_59_code 83 = .ok (.getfield 7, 3) := by decide +kernel
theorem d11_bit_86 : decode prog_13_method_59_code 86 = .ok (.sipush 1024, 3) := by decide +kernel
theorem d11_bit_89 : decode prog_13_method_59_code 89 = .ok (.iaload, 1) := by decide +kernel
theorem d11_bit_90 : decode prog_13_method_59_code 90 = .ok (.sipush 256, 3) := by decide +kernel
theorem d11_bit_93 : decode prog_13_method_59_code 93 = .ok (.irem, 1) := by decide +kernel
theorem d11_bit_94 : decode prog_13_method_59_code 94 = .ok (.iadd, 1) := by decide +kernel
theorem d11_bit_95 : decode prog_13_method_59_code 95 = .ok (.iload_n 1, 1) := by decide +kernel
theorem d11_bit_96 : decode prog_13_method_59_code 96 = .ok (.iastore, 1) := by decide +kernel
theorem d11_bit_97 : decode prog_13_method_59_code 97 = .ok (.aload_n 0, 1) := by decide +kernel
theorem d11_bit_98 : decode prog_13_method_59_code 98 = .ok (.getfield 7, 3) := by decide +kernel
theorem d11_bit_101 : decode prog_13_method_59_code 101 = .ok (.sipush 1024, 3) := by decide +kernel
theorem d11_bit_104 : decode prog_13_method_59_code 104 = .ok (.dup2, 1) := by decide +kernel
theorem d11_bit_105 : decode prog_13_method_59_code 105 = .ok (.iaload, 1) := by decide +kernel
theorem d11_bit_106 : decode prog_13_method_59_code 106 = .ok (.iconst 1, 1) := by decide +kernel
theorem d11_bit_107 : decode prog_13_method_59_code 107 = .ok (.iadd, 1) := by decide +kernel
theorem d11_bit_108 : decode prog_13_method_59_code 108 = .ok (.iastore, 1) := by decide +kernel
theorem d11_bit_109 : decode prog_13_method_59_code 109 = .ok (.aload_n 0, 1) := by decide +kernel
theorem d11_bit_110 : decode prog_13_method_59_code 110 = .ok (.invokevirtual 172, 3) := by decide +kernel
theorem d11_bit_113 : decode prog_13_method_59_code 113 = .ok (.return_, 1) := by decide +kernel
theorem d11_run_0 : decode prog_13_method_60_code 0 = .ok (.iload_n 1, 1) := by decide +kernel
theorem d11_run_1 : decode prog_13_method_60_code 1 = .ok (.iconst 1, 1) := by decide +kernel
theorem d11_run_2 : decode prog_13_method_60_code 2 = .ok (.sipush 200, 3) := by decide +kernel
theorem d11_run_5 : decode prog_13_method_60_code 5 = .ok (.invokestatic 39, 3) := by decide +kernel
theorem d11_run_8 : decode prog_13_method_60_code 8 = .ok (.ifCond .ne 6, 3) := by decide +kernel
theorem d11_run_11 : decode prog_13_method_60_code 11 = .ok (.bipush (-2), 2) := by decide +kernel
theorem d11_run_13 : decode prog_13_method_60_code 13 = .ok (.ireturn, 1) := by decide +kernel
theorem d11_run_14 : decode prog_13_method_60_code 14 = .ok (.aload_n 0, 1) := by decide +kernel
theorem d11_run_15 : decode prog_13_method_60_code 15 = .ok (.invokevirtual 175, 3) := by decide +kernel
theorem d11_run_18 : decode prog_13_method_60_code 18 = .ok (.istore_n 2, 1) := by decide +kernel
theorem d11_run_19 : decode prog_13_method_60_code 19 = .ok (.iconst 0, 1) := by decide +kernel
theorem d11_run_20 : decode prog_13_method_60_code 20 = .ok (.istore_n 3, 1) := by decide +kernel
theorem d11_run_21 : decode prog_13_method_60_code 21 = .ok (.iload_n 3, 1) := by decide +kernel
theorem d11_run_22 : decode prog_13_method_60_code 22 = .ok (.iload_n 1, 1) := by decide +kernel
theorem d11_run_23 : decode prog_13_method_60_code 23 = .ok (.if_icmp .ge 13, 3) := by decide +kernel
theorem d11_run_26 : decode prog_13_method_60_code 26 = .ok (.aload_n 0, 1) := by decide +kernel
theorem d11_run_27 : decode prog_13_method_60_code 27 = .ok (.invokevirtual 178, 3) := by decide +kernel
theorem d11_run_30 : decode prog_13_method_60_code 30 = .ok (.iinc 3 1, 3) := by decide +kernel
theorem d11_run_33 : decode prog_13_method_60_code 33 = .ok (.goto (-12), 3) := by decide +kernel
theorem d11_run_36 : decode prog_13_method_60_code 36 = .ok (.aload_n 0, 1) := by decide +kernel
theorem d11_run_37 : decode prog_13_method_60_code 37 = .ok (.invokevirtual 175, 3) := by decide +kernel
theorem d11_run_40 : decode prog_13_method_60_code 40 = .ok (.iload_n 2, 1) := by decide +kernel
theorem d11_run_41 : decode prog_13_method_60_code 41 = .ok (.isub, 1) := by decide +kernel
theorem d11_run_42 : decode prog_13_method_60_code 42 = .ok (.ireturn, 1) := by decide +kernel
theorem d11_isSettled_0 : decode prog_13_method_61_code 0 = .ok (.iconst 1, 1) := by decide +kernel
theorem d11_isSettled_1 : decode prog_13_method_61_code 1 = .ok (.istore_n 1, 1) := by decide +kernel
theorem d11_isSettled_2 : decode prog_13_method_61_code 2 = .ok (.iconst 0, 1) := by decide +kernel
theorem d11_isSettled_3 : decode prog_13_method_61_code 3 = .ok (.istore_n 2, 1) := by decide +kernel
theorem d11_isSettled_4 : decode prog_13_method_61_code 4 = .ok (.iload_n 2, 1) := by decide +kernel
theorem d11_isSettled_5 : decode prog_13_method_61_code 5 = .ok (.iconst 4, 1) := by decide +kernel
theorem d11_isSettled_6 : decode prog_13_method_61_code 6 = .ok (.if_icmp .ge 58, 3) := by decide +kernel
theorem d11_isSettled_9 : decode prog_13_method_61_code 9 = .ok (.aload_n 0, 1) := by decide +kernel
theorem d11_isSettled_10 : decode prog_13_method_61_code 10 = .ok (.getfield 7, 3) := by decide +kernel
theorem d11_isSettled_13 : decode prog_13_method_61_code 13 = .ok (.iload_n 2, 1) := by decide +kernel
theorem d11_isSettled_14 : decode prog_13_method_61_code 14 = .ok (.iconst 0, 1) := by decide +kernel
theorem d11_isSettled_15 : decode prog_13_method_61_code 15 = .ok (.invokestatic 35, 3) := by decide +kernel
theorem d11_isSettled_18 : decode prog_13_method_61_code 18 = .ok (.iaload, 1) := by decide +kernel
theorem d11_isSettled_19 : decode prog_13_method_61_code 19 = .ok (.istore_n 3, 1) := by decide +kernel
theorem d11_isSettled_20 : decode prog_13_method_61_code 20 = .ok (.iload_n 1, 1) := by decide +kernel
theorem d11_isSettled_21 : decode prog_13_method_61_code 21 = .ok (.ifCond .eq 35, 3) := by decide +kernel
theorem d11_isSettled_24 : decode prog_13_method_61_code 24 = .ok (.iload_n 3, 1) := by decide +kernel
theorem d11_isSettled_25 : decode prog_13_method_61_code 25 = .ok (.ifCond .eq 27, 3) := by decide +kernel
theorem d11_isSettled_28 : decode prog_13_method_61_code 28 = .ok (.iload_n 3, 1) := by decide +kernel
theorem d11_isSettled_29 : decode prog_13_method_61_code 29 = .ok (.iconst 1, 1) := by decide +kernel
theorem d11_isSettled_30 : decode prog_13_method_61_code 30 = .ok (.if_icmp .eq 22, 3) := by decide +kernel
theorem d11_isSettled_33 : decode prog_13_method_61_code 33 = .ok (.iload_n 3, 1) := by decide +kernel
theorem d11_isSettled_34 : decode prog_13_method_61_code 34 = .ok (.iconst 3, 1) := by decide +kernel
theorem d11_isSettled_35 : decode prog_13_method_61_code 35 = .ok (.if_icmp .ne 21, 3) := by decide +kernel
theorem d11_isSettled_38 : decode prog_13_method_61_code 38 = .ok (.aload_n 0, 1) := by decide +kernel
theorem d11_isSettled_39 : decode prog_13_method_61_code 39 = .ok (.getfield 7, 3) := by decide +kernel
theorem d11_isSettled_42 : decode prog_13_method_61_code 42 = .ok (.iload_n 2, 1) := by decide +kernel
theorem d11_isSettled_43 : decode prog_13_method_61_code 43 = .ok (.bipush 23, 2) := by decide +kernel
theorem d11_isSettled_45 : decode prog_13_method_61_code 45 = .ok (.invokestatic 35, 3) := by decide +kernel
theorem d11_isSettled_48 : decode prog_13_method_61_code 48 = .ok (.iaload, 1) := by decide +kernel
theorem d11_isSettled_49 : decode prog_13_method_61_code 49 = .ok (.ifCond .ne 7, 3) := by decide +kernel
theorem d11_isSettled_52 : decode prog_13_method_61_code 52 = .ok (.iconst 1, 1) := by decide +kernel
theorem d11_isSettled_53 : decode prog_13_method_61_code 53 = .ok (.goto 4, 3) := by decide +kernel
theorem d11_isSettled_56 : decode prog_13_method_61_code 56 = .ok (.iconst 0, 1) := by decide +kernel
theorem d11_isSettled_57 : decode prog_13_method_61_code 57 = .ok (.istore_n 1, 1) := by decide +kernel
theorem d11_isSettled_58 : decode prog_13_method_61_code 58 = .ok (.iinc 2 1, 3) := by decide +kernel
theorem d11_isSettled_61 : decode prog_13_method_61_code 61 = .ok (.goto (-57), 3) := by decide +kernel
theorem d11_isSettled_64 : decode prog_13_method_61_code 64 = .ok (.iload_n 1, 1) := by decide +kernel
theorem d11_isSettled_65 : decode prog_13_method_61_code 65 = .ok (.ireturn, 1) := by decide +kernel
theorem d11_settle_0 : decode prog_13_method_62_code 0 = .ok (.iconst 0, 1) := by decide +kernel
theorem d11_settle_1 : decode prog_13_method_62_code 1 = .ok (.istore_n 1, 1) := by decide +kernel
theorem d11_settle_2 : decode prog_13_method_62_code 2 = .ok (.iload_n 1, 1) := by decide +kernel
theorem d11_settle_3 : decode prog_13_method_62_code 3 = .ok (.sipush 1000, 3) := by decide +kernel
theorem d11_settle_6 : decode prog_13_method_62_code 6 = .ok (.if_icmp .ge 20, 3) := by decide +kernel
theorem d11_settle_9 : decode prog_13_method_62_code 9 = .ok (.aload_n 0, 1) := by decide +kernel
theorem d11_settle_10 : decode prog_13_method_62_code 10 = .ok (.invokevirtual 181, 3) := by decide +kernel
theorem d11_settle_13 : decode prog_13_method_62_code 13 = .ok (.ifCond .ne 13, 3) := by decide +kernel
theorem d11_settle_16 : decode prog_13_method_62_code 16 = .ok (.aload_n 0, 1) := by decide +kernel
theorem d11_settle_17 : decode prog_13_method_62_code 17 = .ok (.invokevirtual 178, 3) := by decide +kernel
theorem d11_settle_20 : decode prog_13_method_62_code 20 = .ok (.iinc 1 1, 3) := by decide +kernel
theorem d11_settle_23 : decode prog_13_method_62_code 23 = .ok (.goto (-21), 3) := by decide +kernel
theorem d11_settle_26 : decode prog_13_method_62_code 26 = .ok (.aload_n 0, 1) := by decide +kernel
theorem d11_settle_27 : decode prog_13_method_62_code 27 = .ok (.invokevirtual 181, 3) := by decide +kernel
theorem d11_settle_30 : decode prog_13_method_62_code 30 = .ok (.ifCond .eq 7, 3) := by decide +kernel
theorem d11_settle_33 : decode prog_13_method_62_code 33 = .ok (.iload_n 1, 1) := by decide +kernel
theorem d11_settle_34 : decode prog_13_method_62_code 34 = .ok (.goto 5, 3) := by decide +kernel
theorem d11_settle_37 : decode prog_13_method_62_code 37 = .ok (.bipush (-5), 2) := by decide +kernel
theorem d11_settle_39 : decode prog_13_method_62_code 39 = .ok (.ireturn, 1) := by decide +kernel
theorem d11_of_0 : decode prog_13_method_63_code 0 = .ok (.iload_n 1, 1) := by decide +kernel
theorem d11_of_1 : decode prog_13_method_63_code 1 = .ok (.invokestatic 66, 3) := by decide +kernel
theorem d11_of_4 : decode prog_13_method_63_code 4 = .ok (.ifCond .eq 16, 3) := by decide +kernel
theorem d11_of_7 : decode prog_13_method_63_code 7 = .ok (.aload_n 0, 1) := by decide +kernel
theorem d11_of_8 : decode prog_13_method_63_code 8 = .ok (.getfield 7, 3) := by decide +kernel
theorem d11_of_11 : decode prog_13_method_63_code 11 = .ok (.iload_n 1, 1) := by decide +kernel
theorem d11_of_12 : decode prog_13_method_63_code 12 = .ok (.iload_n 2, 1) := by decide +kernel
theorem d11_of_13 : decode prog_13_method_63_code 13 = .ok (.invokestatic 35, 3) := by decide +kernel
theorem d11_of_16 : decode prog_13_method_63_code 16 = .ok (.iaload, 1) := by decide +kernel
theorem d11_of_17 : decode prog_13_method_63_code 17 = .ok (.goto 4, 3) := by decide +kernel
theorem d11_of_20 : decode prog_13_method_63_code 20 = .ok (.iconst (-1), 1) := by decide +kernel
theorem d11_of_21 : decode prog_13_method_63_code 21 = .ok (.ireturn, 1) := by decide +kernel
theorem d11_phase_0 : decode prog_13_method_64_code 0 = .ok (.aload_n 0, 1) := by decide +kernel
theorem d11_phase_1 : decode prog_13_method_64_code 1 = .ok (.iload_n 1, 1) := by decide +kernel
theorem d11_phase_2 : decode prog_13_method_64_code 2 = .ok (.iconst 0, 1) := by decide +kernel
theorem d11_phase_3 : decode prog_13_method_64_code 3 = .ok (.invokevirtual 185, 3) := by decide +kernel
theorem d11_phase_6 : decode prog_13_method_64_code 6 = .ok (.ireturn, 1) := by decide +kernel
theorem d11_isTransmitter_0 : decode prog_13_method_65_code 0 = .ok (.aload_n 0, 1) := by decide +kernel
theorem d11_isTransmitter_1 : decode prog_13_method_65_code 1 = .ok (.iload_n 1, 1) := by decide +kernel
theorem d11_isTransmitter_2 : decode prog_13_method_65_code 2 = .ok (.iconst 1, 1) := by decide +kernel
theorem d11_isTransmitter_3 : decode prog_13_method_65_code 3 = .ok (.invokevirtual 185, 3) := by decide +kernel
theorem d11_isTransmitter_6 : decode prog_13_method_65_code 6 = .ok (.ireturn, 1) := by decide +kernel
theorem d11_transmitErrors_0 : decode prog_13_method_66_code 0 = .ok (.aload_n 0, 1) := by decide +kernel
theorem d11_transmitErrors_1 : decode prog_13_method_66_code 1 = .ok (.iload_n 1, 1) := by decide +kernel
theorem d11_transmitErrors_2 : decode prog_13_method_66_code 2 = .ok (.iconst 4, 1) := by decide +kernel
theorem d11_transmitErrors_3 : decode prog_13_method_66_code 3 = .ok (.invokevirtual 185, 3) := by decide +kernel
theorem d11_transmitErrors_6 : decode prog_13_method_66_code 6 = .ok (.ireturn, 1) := by decide +kernel
theorem d11_receiveErrors_0 : decode prog_13_method_67_code 0 = .ok (.aload_n 0, 1) := by decide +kernel
theorem d11_receiveErrors_1 : decode prog_13_method_67_code 1 = .ok (.iload_n 1, 1) := by decide +kernel
theorem d11_receiveErrors_2 : decode prog_13_method_67_code 2 = .ok (.iconst 5, 1) := by decide +kernel
theorem d11_receiveErrors_3 : decode prog_13_method_67_code 3 = .ok (.invokevirtual 185, 3) := by decide +kernel
theorem d11_receiveErrors_6 : decode prog_13_method_67_code 6 = .ok (.ireturn, 1) := by decide +kernel
theorem d11_isPassive_0 : decode prog_13_method_68_code 0 = .ok (.iload_n 1, 1) := by decide +kernel
theorem d11_isPassive_1 : decode prog_13_method_68_code 1 = .ok (.invokestatic 66, 3) := by decide +kernel
theorem d11_isPassive_4 : decode prog_13_method_68_code 4 = .ok (.ifCond .ne 7, 3) := by decide +kernel
theorem d11_isPassive_7 : decode prog_13_method_68_code 7 = .ok (.iconst (-1), 1) := by decide +kernel
theorem d11_isPassive_8 : decode prog_13_method_68_code 8 = .ok (.goto 16, 3) := by decide +kernel
theorem d11_isPassive_11 : decode prog_13_method_68_code 11 = .ok (.aload_n 0, 1) := by decide +kernel
theorem d11_isPassive_12 : decode prog_13_method_68_code 12 = .ok (.iload_n 1, 1) := by decide +kernel
theorem d11_isPassive_13 : decode prog_13_method_68_code 13 = .ok (.invokevirtual 119, 3) := by decide +kernel
theorem d11_isPassive_16 : decode prog_13_method_68_code 16 = .ok (.ifCond .eq 7, 3) := by decide +kernel
theorem d11_isPassive_19 : decode prog_13_method_68_code 19 = .ok (.iconst 1, 1) := by decide +kernel
theorem d11_isPassive_20 : decode prog_13_method_68_code 20 = .ok (.goto 4, 3) := by decide +kernel
theorem d11_isPassive_23 : decode prog_13_method_68_code 23 = .ok (.iconst 0, 1) := by decide +kernel
theorem d11_isPassive_24 : decode prog_13_method_68_code 24 = .ok (.ireturn, 1) := by decide +kernel
theorem d11_errors_0 : decode prog_13_method_69_code 0 = .ok (.iload_n 1, 1) := by decide +kernel
theorem d11_errors_1 : decode prog_13_method_69_code 1 = .ok (.invokestatic 66, 3) := by decide +kernel
theorem d11_errors_4 : decode prog_13_method_69_code 4 = .ok (.ifCond .ne 5, 3) := by decide +kernel
theorem d11_errors_7 : decode prog_13_method_69_code 7 = .ok (.iconst (-1), 1) := by decide +kernel
theorem d11_errors_8 : decode prog_13_method_69_code 8 = .ok (.ireturn, 1) := by decide +kernel
theorem d11_errors_9 : decode prog_13_method_69_code 9 = .ok (.iload_n 2, 1) := by decide +kernel
theorem d11_errors_10 : decode prog_13_method_69_code 10 = .ok (.iconst 1, 1) := by decide +kernel
theorem d11_errors_11 : decode prog_13_method_69_code 11 = .ok (.iconst 5, 1) := by decide +kernel
theorem d11_errors_12 : decode prog_13_method_69_code 12 = .ok (.invokestatic 39, 3) := by decide +kernel
theorem d11_errors_15 : decode prog_13_method_69_code 15 = .ok (.ifCond .eq 18, 3) := by decide +kernel
theorem d11_errors_18 : decode prog_13_method_69_code 18 = .ok (.aload_n 0, 1) := by decide +kernel
theorem d11_errors_19 : decode prog_13_method_69_code 19 = .ok (.getfield 7, 3) := by decide +kernel
theorem d11_errors_22 : decode prog_13_method_69_code 22 = .ok (.iload_n 1, 1) := by decide +kernel
theorem d11_errors_23 : decode prog_13_method_69_code 23 = .ok (.iconst 5, 1) := by decide +kernel
theorem d11_errors_24 : decode prog_13_method_69_code 24 = .ok (.iload_n 2, 1) := by decide +kernel
theorem d11_errors_25 : decode prog_13_method_69_code 25 = .ok (.iadd, 1) := by decide +kernel
theorem d11_errors_26 : decode prog_13_method_69_code 26 = .ok (.invokestatic 35, 3) := by decide +kernel
theorem d11_errors_29 : decode prog_13_method_69_code 29 = .ok (.iaload, 1) := by decide +kernel
theorem d11_errors_30 : decode prog_13_method_69_code 30 = .ok (.goto 5, 3) := by decide +kernel
theorem d11_errors_33 : decode prog_13_method_69_code 33 = .ok (.bipush (-2), 2) := by decide +kernel
theorem d11_errors_35 : decode prog_13_method_69_code 35 = .ok (.ireturn, 1) := by decide +kernel
theorem d11_lastOf_0 : decode prog_13_method_70_code 0 = .ok (.aload_n 0, 1) := by decide +kernel
theorem d11_lastOf_1 : decode prog_13_method_70_code 1 = .ok (.getfield 7, 3) := by decide +kernel
theorem d11_lastOf_4 : decode prog_13_method_70_code 4 = .ok (.iload_n 1, 1) := by decide +kernel
theorem d11_lastOf_5 : decode prog_13_method_70_code 5 = .ok (.bipush 11, 2) := by decide +kernel
theorem d11_lastOf_7 : decode prog_13_method_70_code 7 = .ok (.invokestatic 35, 3) := by decide +kernel
theorem d11_lastOf_10 : decode prog_13_method_70_code 10 = .ok (.iaload, 1) := by decide +kernel
theorem d11_lastOf_11 : decode prog_13_method_70_code 11 = .ok (.ifCond .ne 8, 3) := by decide +kernel
theorem d11_lastOf_14 : decode prog_13_method_70_code 14 = .ok (.bipush (-5), 2) := by decide +kernel
theorem d11_lastOf_16 : decode prog_13_method_70_code 16 = .ok (.goto 14, 3) := by decide +kernel
theorem d11_lastOf_19 : decode prog_13_method_70_code 19 = .ok (.aload_n 0, 1) := by decide +kernel
theorem d11_lastOf_20 : decode prog_13_method_70_code 20 = .ok (.getfield 7, 3) := by decide +kernel
theorem d11_lastOf_23 : decode prog_13_method_70_code 23 = .ok (.iload_n 1, 1) := by decide +kernel
theorem d11_lastOf_24 : decode prog_13_method_70_code 24 = .ok (.bipush 11, 2) := by decide +kernel
theorem d11_lastOf_26 : decode prog_13_method_70_code 26 = .ok (.invokestatic 35, 3) := by decide +kernel
theorem d11_lastOf_29 : decode prog_13_method_70_code 29 = .ok (.iaload, 1) := by decide +kernel
theorem d11_lastOf_30 : decode prog_13_method_70_code 30 = .ok (.ireturn, 1) := by decide +kernel
theorem d11_lastError_0 : decode prog_13_method_71_code 0 = .ok (.iload_n 1, 1) := by decide +kernel
theorem d11_lastError_1 : decode prog_13_method_71_code 1 = .ok (.invokestatic 66, 3) := by decide +kernel
theorem d11_lastError_4 : decode prog_13_method_71_code 4 = .ok (.ifCond .eq 11, 3) := by decide +kernel
theorem d11_lastError_7 : decode prog_13_method_71_code 7 = .ok (.aload_n 0, 1) := by decide +kernel
theorem d11_lastError_8 : decode prog_13_method_71_code 8 = .ok (.iload_n 1, 1) := by decide +kernel
theorem d11_lastError_9 : decode prog_13_method_71_code 9 = .ok (.invokevirtual 188, 3) := by decide +kernel
theorem d11_lastError_12 : decode prog_13_method_71_code 12 = .ok (.goto 4, 3) := by decide +kernel
theorem d11_lastError_15 : decode prog_13_method_71_code 15 = .ok (.iconst (-1), 1) := by decide +kernel
theorem d11_lastError_16 : decode prog_13_method_71_code 16 = .ok (.ireturn, 1) := by decide +kernel
theorem d11_lostArbitrations_0 : decode prog_13_method_72_code 0 = .ok (.aload_n 0, 1) := by decide +kernel
theorem d11_lostArbitrations_1 : decode prog_13_method_72_code 1 = .ok (.iload_n 1, 1) := by decide +kernel
theorem d11_lostArbitrations_2 : decode prog_13_method_72_code 2 = .ok (.bipush 12, 2) := by decide +kernel
theorem d11_lostArbitrations_4 : decode prog_13_method_72_code 4 = .ok (.invokevirtual 185, 3) := by decide +kernel
theorem d11_lostArbitrations_7 : decode prog_13_method_72_code 7 = .ok (.ireturn, 1) := by decide +kernel
theorem d11_overloads_0 : decode prog_13_method_73_code 0 = .ok (.aload_n 0, 1) := by decide +kernel
theorem d11_overloads_1 : decode prog_13_method_73_code 1 = .ok (.iload_n 1, 1) := by decide +kernel
theorem d11_overloads_2 : decode prog_13_method_73_code 2 = .ok (.bipush 13, 2) := by decide +kernel
theorem d11_overloads_4 : decode prog_13_method_73_code 4 = .ok (.invokevirtual 185, 3) := by decide +kernel
theorem d11_overloads_7 : decode prog_13_method_73_code 7 = .ok (.ireturn, 1) := by decide +kernel
theorem d11_sent_0 : decode prog_13_method_74_code 0 = .ok (.aload_n 0, 1) := by decide +kernel
theorem d11_sent_1 : decode prog_13_method_74_code 1 = .ok (.iload_n 1, 1) := by decide +kernel
theorem d11_sent_2 : decode prog_13_method_74_code 2 = .ok (.bipush 14, 2) := by decide +kernel
theorem d11_sent_4 : decode prog_13_method_74_code 4 = .ok (.invokevirtual 185, 3) := by decide +kernel
theorem d11_sent_7 : decode prog_13_method_74_code 7 = .ok (.ireturn, 1) := by decide +kernel
theorem d11_overruns_0 : decode prog_13_method_75_code 0 = .ok (.aload_n 0, 1) := by decide +kernel
theorem d11_overruns_1 : decode prog_13_method_75_code 1 = .ok (.iload_n 1, 1) := by decide +kernel
theorem d11_overruns_2 : decode prog_13_method_75_code 2 = .ok (.bipush 15, 2) := by decide +kernel
theorem d11_overruns_4 : decode prog_13_method_75_code 4 = .ok (.invokevirtual 185, 3) := by decide +kernel
theorem d11_overruns_7 : decode prog_13_method_75_code 7 = .ok (.ireturn, 1) := by decide +kernel
theorem d11_waiting_0 : decode prog_13_method_76_code 0 = .ok (.aload_n 0, 1) := by decide +kernel
theorem d11_waiting_1 : decode prog_13_method_76_code 1 = .ok (.iload_n 1, 1) := by decide +kernel
theorem d11_waiting_2 : decode prog_13_method_76_code 2 = .ok (.bipush 23, 2) := by decide +kernel
theorem d11_waiting_4 : decode prog_13_method_76_code 4 = .ok (.invokevirtual 185, 3) := by decide +kernel
theorem d11_waiting_7 : decode prog_13_method_76_code 7 = .ok (.ireturn, 1) := by decide +kernel
theorem d11_keyOf_0 : decode prog_13_method_77_code 0 = .ok (.iconst 2, 1) := by decide +kernel
theorem d11_keyOf_1 : decode prog_13_method_77_code 1 = .ok (.aload_n 0, 1) := by decide +kernel
theorem d11_keyOf_2 : decode prog_13_method_77_code 2 = .ok (.getfield 7, 3) := by decide +kernel
theorem d11_keyOf_5 : decode prog_13_method_77_code 5 = .ok (.iload_n 1, 1) := by decide +kernel
theorem d11_keyOf_6 : decode prog_13_method_77_code 6 = .ok (.iload_n 2, 1) := by decide +kernel
theorem d11_keyOf_7 : decode prog_13_method_77_code 7 = .ok (.iconst 0, 1) := by decide +kernel
theorem d11_keyOf_8 : decode prog_13_method_77_code 8 = .ok (.invokestatic 81, 3) := by decide +kernel
theorem d11_keyOf_11 : decode prog_13_method_77_code 11 = .ok (.iaload, 1) := by decide +kernel
theorem d11_keyOf_12 : decode prog_13_method_77_code 12 = .ok (.imul, 1) := by decide +kernel
theorem d11_keyOf_13 : decode prog_13_method_77_code 13 = .ok (.aload_n 0, 1) := by decide +kernel
theorem d11_keyOf_14 : decode prog_13_method_77_code 14 = .ok (.getfield 7, 3) := by decide +kernel
theorem d11_keyOf_17 : decode prog_13_method_77_code 17 = .ok (.iload_n 1, 1) := by decide +kernel
theorem d11_keyOf_18 : decode prog_13_method_77_code 18 = .ok (.iload_n 2, 1) := by decide +kernel
theorem d11_keyOf_19 : decode prog_13_method_77_code 19 = .ok (.iconst 1, 1) := by decide +kernel
theorem d11_keyOf_20 : decode prog_13_method_77_code 20 = .ok (.invokestatic 81, 3) := by decide +kernel
theorem d11_keyOf_23 : decode prog_13_method_77_code 23 = .ok (.iaload, 1) := by decide +kernel
theorem d11_keyOf_24 : decode prog_13_method_77_code 24 = .ok (.iadd, 1) := by decide +kernel
theorem d11_keyOf_25 : decode prog_13_method_77_code 25 = .ok (.ireturn, 1) := by decide +kernel
theorem d11_waitingFrame_0 : decode prog_13_method_78_code 0 = .ok (.iload_n 1, 1) := by decide +kernel
theorem d11_waitingFrame_1 : decode prog_13_method_78_code 1 = .ok (.invokestatic 66, 3) := by decide +kernel
theorem d11_waitingFrame_4 : decode prog_13_method_78_code 4 = .ok (.ifCond .ne 5, 3) := by decide +kernel
theorem d11_waitingFrame_7 : decode prog_13_method_78_code 7 = .ok (.iconst (-1), 1) := by decide +kernel
theorem d11_waitingFrame_8 : decode prog_13_method_78_code 8 = .ok (.ireturn, 1) := by decide +kernel
theorem d11_waitingFrame_9 : decode prog_13_method_78_code 9 = .ok (.iload_n 2, 1) := by decide +kernel
theorem d11_waitingFrame_10 : decode prog_13_method_78_code 10 = .ok (.iconst 0, 1) := by decide +kernel
theorem d11_waitingFrame_11 : decode prog_13_method_78_code 11 = .ok (.aload_n 0, 1) := by decide +kernel
theorem d11_waitingFrame_12 : decode prog_13_method_78_code 12 = .ok (.getfield 7, 3) := by decide +kernel
theorem d11_waitingFrame_15 : decode prog_13_method_78_code 15 = .ok (.iload_n 1, 1) := by decide +kernel
theorem d11_waitingFrame_16 : decode prog_13_method_78_code 16 = .ok (.bipush 23, 2) := by decide +kernel
theorem d11_waitingFrame_18 : decode prog_13_method_78_code 18 = .ok (.invokestatic 35, 3) := by decide +kernel
theorem d11_waitingFrame_21 : decode prog_13_method_78_code 21 = .ok (.iaload, 1) := by decide +kernel
theorem d11_waitingFrame_22 : decode prog_13_method_78_code 22 = .ok (.iconst 1, 1) := by decide +kernel
theorem d11_waitingFrame_23 : decode prog_13_method_78_code 23 = .ok (.isub, 1) := by decide +kernel
theorem d11_waitingFrame_24 : decode prog_13_method_78_code 24 = .ok (.invokestatic 39, 3) := by decide +kernel
theorem d11_waitingFrame_27 : decode prog_13_method_78_code 27 = .ok (.ifCond .eq 12, 3) := by decide +kernel
theorem d11_waitingFrame_30 : decode prog_13_method_78_code 30 = .ok (.aload_n 0, 1) := by decide +kernel
theorem d11_waitingFrame_31 : decode prog_13_method_78_code 31 = .ok (.iload_n 1, 1) := by decide +kernel
theorem d11_waitingFrame_32 : decode prog_13_method_78_code 32 = .ok (.iload_n 2, 1) := by decide +kernel
theorem d11_waitingFrame_33 : decode prog_13_method_78_code 33 = .ok (.invokevirtual 191, 3) := by decide +kernel
theorem d11_waitingFrame_36 : decode prog_13_method_78_code 36 = .ok (.goto 5, 3) := by decide +kernel
theorem d11_waitingFrame_39 : decode prog_13_method_78_code 39 = .ok (.bipush (-5), 2) := by decide +kernel
theorem d11_waitingFrame_41 : decode prog_13_method_78_code 41 = .ok (.ireturn, 1) := by decide +kernel
theorem d11_received_0 : decode prog_13_method_79_code 0 = .ok (.aload_n 0, 1) := by decide +kernel
theorem d11_received_1 : decode prog_13_method_79_code 1 = .ok (.iload_n 1, 1) := by decide +kernel
theorem d11_received_2 : decode prog_13_method_79_code 2 = .ok (.bipush 24, 2) := by decide +kernel
theorem d11_received_4 : decode prog_13_method_79_code 4 = .ok (.invokevirtual 185, 3) := by decide +kernel
theorem d11_received_7 : decode prog_13_method_79_code 7 = .ok (.ireturn, 1) := by decide +kernel
theorem d11_isGot_0 : decode prog_13_method_80_code 0 = .ok (.iload_n 2, 1) := by decide +kernel
theorem d11_isGot_1 : decode prog_13_method_80_code 1 = .ok (.iconst 0, 1) := by decide +kernel
theorem d11_isGot_2 : decode prog_13_method_80_code 2 = .ok (.aload_n 0, 1) := by decide +kernel
theorem d11_isGot_3 : decode prog_13_method_80_code 3 = .ok (.getfield 7, 3) := by decide +kernel
theorem d11_isGot_6 : decode prog_13_method_80_code 6 = .ok (.iload_n 1, 1) := by decide +kernel
theorem d11_isGot_7 : decode prog_13_method_80_code 7 = .ok (.bipush 24, 2) := by decide +kernel
theorem d11_isGot_9 : decode prog_13_method_80_code 9 = .ok (.invokestatic 35, 3) := by decide +kernel
theorem d11_isGot_12 : decode prog_13_method_80_code 12 = .ok (.iaload, 1) := by decide +kernel
theorem d11_isGot_13 : decode prog_13_method_80_code 13 = .ok (.iconst 1, 1) := by decide +kernel
theorem d11_isGot_14 : decode prog_13_method_80_code 14 = .ok (.isub, 1) := by decide +kernel
theorem d11_isGot_15 : decode prog_13_method_80_code 15 = .ok (.invokestatic 39, 3) := by decide +kernel
theorem d11_isGot_18 : decode prog_13_method_80_code 18 = .ok (.ireturn, 1) := by decide +kernel
theorem d11_gotKey_0 : decode prog_13_method_81_code 0 = .ok (.iconst 2, 1) := by decide +kernel
theorem d11_gotKey_1 : decode prog_13_method_81_code 1 = .ok (.aload_n 0, 1) := by decide +kernel
theorem d11_gotKey_2 : decode prog_13_method_81_code 2 = .ok (.getfield 7, 3) := by decide +kernel
theorem d11_gotKey_5 : decode prog_13_method_81_code 5 = .ok (.iload_n 1, 1) := by decide +kernel
theorem d11_gotKey_6 : decode prog_13_method_81_code 6 = .ok (.iload_n 2, 1) := by decide +kernel
theorem d11_gotKey_7 : decode prog_13_method_81_code 7 = .ok (.iconst 0, 1) := by decide +kernel
theorem d11_gotKey_8 : decode prog_13_method_81_code 8 = .ok (.invokestatic 159, 3) := by decide +kernel
theorem d11_gotKey_11 : decode prog_13_method_81_code 11 = .ok (.iaload, 1) := by decide +kernel
theorem d11_gotKey_12 : decode prog_13_method_81_code 12 = .ok (.imul, 1) := by decide +kernel
theorem d11_gotKey_13 : decode prog_13_method_81_code 13 = .ok (.aload_n 0, 1) := by decide +kernel
theorem d11_gotKey_14 : decode prog_13_method_81_code 14 = .ok (.getfield 7, 3) := by decide +kernel
theorem d11_gotKey_17 : decode prog_13_method_81_code 17 = .ok (.iload_n 1, 1) := by decide +kernel
theorem d11_gotKey_18 : decode prog_13_method_81_code 18 = .ok (.iload_n 2, 1) := by decide +kernel
theorem d11_gotKey_19 : decode prog_13_method_81_code 19 = .ok (.iconst 1, 1) := by decide +kernel
theorem d11_gotKey_20 : decode prog_13_method_81_code 20 = .ok (.invokestatic 159, 3) := by decide +kernel
theorem d11_gotKey_23 : decode prog_13_method_81_code 23 = .ok (.iaload, 1) := by decide +kernel
theorem d11_gotKey_24 : decode prog_13_method_81_code 24 = .ok (.iadd, 1) := by decide +kernel
theorem d11_gotKey_25 : decode prog_13_method_81_code 25 = .ok (.ireturn, 1) := by decide +kernel
theorem d11_receivedFrame_0 : decode prog_13_method_82_code 0 = .ok (.iload_n 1, 1) := by decide +kernel
theorem d11_receivedFrame_1 : decode prog_13_method_82_code 1 = .ok (.invokestatic 66, 3) := by decide +kernel
theorem d11_receivedFrame_4 : decode prog_13_method_82_code 4 = .ok (.ifCond .ne 5, 3) := by decide +kernel
theorem d11_receivedFrame_7 : decode prog_13_method_82_code 7 = .ok (.iconst (-1), 1) := by decide +kernel
theorem d11_receivedFrame_8 : decode prog_13_method_82_code 8 = .ok (.ireturn, 1) := by decide +kernel
theorem d11_receivedFrame_9 : decode prog_13_method_82_code 9 = .ok (.aload_n 0, 1) := by decide +kernel
theorem d11_receivedFrame_10 : decode prog_13_method_82_code 10 = .ok (.iload_n 1, 1) := by decide +kernel
theorem d11_receivedFrame_11 : decode prog_13_method_82_code 11 = .ok (.iload_n 2, 1) := by decide +kernel
theorem d11_receivedFrame_12 : decode prog_13_method_82_code 12 = .ok (.invokevirtual 194, 3) := by decide +kernel
theorem d11_receivedFrame_15 : decode prog_13_method_82_code 15 = .ok (.ifCond .eq 12, 3) := by decide +kernel
theorem d11_receivedFrame_18 : decode prog_13_method_82_code 18 = .ok (.aload_n 0, 1) := by decide +kernel
theorem d11_receivedFrame_19 : decode prog_13_method_82_code 19 = .ok (.iload_n 1, 1) := by decide +kernel
theorem d11_receivedFrame_20 : decode prog_13_method_82_code 20 = .ok (.iload_n 2, 1) := by decide +kernel
theorem d11_receivedFrame_21 : decode prog_13_method_82_code 21 = .ok (.invokevirtual 198, 3) := by decide +kernel
theorem d11_receivedFrame_24 : decode prog_13_method_82_code 24 = .ok (.goto 5, 3) := by decide +kernel
theorem d11_receivedFrame_27 : decode prog_13_method_82_code 27 = .ok (.bipush (-5), 2) := by decide +kernel
theorem d11_receivedFrame_29 : decode prog_13_method_82_code 29 = .ok (.ireturn, 1) := by decide +kernel
theorem d11_receivedLength_0 : decode prog_13_method_83_code 0 = .ok (.iload_n 1, 1) := by decide +kernel
theorem d11_receivedLength_1 : decode prog_13_method_83_code 1 = .ok (.invokestatic 66, 3) := by decide +kernel
theorem d11_receivedLength_4 : decode prog_13_method_83_code 4 = .ok (.ifCond .ne 5, 3) := by decide +kernel
theorem d11_receivedLength_7 : decode prog_13_method_83_code 7 = .ok (.iconst (-1), 1) := by decide +kernel
theorem d11_receivedLength_8 : decode prog_13_method_83_code 8 = .ok (.ireturn, 1) := by decide +kernel
theorem d11_receivedLength_9 : decode prog_13_method_83_code 9 = .ok (.aload_n 0, 1) := by decide +kernel
theorem d11_receivedLength_10 : decode prog_13_method_83_code 10 = .ok (.iload_n 1, 1) := by decide +kernel
theorem d11_receivedLength_11 : decode prog_13_method_83_code 11 = .ok (.iload_n 2, 1) := by decide +kernel
theorem d11_receivedLength_12 : decode prog_13_method_83_code 12 = .ok (.invokevirtual 194, 3) := by decide +kernel
theorem d11_receivedLength_15 : decode prog_13_method_83_code 15 = .ok (.ifCond .eq 17, 3) := by decide +kernel
theorem d11_receivedLength_18 : decode prog_13_method_83_code 18 = .ok (.aload_n 0, 1) := by decide +kernel
theorem d11_receivedLength_19 : decode prog_13_method_83_code 19 = .ok (.getfield 7, 3) := by decide +kernel
theorem d11_receivedLength_22 : decode prog_13_method_83_code 22 = .ok (.iload_n 1, 1) := by decide +kernel
theorem d11_receivedLength_23 : decode prog_13_method_83_code 23 = .ok (.iload_n 2, 1) := by decide +kernel
theorem d11_receivedLength_24 : decode prog_13_method_83_code 24 = .ok (.iconst 2, 1) := by decide +kernel
theorem d11_receivedLength_25 : decode prog_13_method_83_code 25 = .ok (.invokestatic 159, 3) := by decide +kernel
theorem d11_receivedLength_28 : decode prog_13_method_83_code 28 = .ok (.iaload, 1) := by decide +kernel
theorem d11_receivedLength_29 : decode prog_13_method_83_code 29 = .ok (.goto 5, 3) := by decide +kernel
theorem d11_receivedLength_32 : decode prog_13_method_83_code 32 = .ok (.bipush (-5), 2) := by decide +kernel
theorem d11_receivedLength_34 : decode prog_13_method_83_code 34 = .ok (.ireturn, 1) := by decide +kernel
theorem d11_receivedData_0 : decode prog_13_method_84_code 0 = .ok (.iload_n 1, 1) := by decide +kernel
theorem d11_receivedData_1 : decode prog_13_method_84_code 1 = .ok (.invokestatic 66, 3) := by decide +kernel
theorem d11_receivedData_4 : decode prog_13_method_84_code 4 = .ok (.ifCond .eq 26, 3) := by decide +kernel
theorem d11_receivedData_7 : decode prog_13_method_84_code 7 = .ok (.aload_n 0, 1) := by decide +kernel
theorem d11_receivedData_8 : decode prog_13_method_84_code 8 = .ok (.iload_n 1, 1) := by decide +kernel
theorem d11_receivedData_9 : decode prog_13_method_84_code 9 = .ok (.iload_n 2, 1) := by decide +kernel
theorem d11_receivedData_10 : decode prog_13_method_84_code 10 = .ok (.invokevirtual 194, 3) := by decide +kernel
theorem d11_receivedData_13 : decode prog_13_method_84_code 13 = .ok (.ifCond .eq 17, 3) := by decide +kernel
theorem d11_receivedData_16 : decode prog_13_method_84_code 16 = .ok (.aload_n 0, 1) := by decide +kernel
theorem d11_receivedData_17 : decode prog_13_method_84_code 17 = .ok (.getfield 7, 3) := by decide +kernel
theorem d11_receivedData_20 : decode prog_13_method_84_code 20 = .ok (.iload_n 1, 1) := by decide +kernel
theorem d11_receivedData_21 : decode prog_13_method_84_code 21 = .ok (.iload_n 2, 1) := by decide +kernel
theorem d11_receivedData_22 : decode prog_13_method_84_code 22 = .ok (.iconst 3, 1) := by decide +kernel
theorem d11_receivedData_23 : decode prog_13_method_84_code 23 = .ok (.invokestatic 159, 3) := by decide +kernel
theorem d11_receivedData_26 : decode prog_13_method_84_code 26 = .ok (.iaload, 1) := by decide +kernel
theorem d11_receivedData_27 : decode prog_13_method_84_code 27 = .ok (.goto 4, 3) := by decide +kernel
theorem d11_receivedData_30 : decode prog_13_method_84_code 30 = .ok (.iconst 0, 1) := by decide +kernel
theorem d11_receivedData_31 : decode prog_13_method_84_code 31 = .ok (.ireturn, 1) := by decide +kernel
theorem d11_discard_0 : decode prog_13_method_85_code 0 = .ok (.iload_n 1, 1) := by decide +kernel
theorem d11_discard_1 : decode prog_13_method_85_code 1 = .ok (.invokestatic 66, 3) := by decide +kernel
theorem d11_discard_4 : decode prog_13_method_85_code 4 = .ok (.ifCond .ne 5, 3) := by decide +kernel
theorem d11_discard_7 : decode prog_13_method_85_code 7 = .ok (.iconst (-1), 1) := by decide +kernel
theorem d11_discard_8 : decode prog_13_method_85_code 8 = .ok (.ireturn, 1) := by decide +kernel
theorem d11_discard_9 : decode prog_13_method_85_code 9 = .ok (.aload_n 0, 1) := by decide +kernel
theorem d11_discard_10 : decode prog_13_method_85_code 10 = .ok (.getfield 7, 3) := by decide +kernel
theorem d11_discard_13 : decode prog_13_method_85_code 13 = .ok (.iload_n 1, 1) := by decide +kernel
theorem d11_discard_14 : decode prog_13_method_85_code 14 = .ok (.bipush 24, 2) := by decide +kernel
theorem d11_discard_16 : decode prog_13_method_85_code 16 = .ok (.invokestatic 35, 3) := by decide +kernel
theorem d11_discard_19 : decode prog_13_method_85_code 19 = .ok (.iaload, 1) := by decide +kernel
theorem d11_discard_20 : decode prog_13_method_85_code 20 = .ok (.ifCond .ne 6, 3) := by decide +kernel
theorem d11_discard_23 : decode prog_13_method_85_code 23 = .ok (.bipush (-5), 2) := by decide +kernel
theorem d11_discard_25 : decode prog_13_method_85_code 25 = .ok (.ireturn, 1) := by decide +kernel
theorem d11_discard_26 : decode prog_13_method_85_code 26 = .ok (.aload_n 0, 1) := by decide +kernel
theorem d11_discard_27 : decode prog_13_method_85_code 27 = .ok (.getfield 7, 3) := by decide +kernel
theorem d11_discard_30 : decode prog_13_method_85_code 30 = .ok (.iload_n 1, 1) := by decide +kernel
theorem d11_discard_31 : decode prog_13_method_85_code 31 = .ok (.bipush 24, 2) := by decide +kernel
theorem d11_discard_33 : decode prog_13_method_85_code 33 = .ok (.invokestatic 35, 3) := by decide +kernel
theorem d11_discard_36 : decode prog_13_method_85_code 36 = .ok (.dup2, 1) := by decide +kernel
theorem d11_discard_37 : decode prog_13_method_85_code 37 = .ok (.iaload, 1) := by decide +kernel
theorem d11_discard_38 : decode prog_13_method_85_code 38 = .ok (.iconst 1, 1) := by decide +kernel
theorem d11_discard_39 : decode prog_13_method_85_code 39 = .ok (.isub, 1) := by decide +kernel
theorem d11_discard_40 : decode prog_13_method_85_code 40 = .ok (.iastore, 1) := by decide +kernel
theorem d11_discard_41 : decode prog_13_method_85_code 41 = .ok (.iload_n 1, 1) := by decide +kernel
theorem d11_discard_42 : decode prog_13_method_85_code 42 = .ok (.iconst 0, 1) := by decide +kernel
theorem d11_discard_43 : decode prog_13_method_85_code 43 = .ok (.iconst 0, 1) := by decide +kernel
theorem d11_discard_44 : decode prog_13_method_85_code 44 = .ok (.invokestatic 159, 3) := by decide +kernel
theorem d11_discard_47 : decode prog_13_method_85_code 47 = .ok (.istore_n 2, 1) := by decide +kernel
theorem d11_discard_48 : decode prog_13_method_85_code 48 = .ok (.iload_n 2, 1) := by decide +kernel
theorem d11_discard_49 : decode prog_13_method_85_code 49 = .ok (.iload_n 1, 1) := by decide +kernel
theorem d11_discard_50 : decode prog_13_method_85_code 50 = .ok (.aload_n 0, 1) := by decide +kernel
theorem d11_discard_51 : decode prog_13_method_85_code 51 = .ok (.getfield 7, 3) := by decide +kernel
theorem d11_discard_54 : decode prog_13_method_85_code 54 = .ok (.iload_n 1, 1) := by decide +kernel
theorem d11_discard_55 : decode prog_13_method_85_code 55 = .ok (.bipush 24, 2) := by decide +kernel
theorem d11_discard_57 : decode prog_13_method_85_code 57 = .ok (.invokestatic 35, 3) := by decide +kernel
theorem d11_discard_60 : decode prog_13_method_85_code 60 = .ok (.iaload, 1) := by decide +kernel
theorem d11_discard_61 : decode prog_13_method_85_code 61 = .ok (.iconst 0, 1) := by decide +kernel
theorem d11_discard_62 : decode prog_13_method_85_code 62 = .ok (.invokestatic 159, 3) := by decide +kernel
theorem d11_discard_65 : decode prog_13_method_85_code 65 = .ok (.if_icmp .ge 23, 3) := by decide +kernel
theorem d11_discard_68 : decode prog_13_method_85_code 68 = .ok (.aload_n 0, 1) := by decide +kernel
theorem d11_discard_69 : decode prog_13_method_85_code 69 = .ok (.getfield 7, 3) := by decide +kernel
theorem d11_discard_72 : decode prog_13_method_85_code 72 = .ok (.iload_n 2, 1) := by decide +kernel
theorem d11_discard_73 : decode prog_13_method_85_code 73 = .ok (.aload_n 0, 1) := by decide +kernel
theorem d11_discard_74 : decode prog_13_method_85_code 74 = .ok (.getfield 7, 3) := by decide +kernel
theorem d11_discard_77 : decode prog_13_method_85_code 77 = .ok (.iload_n 2, 1) := by decide +kernel
theorem d11_discard_78 : decode prog_13_method_85_code 78 = .ok (.iconst 4, 1) := by decide +kernel
theorem d11_discard_79 : decode prog_13_method_85_code 79 = .ok (.iadd, 1) := by decide +kernel
theorem d11_discard_80 : decode prog_13_method_85_code 80 = .ok (.iaload, 1) := by decide +kernel
theorem d11_discard_81 : decode prog_13_method_85_code 81 = .ok (.iastore, 1) := by decide +kernel
theorem d11_discard_82 : decode prog_13_method_85_code 82 = .ok (.iinc 2 1, 3) := by decide +kernel
theorem d11_discard_85 : decode prog_13_method_85_code 85 = .ok (.goto (-37), 3) := by decide +kernel
theorem d11_discard_88 : decode prog_13_method_85_code 88 = .ok (.aload_n 0, 1) := by decide +kernel
theorem d11_discard_89 : decode prog_13_method_85_code 89 = .ok (.getfield 7, 3) := by decide +kernel
theorem d11_discard_92 : decode prog_13_method_85_code 92 = .ok (.iload_n 1, 1) := by decide +kernel
theorem d11_discard_93 : decode prog_13_method_85_code 93 = .ok (.bipush 24, 2) := by decide +kernel
theorem d11_discard_95 : decode prog_13_method_85_code 95 = .ok (.invokestatic 35, 3) := by decide +kernel
theorem d11_discard_98 : decode prog_13_method_85_code 98 = .ok (.iaload, 1) := by decide +kernel
theorem d11_discard_99 : decode prog_13_method_85_code 99 = .ok (.ireturn, 1) := by decide +kernel
theorem d11_time_0 : decode prog_13_method_86_code 0 = .ok (.aload_n 0, 1) := by decide +kernel
theorem d11_time_1 : decode prog_13_method_86_code 1 = .ok (.getfield 7, 3) := by decide +kernel
theorem d11_time_4 : decode prog_13_method_86_code 4 = .ok (.sipush 1024, 3) := by decide +kernel
theorem d11_time_7 : decode prog_13_method_86_code 7 = .ok (.iaload, 1) := by decide +kernel
theorem d11_time_8 : decode prog_13_method_86_code 8 = .ok (.ireturn, 1) := by decide +kernel
theorem d11_level_0 : decode prog_13_method_87_code 0 = .ok (.iload_n 1, 1) := by decide +kernel
theorem d11_level_1 : decode prog_13_method_87_code 1 = .ok (.iconst 1, 1) := by decide +kernel
theorem d11_level_2 : decode prog_13_method_87_code 2 = .ok (.sipush 256, 3) := by decide +kernel
theorem d11_level_5 : decode prog_13_method_87_code 5 = .ok (.invokestatic 39, 3) := by decide +kernel
theorem d11_level_8 : decode prog_13_method_87_code 8 = .ok (.ifCond .ne 6, 3) := by decide +kernel
theorem d11_level_11 : decode prog_13_method_87_code 11 = .ok (.bipush (-2), 2) := by decide +kernel
theorem d11_level_13 : decode prog_13_method_87_code 13 = .ok (.ireturn, 1) := by decide +kernel
theorem d11_level_14 : decode prog_13_method_87_code 14 = .ok (.iload_n 1, 1) := by decide +kernel
theorem d11_level_15 : decode prog_13_method_87_code 15 = .ok (.aload_n 0, 1) := by decide +kernel
theorem d11_level_16 : decode prog_13_method_87_code 16 = .ok (.getfield 7, 3) := by decide +kernel
theorem d11_level_19 : decode prog_13_method_87_code 19 = .ok (.sipush 1024, 3) := by decide +kernel
theorem d11_level_22 : decode prog_13_method_87_code 22 = .ok (.iaload, 1) := by decide +kernel
theorem d11_level_23 : decode prog_13_method_87_code 23 = .ok (.if_icmp .le 8, 3) := by decide +kernel
theorem d11_level_26 : decode prog_13_method_87_code 26 = .ok (.bipush (-5), 2) := by decide +kernel
theorem d11_level_28 : decode prog_13_method_87_code 28 = .ok (.goto 26, 3) := by decide +kernel
theorem d11_level_31 : decode prog_13_method_87_code 31 = .ok (.aload_n 0, 1) := by decide +kernel
theorem d11_level_32 : decode prog_13_method_87_code 32 = .ok (.getfield 7, 3) := by decide +kernel
theorem d11_level_35 : decode prog_13_method_87_code 35 = .ok (.sipush 1050, 3) := by decide +kernel
theorem d11_level_38 : decode prog_13_method_87_code 38 = .ok (.aload_n 0, 1) := by decide +kernel
theorem d11_level_39 : decode prog_13_method_87_code 39 = .ok (.getfield 7, 3) := by decide +kernel
theorem d11_level_42 : decode prog_13_method_87_code 42 = .ok (.sipush 1024, 3) := by decide +kernel
theorem d11_level_45 : decode prog_13_method_87_code 45 = .ok (.iaload, 1) := by decide +kernel
theorem d11_level_46 : decode prog_13_method_87_code 46 = .ok (.iload_n 1, 1) := by decide +kernel
theorem d11_level_47 : decode prog_13_method_87_code 47 = .ok (.isub, 1) := by decide +kernel
theorem d11_level_48 : decode prog_13_method_87_code 48 = .ok (.sipush 256, 3) := by decide +kernel
theorem d11_level_51 : decode prog_13_method_87_code 51 = .ok (.irem, 1) := by decide +kernel
theorem d11_level_52 : decode prog_13_method_87_code 52 = .ok (.iadd, 1) := by decide +kernel
theorem d11_level_53 : decode prog_13_method_87_code 53 = .ok (.iaload, 1) := by decide +kernel
theorem d11_level_54 : decode prog_13_method_87_code 54 = .ok (.ireturn, 1) := by decide +kernel
theorem d11_winner_0 : decode prog_13_method_88_code 0 = .ok (.bipush (-5), 2) := by decide +kernel
theorem d11_winner_2 : decode prog_13_method_88_code 2 = .ok (.istore_n 1, 1) := by decide +kernel
theorem d11_winner_3 : decode prog_13_method_88_code 3 = .ok (.iconst 0, 1) := by decide +kernel
theorem d11_winner_4 : decode prog_13_method_88_code 4 = .ok (.istore_n 2, 1) := by decide +kernel
theorem d11_winner_5 : decode prog_13_method_88_code 5 = .ok (.iload_n 2, 1) := by decide +kernel
theorem d11_winner_6 : decode prog_13_method_88_code 6 = .ok (.iconst 4, 1) := by decide +kernel
theorem d11_winner_7 : decode prog_13_method_88_code 7 = .ok (.if_icmp .ge 87, 3) := by decide +kernel
theorem d11_winner_10 : decode prog_13_method_88_code 10 = .ok (.aload_n 0, 1) := by decide +kernel
theorem d11_winner_11 : decode prog_13_method_88_code 11 = .ok (.getfield 7, 3) := by decide +kernel
theorem d11_winner_14 : decode prog_13_method_88_code 14 = .ok (.iload_n 2, 1) := by decide +kernel
theorem d11_winner_15 : decode prog_13_method_88_code 15 = .ok (.iconst 0, 1) := by decide +kernel
theorem d11_winner_16 : decode prog_13_method_88_code 16 = .ok (.invokestatic 35, 3) := by decide +kernel
theorem d11_winner_19 : decode prog_13_method_88_code 19 = .ok (.iaload, 1) := by decide +kernel
theorem d11_winner_20 : decode prog_13_method_88_code 20 = .ok (.ifCond .eq 35, 3) := by decide +kernel
theorem d11_winner_23 : decode prog_13_method_88_code 23 = .ok (.aload_n 0, 1) := by decide +kernel
theorem d11_winner_24 : decode prog_13_method_88_code 24 = .ok (.getfield 7, 3) := by decide +kernel
theorem d11_winner_27 : decode prog_13_method_88_code 27 = .ok (.iload_n 2, 1) := by decide +kernel
theorem d11_winner_28 : decode prog_13_method_88_code 28 = .ok (.iconst 0, 1) := by decide +kernel
theorem d11_winner_29 : decode prog_13_method_88_code 29 = .ok (.invokestatic 35, 3) := by decide +kernel
theorem d11_winner_32 : decode prog_13_method_88_code 32 = .ok (.iaload, 1) := by decide +kernel
theorem d11_winner_33 : decode prog_13_method_88_code 33 = .ok (.iconst 1, 1) := by decide +kernel
theorem d11_winner_34 : decode prog_13_method_88_code 34 = .ok (.if_icmp .eq 21, 3) := by decide +kernel
theorem d11_winner_37 : decode prog_13_method_88_code 37 = .ok (.aload_n 0, 1) := by decide +kernel
theorem d11_winner_38 : decode prog_13_method_88_code 38 = .ok (.getfield 7, 3) := by decide +kernel
theorem d11_winner_41 : decode prog_13_method_88_code 41 = .ok (.iload_n 2, 1) := by decide +kernel
theorem d11_winner_42 : decode prog_13_method_88_code 42 = .ok (.bipush 23, 2) := by decide +kernel
theorem d11_winner_44 : decode prog_13_method_88_code 44 = .ok (.invokestatic 35, 3) := by decide +kernel
theorem d11_winner_47 : decode prog_13_method_88_code 47 = .ok (.iaload, 1) := by decide +kernel
theorem d11_winner_48 : decode prog_13_method_88_code 48 = .ok (.ifCond .le 7, 3) := by decide +kernel
theorem d11_winner_51 : decode prog_13_method_88_code 51 = .ok (.iconst 1, 1) := by decide +kernel
theorem d11_winner_52 : decode prog_13_method_88_code 52 = .ok (.goto 4, 3) := by decide +kernel
theorem d11_winner_55 : decode prog_13_method_88_code 55 = .ok (.iconst 0, 1) := by decide +kernel
theorem d11_winner_56 : decode prog_13_method_88_code 56 = .ok (.istore_n 3, 1) := by decide +kernel
theorem d11_winner_57 : decode prog_13_method_88_code 57 = .ok (.iload_n 3, 1) := by decide +kernel
theorem d11_winner_58 : decode prog_13_method_88_code 58 = .ok (.ifCond .eq 28, 3) := by decide +kernel
theorem d11_winner_61 : decode prog_13_method_88_code 61 = .ok (.iload_n 1, 1) := by decide +kernel
theorem d11_winner_62 : decode prog_13_method_88_code 62 = .ok (.bipush (-5), 2) := by decide +kernel
theorem d11_winner_64 : decode prog_13_method_88_code 64 = .ok (.if_icmp .eq 18, 3) := by decide +kernel
theorem d11_winner_67 : decode prog_13_method_88_code 67 = .ok (.aload_n 0, 1) := by decide +kernel
theorem d11_winner_68 : decode prog_13_method_88_code 68 = .ok (.iload_n 2, 1) := by decide +kernel
theorem d11_winner_69 : decode prog_13_method_88_code 69 = .ok (.iconst 0, 1) := by decide +kernel
theorem d11_winner_70 : decode prog_13_method_88_code 70 = .ok (.invokevirtual 191, 3) := by decide +kernel
theorem d11_winner_73 : decode prog_13_method_88_code 73 = .ok (.aload_n 0, 1) := by decide +kernel
theorem d11_winner_74 : decode prog_13_method_88_code 74 = .ok (.iload_n 1, 1) := by decide +kernel
theorem d11_winner_75 : decode prog_13_method_88_code 75 = .ok (.iconst 0, 1) := by decide +kernel
theorem d11_winner_76 : decode prog_13_method_88_code 76 = .ok (.invokevirtual 191, 3) := by decide +kernel
theorem d11_winner_79 : decode prog_13_method_88_code 79 = .ok (.if_icmp .ge 7, 3) := by decide +kernel
theorem d11_winner_82 : decode prog_13_method_88_code 82 = .ok (.iload_n 2, 1) := by decide +kernel
theorem d11_winner_83 : decode prog_13_method_88_code 83 = .ok (.goto 4, 3) := by decide +kernel
theorem d11_winner_86 : decode prog_13_method_88_code 86 = .ok (.iload_n 1, 1) := by decide +kernel
theorem d11_winner_87 : decode prog_13_method_88_code 87 = .ok (.istore_n 1, 1) := by decide +kernel
theorem d11_winner_88 : decode prog_13_method_88_code 88 = .ok (.iinc 2 1, 3) := by decide +kernel
theorem d11_winner_91 : decode prog_13_method_88_code 91 = .ok (.goto (-86), 3) := by decide +kernel
theorem d11_winner_94 : decode prog_13_method_88_code 94 = .ok (.iload_n 1, 1) := by decide +kernel
theorem d11_winner_95 : decode prog_13_method_88_code 95 = .ok (.ireturn, 1) := by decide +kernel
theorem d11_bitsUntilSent_0 : decode prog_13_method_89_code 0 = .ok (.iload_n 1, 1) := by decide +kernel
theorem d11_bitsUntilSent_1 : decode prog_13_method_89_code 1 = .ok (.invokestatic 66, 3) := by decide +kernel
theorem d11_bitsUntilSent_4 : decode prog_13_method_89_code 4 = .ok (.ifCond .ne 5, 3) := by decide +kernel
theorem d11_bitsUntilSent_7 : decode prog_13_method_89_code 7 = .ok (.iconst (-1), 1) := by decide +kernel
theorem d11_bitsUntilSent_8 : decode prog_13_method_89_code 8 = .ok (.ireturn, 1) := by decide +kernel
theorem d11_bitsUntilSent_9 : decode prog_13_method_89_code 9 = .ok (.iconst 0, 1) := by decide +kernel
theorem d11_bitsUntilSent_10 : decode prog_13_method_89_code 10 = .ok (.istore_n 2, 1) := by decide +kernel
theorem d11_bitsUntilSent_11 : decode prog_13_method_89_code 11 = .ok (.iload_n 2, 1) := by decide +kernel
theorem d11_bitsUntilSent_12 : decode prog_13_method_89_code 12 = .ok (.sipush 1310, 3) := by decide +kernel
theorem d11_bitsUntilSent_15 : decode prog_13_method_89_code 15 = .ok (.if_icmp .ge 21, 3) := by decide +kernel
theorem d11_bitsUntilSent_18 : decode prog_13_method_89_code 18 = .ok (.aload_n 0, 1) := by decide +kernel
theorem d11_bitsUntilSent_19 : decode prog_13_method_89_code 19 = .ok (.getfield 13, 3) := by decide +kernel
theorem d11_bitsUntilSent_22 : decode prog_13_method_89_code 22 = .ok (.iload_n 2, 1) := by decide +kernel
theorem d11_bitsUntilSent_23 : decode prog_13_method_89_code 23 = .ok (.aload_n 0, 1) := by decide +kernel
theorem d11_bitsUntilSent_24 : decode prog_13_method_89_code 24 = .ok (.getfield 7, 3) := by decide +kernel
theorem d11_bitsUntilSent_27 : decode prog_13_method_89_code 27 = .ok (.iload_n 2, 1) := by decide +kernel
theorem d11_bitsUntilSent_28 : decode prog_13_method_89_code 28 = .ok (.iaload, 1) := by decide +kernel
theorem d11_bitsUntilSent_29 : decode prog_13_method_89_code 29 = .ok (.iastore, 1) := by decide +kernel
theorem d11_bitsUntilSent_30 : decode prog_13_method_89_code 30 = .ok (.iinc 2 1, 3) := by decide +kernel
theorem d11_bitsUntilSent_33 : decode prog_13_method_89_code 33 = .ok (.goto (-22), 3) := by decide +kernel
theorem d11_bitsUntilSent_36 : decode prog_13_method_89_code 36 = .ok (.aload_n 0, 1) := by decide +kernel
theorem d11_bitsUntilSent_37 : decode prog_13_method_89_code 37 = .ok (.getfield 7, 3) := by decide +kernel
theorem d11_bitsUntilSent_40 : decode prog_13_method_89_code 40 = .ok (.iload_n 1, 1) := by decide +kernel
theorem d11_bitsUntilSent_41 : decode prog_13_method_89_code 41 = .ok (.bipush 14, 2) := by decide +kernel
theorem d11_bitsUntilSent_43 : decode prog_13_method_89_code 43 = .ok (.invokestatic 35, 3) := by decide +kernel
theorem d11_bitsUntilSent_46 : decode prog_13_method_89_code 46 = .ok (.iaload, 1) := by decide +kernel
theorem d11_bitsUntilSent_47 : decode prog_13_method_89_code 47 = .ok (.istore_n 2, 1) := by decide +kernel
theorem d11_bitsUntilSent_48 : decode prog_13_method_89_code 48 = .ok (.iconst 0, 1) := by decide +kernel
theorem d11_bitsUntilSent_49 : decode prog_13_method_89_code 49 = .ok (.istore_n 3, 1) := by decide +kernel
theorem d11_bitsUntilSent_50 : decode prog_13_method_89_code 50 = .ok (.iload_n 3, 1) := by decide +kernel
theorem d11_bitsUntilSent_51 : decode prog_13_method_89_code 51 = .ok (.sipush 1000, 3) := by decide +kernel
theorem d11_bitsUntilSent_54 : decode prog_13_method_89_code 54 = .ok (.if_icmp .ge 28, 3) := by decide +kernel
theorem d11_bitsUntilSent_57 : decode prog_13_method_89_code 57 = .ok (.aload_n 0, 1) := by decide +kernel
theorem d11_bitsUntilSent_58 : decode prog_13_method_89_code 58 = .ok (.getfield 7, 3) := by decide +kernel
theorem d11_bitsUntilSent_61 : decode prog_13_method_89_code 61 = .ok (.iload_n 1, 1) := by decide +kernel
theorem d11_bitsUntilSent_62 : decode prog_13_method_89_code 62 = .ok (.bipush 14, 2) := by decide +kernel
theorem d11_bitsUntilSent_64 : decode prog_13_method_89_code 64 = .ok (.invokestatic 35, 3) := by decide +kernel
theorem d11_bitsUntilSent_67 : decode prog_13_method_89_code 67 = .ok (.iaload, 1) := by decide +kernel
theorem d11_bitsUntilSent_68 : decode prog_13_method_89_code 68 = .ok (.iload_n 2, 1) := by decide +kernel
theorem d11_bitsUntilSent_69 : decode prog_13_method_89_code 69 = .ok (.if_icmp .ne 13, 3) := by decide +kernel
theorem d11_bitsUntilSent_72 : decode prog_13_method_89_code 72 = .ok (.aload_n 0, 1) := by decide +kernel
theorem d11_bitsUntilSent_73 : decode prog_13_method_89_code 73 = .ok (.invokevirtual 178, 3) := by decide +kernel
theorem d11_bitsUntilSent_76 : decode prog_13_method_89_code 76 = .ok (.iinc 3 1, 3) := by decide +kernel
theorem d11_bitsUntilSent_79 : decode prog_13_method_89_code 79 = .ok (.goto (-29), 3) := by decide +kernel
theorem d11_bitsUntilSent_82 : decode prog_13_method_89_code 82 = .ok (.aload_n 0, 1) := by decide +kernel
theorem d11_bitsUntilSent_83 : decode prog_13_method_89_code 83 = .ok (.getfield 7, 3) := by decide +kernel
theorem d11_bitsUntilSent_86 : decode prog_13_method_89_code 86 = .ok (.iload_n 1, 1) := by decide +kernel
theorem d11_bitsUntilSent_87 : decode prog_13_method_89_code 87 = .ok (.bipush 14, 2) := by decide +kernel
theorem d11_bitsUntilSent_89 : decode prog_13_method_89_code 89 = .ok (.invokestatic 35, 3) := by decide +kernel
theorem d11_bitsUntilSent_92 : decode prog_13_method_89_code 92 = .ok (.iaload, 1) := by decide +kernel
theorem d11_bitsUntilSent_93 : decode prog_13_method_89_code 93 = .ok (.iload_n 2, 1) := by decide +kernel
theorem d11_bitsUntilSent_94 : decode prog_13_method_89_code 94 = .ok (.if_icmp .le 7, 3) := by decide +kernel
theorem d11_bitsUntilSent_97 : decode prog_13_method_89_code 97 = .ok (.iconst 1, 1) := by decide +kernel
theorem d11_bitsUntilSent_98 : decode prog_13_method_89_code 98 = .ok (.goto 4, 3) := by decide +kernel
theorem d11_bitsUntilSent_101 : decode prog_13_method_89_code 101 = .ok (.iconst 0, 1) := by decide +kernel
theorem d11_bitsUntilSent_102 : decode prog_13_method_89_code 102 = .ok (.istore 4, 2) := by decide +kernel
theorem d11_bitsUntilSent_104 : decode prog_13_method_89_code 104 = .ok (.iconst 0, 1) := by decide +kernel
theorem d11_bitsUntilSent_105 : decode prog_13_method_89_code 105 = .ok (.istore 5, 2) := by decide +kernel
theorem d11_bitsUntilSent_107 : decode prog_13_method_89_code 107 = .ok (.iload 5, 2) := by decide +kernel
theorem d11_bitsUntilSent_109 : decode prog_13_method_89_code 109 = .ok (.sipush 1310, 3) := by decide +kernel
theorem d11_bitsUntilSent_112 : decode prog_13_method_89_code 112 = .ok (.if_icmp .ge 23, 3) := by decide +kernel
theorem d11_bitsUntilSent_115 : decode prog_13_method_89_code 115 = .ok (.aload_n 0, 1) := by decide +kernel
theorem d11_bitsUntilSent_116 : decode prog_13_method_89_code 116 = .ok (.getfield 7, 3) := by decide +kernel
theorem d11_bitsUntilSent_119 : decode prog_13_method_89_code 119 = .ok (.iload 5, 2) := by decide +kernel
theorem d11_bitsUntilSent_121 : decode prog_13_method_89_code 121 = .ok (.aload_n 0, 1) := by decide +kernel
theorem d11_bitsUntilSent_122 : decode prog_13_method_89_code 122 = .ok (.getfield 13, 3) := by decide +kernel
theorem d11_bitsUntilSent_125 : decode prog_13_method_89_code 125 = .ok (.iload 5, 2) := by decide +kernel
theorem d11_bitsUntilSent_127 : decode prog_13_method_89_code 127 = .ok (.iaload, 1) := by decide +kernel
theorem d11_bitsUntilSent_128 : decode prog_13_method_89_code 128 = .ok (.iastore, 1) := by decide +kernel
theorem d11_bitsUntilSent_129 : decode prog_13_method_89_code 129 = .ok (.iinc 5 1, 3) := by decide +kernel
theorem d11_bitsUntilSent_132 : decode prog_13_method_89_code 132 = .ok (.goto (-25), 3) := by decide +kernel
theorem d11_bitsUntilSent_135 : decode prog_13_method_89_code 135 = .ok (.iload 4, 2) := by decide +kernel
theorem d11_bitsUntilSent_137 : decode prog_13_method_89_code 137 = .ok (.ifCond .eq 7, 3) := by decide +kernel
theorem d11_bitsUntilSent_140 : decode prog_13_method_89_code 140 = .ok (.iload_n 3, 1) := by decide +kernel
theorem d11_bitsUntilSent_141 : decode prog_13_method_89_code 141 = .ok (.goto 5, 3) := by decide +kernel
theorem d11_bitsUntilSent_144 : decode prog_13_method_89_code 144 = .ok (.bipush (-5), 2) := by decide +kernel
theorem d11_bitsUntilSent_146 : decode prog_13_method_89_code 146 = .ok (.ireturn, 1) := by decide +kernel
theorem d11_messageOf_0 : decode prog_13_method_90_code 0 = .ok (.iconst 0, 1) := by decide +kernel
theorem d11_messageOf_1 : decode prog_13_method_90_code 1 = .ok (.istore_n 2, 1) := by decide +kernel
theorem d11_messageOf_2 : decode prog_13_method_90_code 2 = .ok (.iload_n 2, 1) := by decide +kernel
theorem d11_messageOf_3 : decode prog_13_method_90_code 3 = .ok (.aload_n 0, 1) := by decide +kernel
theorem d11_messageOf_4 : decode prog_13_method_90_code 4 = .ok (.getfield 201, 3) := by decide +kernel
theorem d11_messageOf_7 : decode prog_13_method_90_code 7 = .ok (.if_icmp .ge 23, 3) := by decide +kernel
theorem d11_messageOf_10 : decode prog_13_method_90_code 10 = .ok (.aload_n 0, 1) := by decide +kernel
theorem d11_messageOf_11 : decode prog_13_method_90_code 11 = .ok (.getfield 26, 3) := by decide +kernel
theorem d11_messageOf_14 : decode prog_13_method_90_code 14 = .ok (.iconst 4, 1) := by decide +kernel
theorem d11_messageOf_15 : decode prog_13_method_90_code 15 = .ok (.iload_n 2, 1) := by decide +kernel
theorem d11_messageOf_16 : decode prog_13_method_90_code 16 = .ok (.imul, 1) := by decide +kernel
theorem d11_messageOf_17 : decode prog_13_method_90_code 17 = .ok (.iaload, 1) := by decide +kernel
theorem d11_messageOf_18 : decode prog_13_method_90_code 18 = .ok (.iload_n 1, 1) := by decide +kernel
theorem d11_messageOf_19 : decode prog_13_method_90_code 19 = .ok (.if_icmp .ne 5, 3) := by decide +kernel
theorem d11_messageOf_22 : decode prog_13_method_90_code 22 = .ok (.iload_n 2, 1) := by decide +kernel
theorem d11_messageOf_23 : decode prog_13_method_90_code 23 = .ok (.ireturn, 1) := by decide +kernel
theorem d11_messageOf_24 : decode prog_13_method_90_code 24 = .ok (.iinc 2 1, 3) := by decide +kernel
theorem d11_messageOf_27 : decode prog_13_method_90_code 27 = .ok (.goto (-25), 3) := by decide +kernel
theorem d11_messageOf_30 : decode prog_13_method_90_code 30 = .ok (.iconst (-1), 1) := by decide +kernel
theorem d11_messageOf_31 : decode prog_13_method_90_code 31 = .ok (.ireturn, 1) := by decide +kernel
theorem d11_addMessage_0 : decode prog_13_method_91_code 0 = .ok (.iload_n 1, 1) := by decide +kernel
theorem d11_addMessage_1 : decode prog_13_method_91_code 1 = .ok (.iconst 0, 1) := by decide +kernel
theorem d11_addMessage_2 : decode prog_13_method_91_code 2 = .ok (.sipush 2047, 3) := by decide +kernel
theorem d11_addMessage_5 : decode prog_13_method_91_code 5 = .ok (.invokestatic 39, 3) := by decide +kernel
theorem d11_addMessage_8 : decode prog_13_method_91_code 8 = .ok (.ifCond .eq 35, 3) := by decide +kernel
theorem d11_addMessage_11 : decode prog_13_method_91_code 11 = .ok (.iload_n 2, 1) := by decide +kernel
theorem d11_addMessage_12 : decode prog_13_method_91_code 12 = .ok (.iconst 0, 1) := by decide +kernel
theorem d11_addMessage_13 : decode prog_13_method_91_code 13 = .ok (.iconst 4, 1) := by decide +kernel
theorem d11_addMessage_14 : decode prog_13_method_91_code 14 = .ok (.invokestatic 39, 3) := by decide +kernel
theorem d11_addMessage_17 : decode prog_13_method_91_code 17 = .ok (.ifCond .eq 26, 3) := by decide +kernel
theorem d11_addMessage_20 : decode prog_13_method_91_code 20 = .ok (.iload_n 3, 1) := by decide +kernel
theorem d11_addMessage_21 : decode prog_13_method_91_code 21 = .ok (.iconst 1, 1) := by decide +kernel
theorem d11_addMessage_22 : decode prog_13_method_91_code 22 = .ok (.sipush 5000, 3) := by decide +kernel
theorem d11_addMessage_25 : decode prog_13_method_91_code 25 = .ok (.invokestatic 39, 3) := by decide +kernel
theorem d11_addMessage_28 : decode prog_13_method_91_code 28 = .ok (.ifCond .eq 15, 3) := by decide +kernel
theorem d11_addMessage_31 : decode prog_13_method_91_code 31 = .ok (.iload 4, 2) := by decide +kernel
theorem d11_addMessage_33 : decode prog_13_method_91_code 33 = .ok (.iconst 0, 1) := by decide +kernel
theorem d11_addMessage_34 : decode prog_13_method_91_code 34 = .ok (.sipush 500, 3) := by decide +kernel
theorem d11_addMessage_37 : decode prog_13_method_91_code 37 = .ok (.invokestatic 39, 3) := by decide +kernel
theorem d11_addMessage_40 : decode prog_13_method_91_code 40 = .ok (.ifCond .ne 6, 3) := by decide +kernel
theorem d11_addMessage_43 : decode prog_13_method_91_code 43 = .ok (.bipush (-2), 2) := by decide +kernel
theorem d11_addMessage_45 : decode prog_13_method_91_code 45 = .ok (.ireturn, 1) := by decide +kernel
theorem d11_addMessage_46 : decode prog_13_method_91_code 46 = .ok (.aload_n 0, 1) := by decide +kernel
theorem d11_addMessage_47 : decode prog_13_method_91_code 47 = .ok (.iload_n 1, 1) := by decide +kernel
theorem d11_addMessage_48 : decode prog_13_method_91_code 48 = .ok (.invokevirtual 205, 3) := by decide +kernel
theorem d11_addMessage_51 : decode prog_13_method_91_code 51 = .ok (.istore 5, 2) := by decide +kernel
theorem d11_addMessage_53 : decode prog_13_method_91_code 53 = .ok (.iload 5, 2) := by decide +kernel
theorem d11_addMessage_55 : decode prog_13_method_91_code 55 = .ok (.ifCond .ge 31, 3) := by decide +kernel
theorem d11_addMessage_58 : decode prog_13_method_91_code 58 = .ok (.aload_n 0, 1) := by decide +kernel
theorem d11_addMessage_59 : decode prog_13_method_91_code 59 = .ok (.getfield 201, 3) := by decide +kernel
theorem d11_addMessage_62 : decode prog_13_method_91_code 62 = .ok (.bipush 8, 2) := by decide +kernel
theorem d11_addMessage_64 : decode prog_13_method_91_code 64 = .ok (.if_icmp .ne 6, 3) := by decide +kernel
theorem d11_addMessage_67 : decode prog_13_method_91_code 67 = .ok (.bipush (-3), 2) := by decide +kernel
theorem d11_addMessage_69 : decode prog_13_method_91_code 69 = .ok (.ireturn, 1) := by decide +kernel
theorem d11_addMessage_70 : decode prog_13_method_91_code 70 = .ok (.aload_n 0, 1) := by decide +kernel
theorem d11_addMessage_71 : decode prog_13_method_91_code 71 = .ok (.getfield 201, 3) := by decide +kernel
theorem d11_addMessage_74 : decode prog_13_method_91_code 74 = .ok (.istore 5, 2) := by decide +kernel
theorem d11_addMessage_76 : decode prog_13_method_91_code 76 = .ok (.aload_n 0, 1) := by decide +kernel
theorem d11_addMessage_77 : decode prog_13_method_91_code 77 = .ok (.dup, 1) := by decide +kernel
theorem d11_addMessage_78 : decode prog_13_method_91_code 78 = .ok (.getfield 201, 3) := by decide +kernel
theorem d11_addMessage_81 : decode prog_13_method_91_code 81 = .ok (.iconst 1, 1) := by decide +kernel
theorem d11_addMessage_82 : decode prog_13_method_91_code 82 = .ok (.iadd, 1) := by decide +kernel
theorem d11_addMessage_83 : decode prog_13_method_91_code 83 = .ok (.putfield 201, 3) := by decide +kernel
theorem d11_addMessage_86 : decode prog_13_method_91_code 86 = .ok (.aload_n 0, 1) := by decide +kernel
theorem d11_addMessage_87 : decode prog_13_method_91_code 87 = .ok (.getfield 26, 3) := by decide +kernel
theorem d11_addMessage_90 : decode prog_13_method_91_code 90 = .ok (.iconst 4, 1) := by decide +kernel
theorem d11_addMessage_91 : decode prog_13_method_91_code 91 = .ok (.iload 5, 2) := by decide +kernel
theorem d11_addMessage_93 : decode prog_13_method_91_code 93 = .ok (.imul, 1) := by decide +kernel
theorem d11_addMessage_94 : decode prog_13_method_91_code 94 = .ok (.iload_n 1, 1) := by decide +kernel
theorem d11_addMessage_95 : decode prog_13_method_91_code 95 = .ok (.iastore, 1) := by decide +kernel
theorem d11_addMessage_96 : decode prog_13_method_91_code 96 = .ok (.aload_n 0, 1) := by decide +kernel
theorem d11_addMessage_97 : decode prog_13_method_91_code 97 = .ok (.getfield 26, 3) := by decide +kernel
theorem d11_addMessage_100 : decode prog_13_method_91_code 100 = .ok (.iconst 4, 1) := by decide +kernel
theorem d11_addMessage_101 : decode prog_13_method_91_code 101 = .ok (.iload 5, 2) := by decide +kernel
theorem d11_addMessage_103 : decode prog_13_method_91_code 103 = .ok (.imul, 1) := by decide +kernel
theorem d11_addMessage_104 : decode prog_13_method_91_code 104 = .ok (.iconst 1, 1) := by decide +kernel
theorem d11_addMessage_105 : decode prog_13_method_91_code 105 = .ok (.iadd, 1) := by decide +kernel
theorem d11_addMessage_106 : decode prog_13_method_91_code 106 = .ok (.iload_n 2, 1) := by decide +kernel
theorem d11_addMessage_107 : decode prog_13_method_91_code 107 = .ok (.iastore, 1) := by decide +kernel
theorem d11_addMessage_108 : decode prog_13_method_91_code 108 = .ok (.aload_n 0, 1) := by decide +kernel
theorem d11_addMessage_109 : decode prog_13_method_91_code 109 = .ok (.getfield 26, 3) := by decide +kernel
theorem d11_addMessage_112 : decode prog_13_method_91_code 112 = .ok (.iconst 4, 1) := by decide +kernel
theorem d11_addMessage_113 : decode prog_13_method_91_code 113 = .ok (.iload 5, 2) := by decide +kernel
theorem d11_addMessage_115 : decode prog_13_method_91_code 115 = .ok (.imul, 1) := by decide +kernel
theorem d11_addMessage_116 : decode prog_13_method_91_code 116 = .ok (.iconst 2, 1) := by decide +kernel
theorem d11_addMessage_117 : decode prog_13_method_91_code 117 = .ok (.iadd, 1) := by decide +kernel
theorem d11_addMessage_118 : decode prog_13_method_91_code 118 = .ok (.iload_n 3, 1) := by decide +kernel
theorem d11_addMessage_119 : decode prog_13_method_91_code 119 = .ok (.iastore, 1) := by decide +kernel
theorem d11_addMessage_120 : decode prog_13_method_91_code 120 = .ok (.aload_n 0, 1) := by decide +kernel
theorem d11_addMessage_121 : decode prog_13_method_91_code 121 = .ok (.getfield 26, 3) := by decide +kernel
theorem d11_addMessage_124 : decode prog_13_method_91_code 124 = .ok (.iconst 4, 1) := by decide +kernel
theorem d11_addMessage_125 : decode prog_13_method_91_code 125 = .ok (.iload 5, 2) := by decide +kernel
theorem d11_addMessage_127 : decode prog_13_method_91_code 127 = .ok (.imul, 1) := by decide +kernel
theorem d11_addMessage_128 : decode prog_13_method_91_code 128 = .ok (.iconst 3, 1) := by decide +kernel
theorem d11_addMessage_129 : decode prog_13_method_91_code 129 = .ok (.iadd, 1) := by decide +kernel
theorem d11_addMessage_130 : decode prog_13_method_91_code 130 = .ok (.iload 4, 2) := by decide +kernel
theorem d11_addMessage_132 : decode prog_13_method_91_code 132 = .ok (.iastore, 1) := by decide +kernel
theorem d11_addMessage_133 : decode prog_13_method_91_code 133 = .ok (.aload_n 0, 1) := by decide +kernel
theorem d11_addMessage_134 : decode prog_13_method_91_code 134 = .ok (.getfield 201, 3) := by decide +kernel
theorem d11_addMessage_137 : decode prog_13_method_91_code 137 = .ok (.ireturn, 1) := by decide +kernel
theorem d11_removeMessage_0 : decode prog_13_method_92_code 0 = .ok (.aload_n 0, 1) := by decide +kernel
theorem d11_removeMessage_1 : decode prog_13_method_92_code 1 = .ok (.iload_n 1, 1) := by decide +kernel
theorem d11_removeMessage_2 : decode prog_13_method_92_code 2 = .ok (.invokevirtual 205, 3) := by decide +kernel
theorem d11_removeMessage_5 : decode prog_13_method_92_code 5 = .ok (.istore_n 2, 1) := by decide +kernel
theorem d11_removeMessage_6 : decode prog_13_method_92_code 6 = .ok (.iload_n 2, 1) := by decide +kernel
theorem d11_removeMessage_7 : decode prog_13_method_92_code 7 = .ok (.ifCond .ge 6, 3) := by decide +kernel
theorem d11_removeMessage_10 : decode prog_13_method_92_code 10 = .ok (.bipush (-5), 2) := by decide +kernel
theorem d11_removeMessage_12 : decode prog_13_method_92_code 12 = .ok (.ireturn, 1) := by decide +kernel
theorem d11_removeMessage_13 : decode prog_13_method_92_code 13 = .ok (.aload_n 0, 1) := by decide +kernel
theorem d11_removeMessage_14 : decode prog_13_method_92_code 14 = .ok (.dup, 1) := by decide +kernel
theorem d11_removeMessage_15 : decode prog_13_method_92_code 15 = .ok (.getfield 201, 3) := by decide +kernel
theorem d11_removeMessage_18 : decode prog_13_method_92_code 18 = .ok (.iconst 1, 1) := by decide +kernel
theorem d11_removeMessage_19 : decode prog_13_method_92_code 19 = .ok (.isub, 1) := by decide +kernel
theorem d11_removeMessage_20 : decode prog_13_method_92_code 20 = .ok (.putfield 201, 3) := by decide +kernel
theorem d11_removeMessage_23 : decode prog_13_method_92_code 23 = .ok (.iconst 4, 1) := by decide +kernel
theorem d11_removeMessage_24 : decode prog_13_method_92_code 24 = .ok (.iload_n 2, 1) := by decide +kernel
theorem d11_removeMessage_25 : decode prog_13_method_92_code 25 = .ok (.imul, 1) := by decide +kernel
theorem d11_removeMessage_26 : decode prog_13_method_92_code 26 = .ok (.istore_n 3, 1) := by decide +kernel
theorem d11_removeMessage_27 : decode prog_13_method_92_code 27 = .ok (.iload_n 3, 1) := by decide +kernel
theorem d11_removeMessage_28 : decode prog_13_method_92_code 28 = .ok (.iconst 4, 1) := by decide +kernel
theorem d11_removeMessage_29 : decode prog_13_method_92_code 29 = .ok (.aload_n 0, 1) := by decide +kernel
theorem d11_removeMessage_30 : decode prog_13_method_92_code 30 = .ok (.getfield 201, 3) := by decide +kernel
theorem d11_removeMessage_33 : decode prog_13_method_92_code 33 = .ok (.imul, 1) := by decide +kernel
theorem d11_removeMessage_34 : decode prog_13_method_92_code 34 = .ok (.if_icmp .ge 23, 3) := by decide +kernel
theorem d11_removeMessage_37 : decode prog_13_method_92_code 37 = .ok (.aload_n 0, 1) := by decide +kernel
theorem d11_removeMessage_38 : decode prog_13_method_92_code 38 = .ok (.getfield 26, 3) := by decide +kernel
theorem d11_removeMessage_41 : decode prog_13_method_92_code 41 = .ok (.iload_n 3, 1) := by decide +kernel
theorem d11_removeMessage_42 : decode prog_13_method_92_code 42 = .ok (.aload_n 0, 1) := by decide +kernel
theorem d11_removeMessage_43 : decode prog_13_method_92_code 43 = .ok (.getfield 26, 3) := by decide +kernel
theorem d11_removeMessage_46 : decode prog_13_method_92_code 46 = .ok (.iload_n 3, 1) := by decide +kernel
theorem d11_removeMessage_47 : decode prog_13_method_92_code 47 = .ok (.iconst 4, 1) := by decide +kernel
theorem d11_removeMessage_48 : decode prog_13_method_92_code 48 = .ok (.iadd, 1) := by decide +kernel
theorem d11_removeMessage_49 : decode prog_13_method_92_code 49 = .ok (.iaload, 1) := by decide +kernel
theorem d11_removeMessage_50 : decode prog_13_method_92_code 50 = .ok (.iastore, 1) := by decide +kernel
theorem d11_removeMessage_51 : decode prog_13_method_92_code 51 = .ok (.iinc 3 1, 3) := by decide +kernel
theorem d11_removeMessage_54 : decode prog_13_method_92_code 54 = .ok (.goto (-27), 3) := by decide +kernel
theorem d11_removeMessage_57 : decode prog_13_method_92_code 57 = .ok (.aload_n 0, 1) := by decide +kernel
theorem d11_removeMessage_58 : decode prog_13_method_92_code 58 = .ok (.getfield 201, 3) := by decide +kernel
theorem d11_removeMessage_61 : decode prog_13_method_92_code 61 = .ok (.ireturn, 1) := by decide +kernel
theorem d11_response_0 : decode prog_13_method_93_code 0 = .ok (.aload_n 0, 1) := by decide +kernel
theorem d11_response_1 : decode prog_13_method_93_code 1 = .ok (.getfield 26, 3) := by decide +kernel
theorem d11_response_4 : decode prog_13_method_93_code 4 = .ok (.iconst 4, 1) := by decide +kernel
theorem d11_response_5 : decode prog_13_method_93_code 5 = .ok (.iload_n 1, 1) := by decide +kernel
theorem d11_response_6 : decode prog_13_method_93_code 6 = .ok (.imul, 1) := by decide +kernel
theorem d11_response_7 : decode prog_13_method_93_code 7 = .ok (.iconst 3, 1) := by decide +kernel
theorem d11_response_8 : decode prog_13_method_93_code 8 = .ok (.iadd, 1) := by decide +kernel
theorem d11_response_9 : decode prog_13_method_93_code 9 = .ok (.iaload, 1) := by decide +kernel
theorem d11_response_10 : decode prog_13_method_93_code 10 = .ok (.aload_n 0, 1) := by decide +kernel
theorem d11_response_11 : decode prog_13_method_93_code 11 = .ok (.getfield 26, 3) := by decide +kernel
theorem d11_response_14 : decode prog_13_method_93_code 14 = .ok (.iconst 4, 1) := by decide +kernel
theorem d11_response_15 : decode prog_13_method_93_code 15 = .ok (.iload_n 1, 1) := by decide +kernel
theorem d11_response_16 : decode prog_13_method_93_code 16 = .ok (.imul, 1) := by decide +kernel
theorem d11_response_17 : decode prog_13_method_93_code 17 = .ok (.iconst 1, 1) := by decide +kernel
theorem d11_response_18 : decode prog_13_method_93_code 18 = .ok (.iadd, 1) := by decide +kernel
theorem d11_response_19 : decode prog_13_method_93_code 19 = .ok (.iaload, 1) := by decide +kernel
theorem d11_response_20 : decode prog_13_method_93_code 20 = .ok (.invokestatic 62, 3) := by decide +kernel
theorem d11_response_23 : decode prog_13_method_93_code 23 = .ok (.iadd, 1) := by decide +kernel
theorem d11_response_24 : decode prog_13_method_93_code 24 = .ok (.istore_n 2, 1) := by decide +kernel
theorem d11_response_25 : decode prog_13_method_93_code 25 = .ok (.iconst 0, 1) := by decide +kernel
theorem d11_response_26 : decode prog_13_method_93_code 26 = .ok (.istore_n 3, 1) := by decide +kernel
theorem d11_response_27 : decode prog_13_method_93_code 27 = .ok (.iconst 0, 1) := by decide +kernel
theorem d11_response_28 : decode prog_13_method_93_code 28 = .ok (.istore 4, 2) := by decide +kernel
theorem d11_response_30 : decode prog_13_method_93_code 30 = .ok (.iload 4, 2) := by decide +kernel
theorem d11_response_32 : decode prog_13_method_93_code 32 = .ok (.aload_n 0, 1) := by decide +kernel
theorem d11_response_33 : decode prog_13_method_93_code 33 = .ok (.getfield 201, 3) := by decide +kernel
theorem d11_response_36 : decode prog_13_method_93_code 36 = .ok (.if_icmp .ge 58, 3) := by decide +kernel
theorem d11_response_39 : decode prog_13_method_93_code 39 = .ok (.aload_n 0, 1) := by decide +kernel
theorem d11_response_40 : decode prog_13_method_93_code 40 = .ok (.getfield 26, 3) := by decide +kernel
theorem d11_response_43 : decode prog_13_method_93_code 43 = .ok (.iconst 4, 1) := by decide +kernel
theorem d11_response_44 : decode prog_13_method_93_code 44 = .ok (.iload 4, 2) := by decide +kernel
theorem d11_response_46 : decode prog_13_method_93_code 46 = .ok (.imul, 1) := by decide +kernel
theorem d11_response_47 : decode prog_13_method_93_code 47 = .ok (.iconst 1, 1) := by decide +kernel
theorem d11_response_48 : decode prog_13_method_93_code 48 = .ok (.iadd, 1) := by decide +kernel
theorem d11_response_49 : decode prog_13_method_93_code 49 = .ok (.iaload, 1) := by decide +kernel
theorem d11_response_50 : decode prog_13_method_93_code 50 = .ok (.invokestatic 62, 3) := by decide +kernel
theorem d11_response_53 : decode prog_13_method_93_code 53 = .ok (.istore 5, 2) := by decide +kernel
theorem d11_response_55 : decode prog_13_method_93_code 55 = .ok (.aload_n 0, 1) := by decide +kernel
theorem d11_response_56 : decode prog_13_method_93_code 56 = .ok (.getfield 26, 3) := by decide +kernel
theorem d11_response_59 : decode prog_13_method_93_code 59 = .ok (.iconst 4, 1) := by decide +kernel
theorem d11_response_60 : decode prog_13_method_93_code 60 = .ok (.iload 4, 2) := by decide +kernel
theorem d11_response_62 : decode prog_13_method_93_code 62 = .ok (.imul, 1) := by decide +kernel
theorem d11_response_63 : decode prog_13_method_93_code 63 = .ok (.iaload, 1) := by decide +kernel
theorem d11_response_64 : decode prog_13_method_93_code 64 = .ok (.aload_n 0, 1) := by decide +kernel
theorem d11_response_65 : decode prog_13_method_93_code 65 = .ok (.getfield 26, 3) := by decide +kernel
theorem d11_response_68 : decode prog_13_method_93_code 68 = .ok (.iconst 4, 1) := by decide +kernel
theorem d11_response_69 : decode prog_13_method_93_code 69 = .ok (.iload_n 1, 1) := by decide +kernel
theorem d11_response_70 : decode prog_13_method_93_code 70 = .ok (.imul, 1) := by decide +kernel
theorem d11_response_71 : decode prog_13_method_93_code 71 = .ok (.iaload, 1) := by decide +kernel
theorem d11_response_72 : decode prog_13_method_93_code 72 = .ok (.if_icmp .le 14, 3) := by decide +kernel
theorem d11_response_75 : decode prog_13_method_93_code 75 = .ok (.iload 5, 2) := by decide +kernel
theorem d11_response_77 : decode prog_13_method_93_code 77 = .ok (.iload_n 3, 1) := by decide +kernel
theorem d11_response_78 : decode prog_13_method_93_code 78 = .ok (.if_icmp .le 8, 3) := by decide +kernel
theorem d11_response_81 : decode prog_13_method_93_code 81 = .ok (.iload 5, 2) := by decide +kernel
theorem d11_response_83 : decode prog_13_method_93_code 83 = .ok (.goto 4, 3) := by decide +kernel
theorem d11_response_86 : decode prog_13_method_93_code 86 = .ok (.iload_n 3, 1) := by decide +kernel
theorem d11_response_87 : decode prog_13_method_93_code 87 = .ok (.istore_n 3, 1) := by decide +kernel
theorem d11_response_88 : decode prog_13_method_93_code 88 = .ok (.iinc 4 1, 3) := by decide +kernel
theorem d11_response_91 : decode prog_13_method_93_code 91 = .ok (.goto (-61), 3) := by decide +kernel
theorem d11_response_94 : decode prog_13_method_93_code 94 = .ok (.iload_n 3, 1) := by decide +kernel
theorem d11_response_95 : decode prog_13_method_93_code 95 = .ok (.istore 4, 2) := by decide +kernel
theorem d11_response_97 : decode prog_13_method_93_code 97 = .ok (.iload_n 2, 1) := by decide +kernel
theorem d11_response_98 : decode prog_13_method_93_code 98 = .ok (.iload 4, 2) := by decide +kernel
theorem d11_response_100 : decode prog_13_method_93_code 100 = .ok (.iadd, 1) := by decide +kernel
theorem d11_response_101 : decode prog_13_method_93_code 101 = .ok (.aload_n 0, 1) := by decide +kernel
theorem d11_response_102 : decode prog_13_method_93_code 102 = .ok (.getfield 26, 3) := by decide +kernel
theorem d11_response_105 : decode prog_13_method_93_code 105 = .ok (.iconst 4, 1) := by decide +kernel
theorem d11_response_106 : decode prog_13_method_93_code 106 = .ok (.iload_n 1, 1) := by decide +kernel
theorem d11_response_107 : decode prog_13_method_93_code 107 = .ok (.imul, 1) := by decide +kernel
theorem d11_response_108 : decode prog_13_method_93_code 108 = .ok (.iconst 2, 1) := by decide +kernel
theorem d11_response_109 : decode prog_13_method_93_code 109 = .ok (.iadd, 1) := by decide +kernel
theorem d11_response_110 : decode prog_13_method_93_code 110 = .ok (.iaload, 1) := by decide +kernel
theorem d11_response_111 : decode prog_13_method_93_code 111 = .ok (.if_icmp .gt 120, 3) := by decide +kernel
theorem d11_response_114 : decode prog_13_method_93_code 114 = .ok (.iload_n 3, 1) := by decide +kernel
theorem d11_response_115 : decode prog_13_method_93_code 115 = .ok (.istore 5, 2) := by decide +kernel
theorem d11_response_117 : decode prog_13_method_93_code 117 = .ok (.iconst 0, 1) := by decide +kernel
theorem d11_response_118 : decode prog_13_method_93_code 118 = .ok (.istore 6, 2) := by decide +kernel
theorem d11_response_120 : decode prog_13_method_93_code 120 = .ok (.iload 6, 2) := by decide +kernel
theorem d11_response_122 : decode prog_13_method_93_code 122 = .ok (.aload_n 0, 1) := by decide +kernel
theorem d11_response_123 : decode prog_13_method_93_code 123 = .ok (.getfield 201, 3) := by decide +kernel
theorem d11_response_126 : decode prog_13_method_93_code 126 = .ok (.if_icmp .ge 86, 3) := by decide +kernel
theorem d11_response_129 : decode prog_13_method_93_code 129 = .ok (.aload_n 0, 1) := by decide +kernel
theorem d11_response_130 : decode prog_13_method_93_code 130 = .ok (.getfield 26, 3) := by decide +kernel
theorem d11_response_133 : decode prog_13_method_93_code 133 = .ok (.iconst 4, 1) := by decide +kernel
theorem d11_response_134 : decode prog_13_method_93_code 134 = .ok (.iload 6, 2) := by decide +kernel
theorem d11_response_136 : decode prog_13_method_93_code 136 = .ok (.imul, 1) := by decide +kernel
theorem d11_response_137 : decode prog_13_method_93_code 137 = .ok (.iconst 2, 1) := by decide +kernel
theorem d11_response_138 : decode prog_13_method_93_code 138 = .ok (.iadd, 1) := by decide +kernel
theorem d11_response_139 : decode prog_13_method_93_code 139 = .ok (.iaload, 1) := by decide +kernel
theorem d11_response_140 : decode prog_13_method_93_code 140 = .ok (.istore 7, 2) := by decide +kernel
theorem d11_response_142 : decode prog_13_method_93_code 142 = .ok (.iload 5, 2) := by decide +kernel
theorem d11_response_144 : decode prog_13_method_93_code 144 = .ok (.aload_n 0, 1) := by decide +kernel
theorem d11_response_145 : decode prog_13_method_93_code 145 = .ok (.getfield 26, 3) := by decide +kernel
theorem d11_response_148 : decode prog_13_method_93_code 148 = .ok (.iconst 4, 1) := by decide +kernel
theorem d11_response_149 : decode prog_13_method_93_code 149 = .ok (.iload 6, 2) := by decide +kernel
theorem d11_response_151 : decode prog_13_method_93_code 151 = .ok (.imul, 1) := by decide +kernel
theorem d11_response_152 : decode prog_13_method_93_code 152 = .ok (.iaload, 1) := by decide +kernel
theorem d11_response_153 : decode prog_13_method_93_code 153 = .ok (.aload_n 0, 1) := by decide +kernel
theorem d11_response_154 : decode prog_13_method_93_code 154 = .ok (.getfield 26, 3) := by decide +kernel
theorem d11_response_157 : decode prog_13_method_93_code 157 = .ok (.iconst 4, 1) := by decide +kernel
theorem d11_response_158 : decode prog_13_method_93_code 158 = .ok (.iload_n 1, 1) := by decide +kernel
theorem d11_response_159 : decode prog_13_method_93_code 159 = .ok (.imul, 1) := by decide +kernel
theorem d11_response_160 : decode prog_13_method_93_code 160 = .ok (.iaload, 1) := by decide +kernel
theorem d11_response_161 : decode prog_13_method_93_code 161 = .ok (.if_icmp .ge 41, 3) := by decide +kernel
theorem d11_response_164 : decode prog_13_method_93_code 164 = .ok (.aload_n 0, 1) := by decide +kernel
theorem d11_response_165 : decode prog_13_method_93_code 165 = .ok (.getfield 26, 3) := by decide +kernel
theorem d11_response_168 : decode prog_13_method_93_code 168 = .ok (.iconst 4, 1) := by decide +kernel
theorem d11_response_169 : decode prog_13_method_93_code 169 = .ok (.iload 6, 2) := by decide +kernel
theorem d11_response_171 : decode prog_13_method_93_code 171 = .ok (.imul, 1) := by decide +kernel
theorem d11_response_172 : decode prog_13_method_93_code 172 = .ok (.iconst 1, 1) := by decide +kernel
theorem d11_response_173 : decode prog_13_method_93_code 173 = .ok (.iadd, 1) := by decide +kernel
theorem d11_response_174 : decode prog_13_method_93_code 174 = .ok (.iaload, 1) := by decide +kernel
theorem d11_response_175 : decode prog_13_method_93_code 175 = .ok (.invokestatic 62, 3) := by decide +kernel
theorem d11_response_178 : decode prog_13_method_93_code 178 = .ok (.iload 4, 2) := by decide +kernel
theorem d11_response_180 : decode prog_13_method_93_code 180 = .ok (.aload_n 0, 1) := by decide +kernel
theorem d11_response_181 : decode prog_13_method_93_code 181 = .ok (.getfield 26, 3) := by decide +kernel
theorem d11_response_184 : decode prog_13_method_93_code 184 = .ok (.iconst 4, 1) := by decide +kernel
theorem d11_response_185 : decode prog_13_method_93_code 185 = .ok (.iload 6, 2) := by decide +kernel
theorem d11_response_187 : decode prog_13_method_93_code 187 = .ok (.imul, 1) := by decide +kernel
theorem d11_response_188 : decode prog_13_method_93_code 188 = .ok (.iconst 3, 1) := by decide +kernel
theorem d11_response_189 : decode prog_13_method_93_code 189 = .ok (.iadd, 1) := by decide +kernel
theorem d11_response_190 : decode prog_13_method_93_code 190 = .ok (.iaload, 1) := by decide +kernel
theorem d11_response_191 : decode prog_13_method_93_code 191 = .ok (.iadd, 1) := by decide +kernel
theorem d11_response_192 : decode prog_13_method_93_code 192 = .ok (.iload 7, 2) := by decide +kernel
theorem d11_response_194 : decode prog_13_method_93_code 194 = .ok (.iadd, 1) := by decide +kernel
theorem d11_response_195 : decode prog_13_method_93_code 195 = .ok (.iload 7, 2) := by decide +kernel
theorem d11_response_197 : decode prog_13_method_93_code 197 = .ok (.idiv, 1) := by decide +kernel
theorem d11_response_198 : decode prog_13_method_93_code 198 = .ok (.imul, 1) := by decide +kernel
theorem d11_response_199 : decode prog_13_method_93_code 199 = .ok (.goto 4, 3) := by decide +kernel
theorem d11_response_202 : decode prog_13_method_93_code 202 = .ok (.iconst 0, 1) := by decide +kernel
theorem d11_response_203 : decode prog_13_method_93_code 203 = .ok (.iadd, 1) := by decide +kernel
theorem d11_response_204 : decode prog_13_method_93_code 204 = .ok (.istore 5, 2) := by decide +kernel
theorem d11_response_206 : decode prog_13_method_93_code 206 = .ok (.iinc 6 1, 3) := by decide +kernel
theorem d11_response_209 : decode prog_13_method_93_code 209 = .ok (.goto (-89), 3) := by decide +kernel
theorem d11_response_212 : decode prog_13_method_93_code 212 = .ok (.iload 5, 2) := by decide +kernel
theorem d11_response_214 : decode prog_13_method_93_code 214 = .ok (.iload 4, 2) := by decide +kernel
theorem d11_response_216 : decode prog_13_method_93_code 216 = .ok (.if_icmp .ne 8, 3) := by decide +kernel
theorem d11_response_219 : decode prog_13_method_93_code 219 = .ok (.iload_n 2, 1) := by decide +kernel
theorem d11_response_220 : decode prog_13_method_93_code 220 = .ok (.iload 4, 2) := by decide +kernel
theorem d11_response_222 : decode prog_13_method_93_code 222 = .ok (.iadd, 1) := by decide +kernel
theorem d11_response_223 : decode prog_13_method_93_code 223 = .ok (.ireturn, 1) := by decide +kernel
theorem d11_response_224 : decode prog_13_method_93_code 224 = .ok (.iload 5, 2) := by decide +kernel
theorem d11_response_226 : decode prog_13_method_93_code 226 = .ok (.istore 4, 2) := by decide +kernel
theorem d11_response_228 : decode prog_13_method_93_code 228 = .ok (.goto (-131), 3) := by decide +kernel
theorem d11_response_231 : decode prog_13_method_93_code 231 = .ok (.bipush (-5), 2) := by decide +kernel
theorem d11_response_233 : decode prog_13_method_93_code 233 = .ok (.ireturn, 1) := by decide +kernel
theorem d11_responseTime_0 : decode prog_13_method_94_code 0 = .ok (.aload_n 0, 1) := by decide +kernel
theorem d11_responseTime_1 : decode prog_13_method_94_code 1 = .ok (.iload_n 1, 1) := by decide +kernel
theorem d11_responseTime_2 : decode prog_13_method_94_code 2 = .ok (.invokevirtual 205, 3) := by decide +kernel
theorem d11_responseTime_5 : decode prog_13_method_94_code 5 = .ok (.istore_n 2, 1) := by decide +kernel
theorem d11_responseTime_6 : decode prog_13_method_94_code 6 = .ok (.iload_n 2, 1) := by decide +kernel
theorem d11_responseTime_7 : decode prog_13_method_94_code 7 = .ok (.ifCond .ge 8, 3) := by decide +kernel
theorem d11_responseTime_10 : decode prog_13_method_94_code 10 = .ok (.bipush (-2), 2) := by decide +kernel
theorem d11_responseTime_12 : decode prog_13_method_94_code 12 = .ok (.goto 8, 3) := by decide +kernel
theorem d11_responseTime_15 : decode prog_13_method_94_code 15 = .ok (.aload_n 0, 1) := by decide +kernel
theorem d11_responseTime_16 : decode prog_13_method_94_code 16 = .ok (.iload_n 2, 1) := by decide +kernel
theorem d11_responseTime_17 : decode prog_13_method_94_code 17 = .ok (.invokevirtual 208, 3) := by decide +kernel
theorem d11_responseTime_20 : decode prog_13_method_94_code 20 = .ok (.ireturn, 1) := by decide +kernel
theorem d11_misses_0 : decode prog_13_method_95_code 0 = .ok (.iconst 0, 1) := by decide +kernel
theorem d11_misses_1 : decode prog_13_method_95_code 1 = .ok (.istore_n 1, 1) := by decide +kernel
theorem d11_misses_2 : decode prog_13_method_95_code 2 = .ok (.iconst 0, 1) := by decide +kernel
theorem d11_misses_3 : decode prog_13_method_95_code 3 = .ok (.istore_n 2, 1) := by decide +kernel
theorem d11_misses_4 : decode prog_13_method_95_code 4 = .ok (.iload_n 2, 1) := by decide +kernel
theorem d11_misses_5 : decode prog_13_method_95_code 5 = .ok (.aload_n 0, 1) := by decide +kernel
theorem d11_misses_6 : decode prog_13_method_95_code 6 = .ok (.getfield 201, 3) := by decide +kernel
theorem d11_misses_9 : decode prog_13_method_95_code 9 = .ok (.if_icmp .ge 27, 3) := by decide +kernel
theorem d11_misses_12 : decode prog_13_method_95_code 12 = .ok (.iload_n 1, 1) := by decide +kernel
theorem d11_misses_13 : decode prog_13_method_95_code 13 = .ok (.aload_n 0, 1) := by decide +kernel
theorem d11_misses_14 : decode prog_13_method_95_code 14 = .ok (.iload_n 2, 1) := by decide +kernel
theorem d11_misses_15 : decode prog_13_method_95_code 15 = .ok (.invokevirtual 208, 3) := by decide +kernel
theorem d11_misses_18 : decode prog_13_method_95_code 18 = .ok (.bipush (-5), 2) := by decide +kernel
theorem d11_misses_20 : decode prog_13_method_95_code 20 = .ok (.if_icmp .ne 7, 3) := by decide +kernel
theorem d11_misses_23 : decode prog_13_method_95_code 23 = .ok (.iconst 1, 1) := by decide +kernel
theorem d11_misses_24 : decode prog_13_method_95_code 24 = .ok (.goto 4, 3) := by decide +kernel
theorem d11_misses_27 : decode prog_13_method_95_code 27 = .ok (.iconst 0, 1) := by decide +kernel
theorem d11_misses_28 : decode prog_13_method_95_code 28 = .ok (.iadd, 1) := by decide +kernel
theorem d11_misses_29 : decode prog_13_method_95_code 29 = .ok (.istore_n 1, 1) := by decide +kernel
theorem d11_misses_30 : decode prog_13_method_95_code 30 = .ok (.iinc 2 1, 3) := by decide +kernel
theorem d11_misses_33 : decode prog_13_method_95_code 33 = .ok (.goto (-29), 3) := by decide +kernel
theorem d11_misses_36 : decode prog_13_method_95_code 36 = .ok (.iload_n 1, 1) := by decide +kernel
theorem d11_misses_37 : decode prog_13_method_95_code 37 = .ok (.ireturn, 1) := by decide +kernel
theorem d11_append_0 : decode prog_13_method_96_code 0 = .ok (.iload_n 1, 1) := by decide +kernel
theorem d11_append_1 : decode prog_13_method_96_code 1 = .ok (.iconst 0, 1) := by decide +kernel
theorem d11_append_2 : decode prog_13_method_96_code 2 = .ok (.bipush 127, 2) := by decide +kernel
theorem d11_append_4 : decode prog_13_method_96_code 4 = .ok (.invokestatic 39, 3) := by decide +kernel
theorem d11_append_7 : decode prog_13_method_96_code 7 = .ok (.ifCond .ne 6, 3) := by decide +kernel
theorem d11_append_10 : decode prog_13_method_96_code 10 = .ok (.bipush (-2), 2) := by decide +kernel
theorem d11_append_12 : decode prog_13_method_96_code 12 = .ok (.ireturn, 1) := by decide +kernel
theorem d11_append_13 : decode prog_13_method_96_code 13 = .ok (.aload_n 0, 1) := by decide +kernel
theorem d11_append_14 : decode prog_13_method_96_code 14 = .ok (.getfield 211, 3) := by decide +kernel
theorem d11_append_17 : decode prog_13_method_96_code 17 = .ok (.bipush 120, 2) := by decide +kernel
theorem d11_append_19 : decode prog_13_method_96_code 19 = .ok (.if_icmp .ne 6, 3) := by decide +kernel
theorem d11_append_22 : decode prog_13_method_96_code 22 = .ok (.bipush (-3), 2) := by decide +kernel
theorem d11_append_24 : decode prog_13_method_96_code 24 = .ok (.ireturn, 1) := by decide +kernel
theorem d11_append_25 : decode prog_13_method_96_code 25 = .ok (.aload_n 0, 1) := by decide +kernel
theorem d11_append_26 : decode prog_13_method_96_code 26 = .ok (.getfield 23, 3) := by decide +kernel
theorem d11_append_29 : decode prog_13_method_96_code 29 = .ok (.aload_n 0, 1) := by decide +kernel
theorem d11_append_30 : decode prog_13_method_96_code 30 = .ok (.getfield 211, 3) := by decide +kernel
theorem d11_append_33 : decode prog_13_method_96_code 33 = .ok (.iload_n 1, 1) := by decide +kernel
theorem d11_append_34 : decode prog_13_method_96_code 34 = .ok (.iastore, 1) := by decide +kernel
theorem d11_append_35 : decode prog_13_method_96_code 35 = .ok (.aload_n 0, 1) := by decide +kernel
theorem d11_append_36 : decode prog_13_method_96_code 36 = .ok (.dup, 1) := by decide +kernel
theorem d11_append_37 : decode prog_13_method_96_code 37 = .ok (.getfield 211, 3) := by decide +kernel
theorem d11_append_40 : decode prog_13_method_96_code 40 = .ok (.iconst 1, 1) := by decide +kernel
theorem d11_append_41 : decode prog_13_method_96_code 41 = .ok (.iadd, 1) := by decide +kernel
theorem d11_append_42 : decode prog_13_method_96_code 42 = .ok (.putfield 211, 3) := by decide +kernel
theorem d11_append_45 : decode prog_13_method_96_code 45 = .ok (.aload_n 0, 1) := by decide +kernel
theorem d11_append_46 : decode prog_13_method_96_code 46 = .ok (.getfield 211, 3) := by decide +kernel
theorem d11_append_49 : decode prog_13_method_96_code 49 = .ok (.ireturn, 1) := by decide +kernel
theorem d11_clearText_0 : decode prog_13_method_97_code 0 = .ok (.aload_n 0, 1) := by decide +kernel
theorem d11_clearText_1 : decode prog_13_method_97_code 1 = .ok (.getfield 211, 3) := by decide +kernel
theorem d11_clearText_4 : decode prog_13_method_97_code 4 = .ok (.istore_n 1, 1) := by decide +kernel
theorem d11_clearText_5 : decode prog_13_method_97_code 5 = .ok (.aload_n 0, 1) := by decide +kernel
theorem d11_clearText_6 : decode prog_13_method_97_code 6 = .ok (.iconst 0, 1) := by decide +kernel
theorem d11_clearText_7 : decode prog_13_method_97_code 7 = .ok (.putfield 211, 3) := by decide +kernel
theorem d11_clearText_10 : decode prog_13_method_97_code 10 = .ok (.iload_n 1, 1) := by decide +kernel
theorem d11_clearText_11 : decode prog_13_method_97_code 11 = .ok (.ireturn, 1) := by decide +kernel
theorem d11_here_0 : decode prog_13_method_98_code 0 = .ok (.aload_n 0, 1) := by decide +kernel
theorem d11_here_1 : decode prog_13_method_98_code 1 = .ok (.getfield 214, 3) := by decide +kernel
theorem d11_here_4 : decode prog_13_method_98_code 4 = .ok (.aload_n 0, 1) := by decide +kernel
theorem d11_here_5 : decode prog_13_method_98_code 5 = .ok (.getfield 211, 3) := by decide +kernel
theorem d11_here_8 : decode prog_13_method_98_code 8 = .ok (.if_icmp .ge 15, 3) := by decide +kernel
theorem d11_here_11 : decode prog_13_method_98_code 11 = .ok (.aload_n 0, 1) := by decide +kernel
theorem d11_here_12 : decode prog_13_method_98_code 12 = .ok (.getfield 23, 3) := by decide +kernel
theorem d11_here_15 : decode prog_13_method_98_code 15 = .ok (.aload_n 0, 1) := by decide +kernel
theorem d11_here_16 : decode prog_13_method_98_code 16 = .ok (.getfield 214, 3) := by decide +kernel
theorem d11_here_19 : decode prog_13_method_98_code 19 = .ok (.iaload, 1) := by decide +kernel
theorem d11_here_20 : decode prog_13_method_98_code 20 = .ok (.goto 4, 3) := by decide +kernel
theorem d11_here_23 : decode prog_13_method_98_code 23 = .ok (.iconst (-1), 1) := by decide +kernel
theorem d11_here_24 : decode prog_13_method_98_code 24 = .ok (.ireturn, 1) := by decide +kernel
theorem d11_hex_0 : decode prog_13_method_99_code 0 = .ok (.iload_n 0, 1) := by decide +kernel
theorem d11_hex_1 : decode prog_13_method_99_code 1 = .ok (.bipush 48, 2) := by decide +kernel
theorem d11_hex_3 : decode prog_13_method_99_code 3 = .ok (.bipush 57, 2) := by decide +kernel
theorem d11_hex_5 : decode prog_13_method_99_code 5 = .ok (.invokestatic 39, 3) := by decide +kernel
theorem d11_hex_8 : decode prog_13_method_99_code 8 = .ok (.ifCond .eq 10, 3) := by decide +kernel
theorem d11_hex_11 : decode prog_13_method_99_code 11 = .ok (.iload_n 0, 1) := by decide +kernel
theorem d11_hex_12 : decode prog_13_method_99_code 12 = .ok (.bipush 48, 2) := by decide +kernel
theorem d11_hex_14 : decode prog_13_method_99_code 14 = .ok (.isub, 1) := by decide +kernel
theorem d11_hex_15 : decode prog_13_method_99_code 15 = .ok (.goto 25, 3) := by decide +kernel
theorem d11_hex_18 : decode prog_13_method_99_code 18 = .ok (.iload_n 0, 1) := by decide +kernel
theorem d11_hex_19 : decode prog_13_method_99_code 19 = .ok (.bipush 97, 2) := by decide +kernel
theorem d11_hex_21 : decode prog_13_method_99_code 21 = .ok (.bipush 102, 2) := by decide +kernel
theorem d11_hex_23 : decode prog_13_method_99_code 23 = .ok (.invokestatic 39, 3) := by decide +kernel
theorem d11_hex_26 : decode prog_13_method_99_code 26 = .ok (.ifCond .eq 13, 3) := by decide +kernel
theorem d11_hex_29 : decode prog_13_method_99_code 29 = .ok (.iload_n 0, 1) := by decide +kernel
theorem d11_hex_30 : decode prog_13_method_99_code 30 = .ok (.bipush 97, 2) := by decide +kernel
theorem d11_hex_32 : decode prog_13_method_99_code 32 = .ok (.isub, 1) := by decide +kernel
theorem d11_hex_33 : decode prog_13_method_99_code 33 = .ok (.bipush 10, 2) := by decide +kernel
theorem d11_hex_35 : decode prog_13_method_99_code 35 = .ok (.iadd, 1) := by decide +kernel
theorem d11_hex_36 : decode prog_13_method_99_code 36 = .ok (.goto 4, 3) := by decide +kernel
theorem d11_hex_39 : decode prog_13_method_99_code 39 = .ok (.iconst (-1), 1) := by decide +kernel
theorem d11_hex_40 : decode prog_13_method_99_code 40 = .ok (.ireturn, 1) := by decide +kernel
theorem d11_isRequest_0 : decode prog_13_method_100_code 0 = .ok (.aload_n 1, 1) := by decide +kernel
theorem d11_isRequest_1 : decode prog_13_method_100_code 1 = .ok (.iconst 0, 1) := by decide +kernel
theorem d11_isRequest_2 : decode prog_13_method_100_code 2 = .ok (.aload_n 0, 1) := by decide +kernel
theorem d11_isRequest_3 : decode prog_13_method_100_code 3 = .ok (.invokevirtual 217, 3) := by decide +kernel
theorem d11_isRequest_6 : decode prog_13_method_100_code 6 = .ok (.bipush 48, 2) := by decide +kernel
theorem d11_isRequest_8 : decode prog_13_method_100_code 8 = .ok (.isub, 1) := by decide +kernel
theorem d11_isRequest_9 : decode prog_13_method_100_code 9 = .ok (.iastore, 1) := by decide +kernel
theorem d11_isRequest_10 : decode prog_13_method_100_code 10 = .ok (.aload_n 1, 1) := by decide +kernel
theorem d11_isRequest_11 : decode prog_13_method_100_code 11 = .ok (.iconst 0, 1) := by decide +kernel
theorem d11_isRequest_12 : decode prog_13_method_100_code 12 = .ok (.iaload, 1) := by decide +kernel
theorem d11_isRequest_13 : decode prog_13_method_100_code 13 = .ok (.iconst 0, 1) := by decide +kernel
theorem d11_isRequest_14 : decode prog_13_method_100_code 14 = .ok (.iconst 3, 1) := by decide +kernel
theorem d11_isRequest_15 : decode prog_13_method_100_code 15 = .ok (.invokestatic 39, 3) := by decide +kernel
theorem d11_isRequest_18 : decode prog_13_method_100_code 18 = .ok (.ifCond .ne 5, 3) := by decide +kernel
theorem d11_isRequest_21 : decode prog_13_method_100_code 21 = .ok (.iconst 0, 1) := by decide +kernel
theorem d11_isRequest_22 : decode prog_13_method_100_code 22 = .ok (.ireturn, 1) := by decide +kernel
theorem d11_isRequest_23 : decode prog_13_method_100_code 23 = .ok (.aload_n 0, 1) := by decide +kernel
theorem d11_isRequest_24 : decode prog_13_method_100_code 24 = .ok (.dup, 1) := by decide +kernel
theorem d11_isRequest_25 : decode prog_13_method_100_code 25 = .ok (.getfield 214, 3) := by decide +kernel
theorem d11_isRequest_28 : decode prog_13_method_100_code 28 = .ok (.iconst 1, 1) := by decide +kernel
theorem d11_isRequest_29 : decode prog_13_method_100_code 29 = .ok (.iadd, 1) := by decide +kernel
theorem d11_isRequest_30 : decode prog_13_method_100_code 30 = .ok (.putfield 214, 3) := by decide +kernel
theorem d11_isRequest_33 : decode prog_13_method_100_code 33 = .ok (.aload_n 0, 1) := by decide +kernel
theorem d11_isRequest_34 : decode prog_13_method_100_code 34 = .ok (.invokevirtual 217, 3) := by decide +kernel
theorem d11_isRequest_37 : decode prog_13_method_100_code 37 = .ok (.bipush 58, 2) := by decide +kernel
theorem d11_isRequest_39 : decode prog_13_method_100_code 39 = .ok (.if_icmp .eq 5, 3) := by decide +kernel
theorem d11_isRequest_42 : decode prog_13_method_100_code 42 = .ok (.iconst 0, 1) := by decide +kernel
theorem d11_isRequest_43 : decode prog_13_method_100_code 43 = .ok (.ireturn, 1) := by decide +kernel
theorem d11_isRequest_44 : decode prog_13_method_100_code 44 = .ok (.aload_n 0, 1) := by decide +kernel
theorem d11_isRequest_45 : decode prog_13_method_100_code 45 = .ok (.dup, 1) := by decide +kernel
theorem d11_isRequest_46 : decode prog_13_method_100_code 46 = .ok (.getfield 214, 3) := by decide +kernel
theorem d11_isRequest_49 : decode prog_13_method_100_code 49 = .ok (.iconst 1, 1) := by decide +kernel
theorem d11_isRequest_50 : decode prog_13_method_100_code 50 = .ok (.iadd, 1) := by decide +kernel
theorem d11_isRequest_51 : decode prog_13_method_100_code 51 = .ok (.putfield 214, 3) := by decide +kernel
theorem d11_isRequest_54 : decode prog_13_method_100_code 54 = .ok (.aload_n 1, 1) := by decide +kernel
theorem d11_isRequest_55 : decode prog_13_method_100_code 55 = .ok (.iconst 1, 1) := by decide +kernel
theorem d11_isRequest_56 : decode prog_13_method_100_code 56 = .ok (.iconst 0, 1) := by decide +kernel
theorem d11_isRequest_57 : decode prog_13_method_100_code 57 = .ok (.iastore, 1) := by decide +kernel
theorem d11_isRequest_58 : decode prog_13_method_100_code 58 = .ok (.iconst 0, 1) := by decide +kernel
theorem d11_isRequest_59 : decode prog_13_method_100_code 59 = .ok (.istore_n 2, 1) := by decide +kernel
theorem d11_isRequest_60 : decode prog_13_method_100_code 60 = .ok (.iload_n 2, 1) := by decide +kernel
theorem d11_isRequest_61 : decode prog_13_method_100_code 61 = .ok (.iconst 3, 1) := by decide +kernel
theorem d11_isRequest_62 : decode prog_13_method_100_code 62 = .ok (.if_icmp .ge 54, 3) := by decide +kernel
theorem d11_isRequest_65 : decode prog_13_method_100_code 65 = .ok (.aload_n 0, 1) := by decide +kernel
theorem d11_isRequest_66 : decode prog_13_method_100_code 66 = .ok (.invokevirtual 217, 3) := by decide +kernel
theorem d11_isRequest_69 : decode prog_13_method_100_code 69 = .ok (.invokestatic 220, 3) := by decide +kernel
theorem d11_isRequest_72 : decode prog_13_method_100_code 72 = .ok (.istore_n 3, 1) := by decide +kernel
theorem d11_isRequest_73 : decode prog_13_method_100_code 73 = .ok (.iload_n 3, 1) := by decide +kernel
theorem d11_isRequest_74 : decode prog_13_method_100_code 74 = .ok (.ifCond .lt 13, 3) := by decide +kernel
theorem d11_isRequest_77 : decode prog_13_method_100_code 77 = .ok (.iload_n 2, 1) := by decide +kernel
theorem d11_isRequest_78 : decode prog_13_method_100_code 78 = .ok (.ifCond .ne 11, 3) := by decide +kernel
theorem d11_isRequest_81 : decode prog_13_method_100_code 81 = .ok (.iload_n 3, 1) := by decide +kernel
theorem d11_isRequest_82 : decode prog_13_method_100_code 82 = .ok (.bipush 7, 2) := by decide +kernel
theorem d11_isRequest_84 : decode prog_13_method_100_code 84 = .ok (.if_icmp .le 5, 3) := by decide +kernel
theorem d11_isRequest_87 : decode prog_13_method_100_code 87 = .ok (.iconst 0, 1) := by decide +kernel
theorem d11_isRequest_88 : decode prog_13_method_100_code 88 = .ok (.ireturn, 1) := by decide +kernel
theorem d11_isRequest_89 : decode prog_13_method_100_code 89 = .ok (.aload_n 1, 1) := by decide +kernel
theorem d11_isRequest_90 : decode prog_13_method_100_code 90 = .ok (.iconst 1, 1) := by decide +kernel
theorem d11_isRequest_91 : decode prog_13_method_100_code 91 = .ok (.bipush 16, 2) := by decide +kernel
theorem d11_isRequest_93 : decode prog_13_method_100_code 93 = .ok (.aload_n 1, 1) := by decide +kernel
theorem d11_isRequest_94 : decode prog_13_method_100_code 94 = .ok (.iconst 1, 1) := by decide +kernel
theorem d11_isRequest_95 : decode prog_13_method_100_code 95 = .ok (.iaload, 1) := by decide +kernel
theorem d11_isRequest_96 : decode prog_13_method_100_code 96 = .ok (.imul, 1) := by decide +kernel
theorem d11_isRequest_97 : decode prog_13_method_100_code 97 = .ok (.iload_n 3, 1) := by decide +kernel
theorem d11_isRequest_98 : decode prog_13_method_100_code 98 = .ok (.iadd, 1) := by decide +kernel
theorem d11_isRequest_99 : decode prog_13_method_100_code 99 = .ok (.iastore, 1) := by decide +kernel
theorem d11_isRequest_100 : decode prog_13_method_100_code 100 = .ok (.aload_n 0, 1) := by decide +kernel
theorem d11_isRequest_101 : decode prog_13_method_100_code 101 = .ok (.dup, 1) := by decide +kernel
theorem d11_isRequest_102 : decode prog_13_method_100_code 102 = .ok (.getfield 214, 3) := by decide +kernel
theorem d11_isRequest_105 : decode prog_13_method_100_code 105 = .ok (.iconst 1, 1) := by decide +kernel
theorem d11_isRequest_106 : decode prog_13_method_100_code 106 = .ok (.iadd, 1) := by decide +kernel
theorem d11_isRequest_107 : decode prog_13_method_100_code 107 = .ok (.putfield 214, 3) := by decide +kernel
theorem d11_isRequest_110 : decode prog_13_method_100_code 110 = .ok (.iinc 2 1, 3) := by decide +kernel
theorem d11_isRequest_113 : decode prog_13_method_100_code 113 = .ok (.goto (-53), 3) := by decide +kernel
theorem d11_isRequest_116 : decode prog_13_method_100_code 116 = .ok (.aload_n 0, 1) := by decide +kernel
theorem d11_isRequest_117 : decode prog_13_method_100_code 117 = .ok (.invokevirtual 217, 3) := by decide +kernel
theorem d11_isRequest_120 : decode prog_13_method_100_code 120 = .ok (.bipush 35, 2) := by decide +kernel
theorem d11_isRequest_122 : decode prog_13_method_100_code 122 = .ok (.if_icmp .eq 5, 3) := by decide +kernel
theorem d11_isRequest_125 : decode prog_13_method_100_code 125 = .ok (.iconst 0, 1) := by decide +kernel
theorem d11_isRequest_126 : decode prog_13_method_100_code 126 = .ok (.ireturn, 1) := by decide +kernel
theorem d11_isRequest_127 : decode prog_13_method_100_code 127 = .ok (.aload_n 0, 1) := by decide +kernel
theorem d11_isRequest_128 : decode prog_13_method_100_code 128 = .ok (.dup, 1) := by decide +kernel
theorem d11_isRequest_129 : decode prog_13_method_100_code 129 = .ok (.getfield 214, 3) := by decide +kernel
theorem d11_isRequest_132 : decode prog_13_method_100_code 132 = .ok (.iconst 1, 1) := by decide +kernel
theorem d11_isRequest_133 : decode prog_13_method_100_code 133 = .ok (.iadd, 1) := by decide +kernel
theorem d11_isRequest_134 : decode prog_13_method_100_code 134 = .ok (.putfield 214, 3) := by decide +kernel
theorem d11_isRequest_137 : decode prog_13_method_100_code 137 = .ok (.aload_n 1, 1) := by decide +kernel
theorem d11_isRequest_138 : decode prog_13_method_100_code 138 = .ok (.iconst 2, 1) := by decide +kernel
theorem d11_isRequest_139 : decode prog_13_method_100_code 139 = .ok (.aload_n 0, 1) := by decide +kernel
theorem d11_isRequest_140 : decode prog_13_method_100_code 140 = .ok (.invokevirtual 217, 3) := by decide +kernel
theorem d11_isRequest_143 : decode prog_13_method_100_code 143 = .ok (.bipush 82, 2) := by decide +kernel
theorem d11_isRequest_145 : decode prog_13_method_100_code 145 = .ok (.if_icmp .ne 7, 3) := by decide +kernel
theorem d11_isRequest_148 : decode prog_13_method_100_code 148 = .ok (.iconst 1, 1) := by decide +kernel
theorem d11_isRequest_149 : decode prog_13_method_100_code 149 = .ok (.goto 4, 3) := by decide +kernel
theorem d11_isRequest_152 : decode prog_13_method_100_code 152 = .ok (.iconst 0, 1) := by decide +kernel
theorem d11_isRequest_153 : decode prog_13_method_100_code 153 = .ok (.iastore, 1) := by decide +kernel
theorem d11_isRequest_154 : decode prog_13_method_100_code 154 = .ok (.aload_n 1, 1) := by decide +kernel
theorem d11_isRequest_155 : decode prog_13_method_100_code 155 = .ok (.iconst 3, 1) := by decide +kernel
theorem d11_isRequest_156 : decode prog_13_method_100_code 156 = .ok (.iconst 0, 1) := by decide +kernel
theorem d11_isRequest_157 : decode prog_13_method_100_code 157 = .ok (.iastore, 1) := by decide +kernel
theorem d11_isRequest_158 : decode prog_13_method_100_code 158 = .ok (.aload_n 1, 1) := by decide +kernel
theorem d11_isRequest_159 : decode prog_13_method_100_code 159 = .ok (.iconst 4, 1) := by decide +kernel
theorem d11_isRequest_160 : decode prog_13_method_100_code 160 = .ok (.iconst 0, 1) := by decide +kernel
theorem d11_isRequest_161 : decode prog_13_method_100_code 161 = .ok (.iastore, 1) := by decide +kernel
theorem d11_isRequest_162 : decode prog_13_method_100_code 162 = .ok (.aload_n 1, 1) := by decide +kernel
theorem d11_isRequest_163 : decode prog_13_method_100_code 163 = .ok (.iconst 2, 1) := by decide +kernel
theorem d11_isRequest_164 : decode prog_13_method_100_code 164 = .ok (.iaload, 1) := by decide +kernel
theorem d11_isRequest_165 : decode prog_13_method_100_code 165 = .ok (.iconst 1, 1) := by decide +kernel
theorem d11_isRequest_166 : decode prog_13_method_100_code 166 = .ok (.if_icmp .ne 49, 3) := by decide +kernel
theorem d11_isRequest_169 : decode prog_13_method_100_code 169 = .ok (.aload_n 0, 1) := by decide +kernel
theorem d11_isRequest_170 : decode prog_13_method_100_code 170 = .ok (.dup, 1) := by decide +kernel
theorem d11_isRequest_171 : decode prog_13_method_100_code 171 = .ok (.getfield 214, 3) := by decide +kernel
theorem d11_isRequest_174 : decode prog_13_method_100_code 174 = .ok (.iconst 1, 1) := by decide +kernel
theorem d11_isRequest_175 : decode prog_13_method_100_code 175 = .ok (.iadd, 1) := by decide +kernel
theorem d11_isRequest_176 : decode prog_13_method_100_code 176 = .ok (.putfield 214, 3) := by decide +kernel
theorem d11_isRequest_179 : decode prog_13_method_100_code 179 = .ok (.aload_n 1, 1) := by decide +kernel
theorem d11_isRequest_180 : decode prog_13_method_100_code 180 = .ok (.iconst 3, 1) := by decide +kernel
theorem d11_isRequest_181 : decode prog_13_method_100_code 181 = .ok (.aload_n 0, 1) := by decide +kernel
theorem d11_isRequest_182 : decode prog_13_method_100_code 182 = .ok (.invokevirtual 217, 3) := by decide +kernel
theorem d11_isRequest_185 : decode prog_13_method_100_code 185 = .ok (.bipush 48, 2) := by decide +kernel
theorem d11_isRequest_187 : decode prog_13_method_100_code 187 = .ok (.isub, 1) := by decide +kernel
theorem d11_isRequest_188 : decode prog_13_method_100_code 188 = .ok (.iastore, 1) := by decide +kernel
theorem d11_isRequest_189 : decode prog_13_method_100_code 189 = .ok (.aload_n 1, 1) := by decide +kernel
theorem d11_isRequest_190 : decode prog_13_method_100_code 190 = .ok (.iconst 3, 1) := by decide +kernel
theorem d11_isRequest_191 : decode prog_13_method_100_code 191 = .ok (.iaload, 1) := by decide +kernel
theorem d11_isRequest_192 : decode prog_13_method_100_code 192 = .ok (.iconst 0, 1) := by decide +kernel
theorem d11_isRequest_193 : decode prog_13_method_100_code 193 = .ok (.iconst 4, 1) := by decide +kernel
theorem d11_isRequest_194 : decode prog_13_method_100_code 194 = .ok (.invokestatic 39, 3) := by decide +kernel
theorem d11_isRequest_197 : decode prog_13_method_100_code 197 = .ok (.ifCond .ne 5, 3) := by decide +kernel
theorem d11_isRequest_200 : decode prog_13_method_100_code 200 = .ok (.iconst 0, 1) := by decide +kernel
theorem d11_isRequest_201 : decode prog_13_method_100_code 201 = .ok (.ireturn, 1) := by decide +kernel
theorem d11_isRequest_202 : decode prog_13_method_100_code 202 = .ok (.aload_n 0, 1) := by decide +kernel
theorem d11_isRequest_203 : decode prog_13_method_100_code 203 = .ok (.dup, 1) := by decide +kernel
theorem d11_isRequest_204 : decode prog_13_method_100_code 204 = .ok (.getfield 214, 3) := by decide +kernel
theorem d11_isRequest_207 : decode prog_13_method_100_code 207 = .ok (.iconst 1, 1) := by decide +kernel
theorem d11_isRequest_208 : decode prog_13_method_100_code 208 = .ok (.iadd, 1) := by decide +kernel
theorem d11_isRequest_209 : decode prog_13_method_100_code 209 = .ok (.putfield 214, 3) := by decide +kernel
theorem d11_isRequest_212 : decode prog_13_method_100_code 212 = .ok (.goto 68, 3) := by decide +kernel
theorem d11_isRequest_215 : decode prog_13_method_100_code 215 = .ok (.iconst 0, 1) := by decide +kernel
theorem d11_isRequest_216 : decode prog_13_method_100_code 216 = .ok (.istore_n 2, 1) := by decide +kernel
theorem d11_isRequest_217 : decode prog_13_method_100_code 217 = .ok (.iload_n 2, 1) := by decide +kernel
theorem d11_isRequest_218 : decode prog_13_method_100_code 218 = .ok (.bipush 8, 2) := by decide +kernel
theorem d11_isRequest_220 : decode prog_13_method_100_code 220 = .ok (.if_icmp .ge 45, 3) := by decide +kernel
theorem d11_isRequest_223 : decode prog_13_method_100_code 223 = .ok (.aload_n 0, 1) := by decide +kernel
theorem d11_isRequest_224 : decode prog_13_method_100_code 224 = .ok (.invokevirtual 217, 3) := by decide +kernel
theorem d11_isRequest_227 : decode prog_13_method_100_code 227 = .ok (.invokestatic 220, 3) := by decide +kernel
theorem d11_isRequest_230 : decode prog_13_method_100_code 230 = .ok (.ifCond .lt 35, 3) := by decide +kernel
theorem d11_isRequest_233 : decode prog_13_method_100_code 233 = .ok (.aload_n 1, 1) := by decide +kernel
theorem d11_isRequest_234 : decode prog_13_method_100_code 234 = .ok (.iconst 4, 1) := by decide +kernel
theorem d11_isRequest_235 : decode prog_13_method_100_code 235 = .ok (.aload_n 1, 1) := by decide +kernel
theorem d11_isRequest_236 : decode prog_13_method_100_code 236 = .ok (.iconst 4, 1) := by decide +kernel
theorem d11_isRequest_237 : decode prog_13_method_100_code 237 = .ok (.iaload, 1) := by decide +kernel
theorem d11_isRequest_238 : decode prog_13_method_100_code 238 = .ok (.iconst 4, 1) := by decide +kernel
theorem d11_isRequest_239 : decode prog_13_method_100_code 239 = .ok (.ishl, 1) := by decide +kernel
theorem d11_isRequest_240 : decode prog_13_method_100_code 240 = .ok (.aload_n 0, 1) := by decide +kernel
theorem d11_isRequest_241 : decode prog_13_method_100_code 241 = .ok (.invokevirtual 217, 3) := by decide +kernel
theorem d11_isRequest_244 : decode prog_13_method_100_code 244 = .ok (.invokestatic 220, 3) := by decide +kernel
theorem d11_isRequest_247 : decode prog_13_method_100_code 247 = .ok (.ior, 1) := by decide +kernel
theorem d11_isRequest_248 : decode prog_13_method_100_code 248 = .ok (.iastore, 1) := by decide +kernel
theorem d11_isRequest_249 : decode prog_13_method_100_code 249 = .ok (.aload_n 0, 1) := by decide +kernel
theorem d11_isRequest_250 : decode prog_13_method_100_code 250 = .ok (.dup, 1) := by decide +kernel
theorem d11_isRequest_251 : decode prog_13_method_100_code 251 = .ok (.getfield 214, 3) := by decide +kernel
theorem d11_isRequest_254 : decode prog_13_method_100_code 254 = .ok (.iconst 1, 1) := by decide +kernel
theorem d11_isRequest_255 : decode prog_13_method_100_code 255 = .ok (.iadd, 1) := by decide +kernel
theorem d11_isRequest_256 : decode prog_13_method_100_code 256 = .ok (.putfield 214, 3) := by decide +kernel
theorem d11_isRequest_259 : decode prog_13_method_100_code 259 = .ok (.iinc 2 1, 3) := by decide +kernel
theorem d11_isRequest_262 : decode prog_13_method_100_code 262 = .ok (.goto (-45), 3) := by decide +kernel
theorem d11_isRequest_265 : decode prog_13_method_100_code 265 = .ok (.aload_n 1, 1) := by decide +kernel
theorem d11_isRequest_266 : decode prog_13_method_100_code 266 = .ok (.iconst 3, 1) := by decide +kernel
theorem d11_isRequest_267 : decode prog_13_method_100_code 267 = .ok (.iload_n 2, 1) := by decide +kernel
theorem d11_isRequest_268 : decode prog_13_method_100_code 268 = .ok (.iconst 2, 1) := by decide +kernel
theorem d11_isRequest_269 : decode prog_13_method_100_code 269 = .ok (.idiv, 1) := by decide +kernel
theorem d11_isRequest_270 : decode prog_13_method_100_code 270 = .ok (.iastore, 1) := by decide +kernel
theorem d11_isRequest_271 : decode prog_13_method_100_code 271 = .ok (.iload_n 2, 1) := by decide +kernel
theorem d11_isRequest_272 : decode prog_13_method_100_code 272 = .ok (.iconst 2, 1) := by decide +kernel
theorem d11_isRequest_273 : decode prog_13_method_100_code 273 = .ok (.irem, 1) := by decide +kernel
theorem d11_isRequest_274 : decode prog_13_method_100_code 274 = .ok (.iconst 1, 1) := by decide +kernel
theorem d11_isRequest_275 : decode prog_13_method_100_code 275 = .ok (.if_icmp .ne 5, 3) := by decide +kernel
theorem d11_isRequest_278 : decode prog_13_method_100_code 278 = .ok (.iconst 0, 1) := by decide +kernel
theorem d11_isRequest_279 : decode prog_13_method_100_code 279 = .ok (.ireturn, 1) := by decide +kernel
theorem d11_isRequest_280 : decode prog_13_method_100_code 280 = .ok (.aload_n 0, 1) := by decide +kernel
theorem d11_isRequest_281 : decode prog_13_method_100_code 281 = .ok (.invokevirtual 217, 3) := by decide +kernel
theorem d11_isRequest_284 : decode prog_13_method_100_code 284 = .ok (.bipush 59, 2) := by decide +kernel
theorem d11_isRequest_286 : decode prog_13_method_100_code 286 = .ok (.if_icmp .eq 5, 3) := by decide +kernel
theorem d11_isRequest_289 : decode prog_13_method_100_code 289 = .ok (.iconst 0, 1) := by decide +kernel
theorem d11_isRequest_290 : decode prog_13_method_100_code 290 = .ok (.ireturn, 1) := by decide +kernel
theorem d11_isRequest_291 : decode prog_13_method_100_code 291 = .ok (.aload_n 0, 1) := by decide +kernel
theorem d11_isRequest_292 : decode prog_13_method_100_code 292 = .ok (.dup, 1) := by decide +kernel
theorem d11_isRequest_293 : decode prog_13_method_100_code 293 = .ok (.getfield 214, 3) := by decide +kernel
theorem d11_isRequest_296 : decode prog_13_method_100_code 296 = .ok (.iconst 1, 1) := by decide +kernel
theorem d11_isRequest_297 : decode prog_13_method_100_code 297 = .ok (.iadd, 1) := by decide +kernel
theorem d11_isRequest_298 : decode prog_13_method_100_code 298 = .ok (.putfield 214, 3) := by decide +kernel
theorem d11_isRequest_301 : decode prog_13_method_100_code 301 = .ok (.iconst 1, 1) := by decide +kernel
theorem d11_isRequest_302 : decode prog_13_method_100_code 302 = .ok (.ireturn, 1) := by decide +kernel
theorem d11_faultOf_0 : decode prog_13_method_101_code 0 = .ok (.aload_n 0, 1) := by decide +kernel
theorem d11_faultOf_1 : decode prog_13_method_101_code 1 = .ok (.iconst 0, 1) := by decide +kernel
theorem d11_faultOf_2 : decode prog_13_method_101_code 2 = .ok (.putfield 214, 3) := by decide +kernel
theorem d11_faultOf_5 : decode prog_13_method_101_code 5 = .ok (.aload_n 0, 1) := by decide +kernel
theorem d11_faultOf_6 : decode prog_13_method_101_code 6 = .ok (.getfield 214, 3) := by decide +kernel
theorem d11_faultOf_9 : decode prog_13_method_101_code 9 = .ok (.aload_n 0, 1) := by decide +kernel
theorem d11_faultOf_10 : decode prog_13_method_101_code 10 = .ok (.getfield 211, 3) := by decide +kernel
theorem d11_faultOf_13 : decode prog_13_method_101_code 13 = .ok (.if_icmp .ge 19, 3) := by decide +kernel
theorem d11_faultOf_16 : decode prog_13_method_101_code 16 = .ok (.aload_n 0, 1) := by decide +kernel
theorem d11_faultOf_17 : decode prog_13_method_101_code 17 = .ok (.aload_n 0, 1) := by decide +kernel
theorem d11_faultOf_18 : decode prog_13_method_101_code 18 = .ok (.getfield 32, 3) := by decide +kernel
theorem d11_faultOf_21 : decode prog_13_method_101_code 21 = .ok (.invokevirtual 223, 3) := by decide +kernel
theorem d11_faultOf_24 : decode prog_13_method_101_code 24 = .ok (.ifCond .ne (-19), 3) := by decide +kernel
theorem d11_faultOf_27 : decode prog_13_method_101_code 27 = .ok (.aload_n 0, 1) := by decide +kernel
theorem d11_faultOf_28 : decode prog_13_method_101_code 28 = .ok (.getfield 214, 3) := by decide +kernel
theorem d11_faultOf_31 : decode prog_13_method_101_code 31 = .ok (.ireturn, 1) := by decide +kernel
theorem d11_faultOf_32 : decode prog_13_method_101_code 32 = .ok (.bipush (-5), 2) := by decide +kernel
theorem d11_faultOf_34 : decode prog_13_method_101_code 34 = .ok (.ireturn, 1) := by decide +kernel
theorem d11_faultPosition_0 : decode prog_13_method_102_code 0 = .ok (.aload_n 0, 1) := by decide +kernel
theorem d11_faultPosition_1 : decode prog_13_method_102_code 1 = .ok (.invokevirtual 227, 3) := by decide +kernel
theorem d11_faultPosition_4 : decode prog_13_method_102_code 4 = .ok (.ireturn, 1) := by decide +kernel
theorem d11_load_0 : decode prog_13_method_103_code 0 = .ok (.aload_n 0, 1) := by decide +kernel
theorem d11_load_1 : decode prog_13_method_103_code 1 = .ok (.invokevirtual 227, 3) := by decide +kernel
theorem d11_load_4 : decode prog_13_method_103_code 4 = .ok (.istore_n 1, 1) := by decide +kernel
theorem d11_load_5 : decode prog_13_method_103_code 5 = .ok (.iload_n 1, 1) := by decide +kernel
theorem d11_load_6 : decode prog_13_method_103_code 6 = .ok (.ifCond .lt 9, 3) := by decide +kernel
theorem d11_load_9 : decode prog_13_method_103_code 9 = .ok (.sipush (-1000), 3) := by decide +kernel
theorem d11_load_12 : decode prog_13_method_103_code 12 = .ok (.iload_n 1, 1) := by decide +kernel
theorem d11_load_13 : decode prog_13_method_103_code 13 = .ok (.isub, 1) := by decide +kernel
theorem d11_load_14 : decode prog_13_method_103_code 14 = .ok (.ireturn, 1) := by decide +kernel
theorem d11_load_15 : decode prog_13_method_103_code 15 = .ok (.iconst 0, 1) := by decide +kernel
theorem d11_load_16 : decode prog_13_method_103_code 16 = .ok (.istore_n 2, 1) := by decide +kernel
theorem d11_load_17 : decode prog_13_method_103_code 17 = .ok (.aload_n 0, 1) := by decide +kernel
theorem d11_load_18 : decode prog_13_method_103_code 18 = .ok (.iconst 0, 1) := by decide +kernel
theorem d11_load_19 : decode prog_13_method_103_code 19 = .ok (.putfield 214, 3) := by decide +kernel
theorem d11_load_22 : decode prog_13_method_103_code 22 = .ok (.aload_n 0, 1) := by decide +kernel
theorem d11_load_23 : decode prog_13_method_103_code 23 = .ok (.getfield 214, 3) := by decide +kernel
theorem d11_load_26 : decode prog_13_method_103_code 26 = .ok (.aload_n 0, 1) := by decide +kernel
theorem d11_load_27 : decode prog_13_method_103_code 27 = .ok (.getfield 211, 3) := by decide +kernel
theorem d11_load_30 : decode prog_13_method_103_code 30 = .ok (.if_icmp .ge 69, 3) := by decide +kernel
theorem d11_load_33 : decode prog_13_method_103_code 33 = .ok (.aload_n 0, 1) := by decide +kernel
theorem d11_load_34 : decode prog_13_method_103_code 34 = .ok (.aload_n 0, 1) := by decide +kernel
theorem d11_load_35 : decode prog_13_method_103_code 35 = .ok (.getfield 32, 3) := by decide +kernel
theorem d11_load_38 : decode prog_13_method_103_code 38 = .ok (.invokevirtual 223, 3) := by decide +kernel
theorem d11_load_41 : decode prog_13_method_103_code 41 = .ok (.istore_n 3, 1) := by decide +kernel
theorem d11_load_42 : decode prog_13_method_103_code 42 = .ok (.iload_n 3, 1) := by decide +kernel
theorem d11_load_43 : decode prog_13_method_103_code 43 = .ok (.ifCond .eq 53, 3) := by decide +kernel
theorem d11_load_46 : decode prog_13_method_103_code 46 = .ok (.aload_n 0, 1) := by decide +kernel
theorem d11_load_47 : decode prog_13_method_103_code 47 = .ok (.aload_n 0, 1) := by decide +kernel
theorem d11_load_48 : decode prog_13_method_103_code 48 = .ok (.getfield 32, 3) := by decide +kernel
theorem d11_load_51 : decode prog_13_method_103_code 51 = .ok (.iconst 0, 1) := by decide +kernel
theorem d11_load_52 : decode prog_13_method_103_code 52 = .ok (.iaload, 1) := by decide +kernel
theorem d11_load_53 : decode prog_13_method_103_code 53 = .ok (.invokevirtual 88, 3) := by decide +kernel
theorem d11_load_56 : decode prog_13_method_103_code 56 = .ok (.ifCond .eq 40, 3) := by decide +kernel
theorem d11_load_59 : decode prog_13_method_103_code 59 = .ok (.aload_n 0, 1) := by decide +kernel
theorem d11_load_60 : decode prog_13_method_103_code 60 = .ok (.aload_n 0, 1) := by decide +kernel
theorem d11_load_61 : decode prog_13_method_103_code 61 = .ok (.getfield 32, 3) := by decide +kernel
theorem d11_load_64 : decode prog_13_method_103_code 64 = .ok (.iconst 0, 1) := by decide +kernel
theorem d11_load_65 : decode prog_13_method_103_code 65 = .ok (.iaload, 1) := by decide +kernel
theorem d11_load_66 : decode prog_13_method_103_code 66 = .ok (.aload_n 0, 1) := by decide +kernel
theorem d11_load_67 : decode prog_13_method_103_code 67 = .ok (.getfield 32, 3) := by decide +kernel
theorem d11_load_70 : decode prog_13_method_103_code 70 = .ok (.iconst 1, 1) := by decide +kernel
theorem d11_load_71 : decode prog_13_method_103_code 71 = .ok (.iaload, 1) := by decide +kernel
theorem d11_load_72 : decode prog_13_method_103_code 72 = .ok (.aload_n 0, 1) := by decide +kernel
theorem d11_load_73 : decode prog_13_method_103_code 73 = .ok (.getfield 32, 3) := by decide +kernel
theorem d11_load_76 : decode prog_13_method_103_code 76 = .ok (.iconst 2, 1) := by decide +kernel
theorem d11_load_77 : decode prog_13_method_103_code 77 = .ok (.iaload, 1) := by decide +kernel
theorem d11_load_78 : decode prog_13_method_103_code 78 = .ok (.aload_n 0, 1) := by decide +kernel
theorem d11_load_79 : decode prog_13_method_103_code 79 = .ok (.getfield 32, 3) := by decide +kernel
theorem d11_load_82 : decode prog_13_method_103_code 82 = .ok (.iconst 3, 1) := by decide +kernel
theorem d11_load_83 : decode prog_13_method_103_code 83 = .ok (.iaload, 1) := by decide +kernel
theorem d11_load_84 : decode prog_13_method_103_code 84 = .ok (.aload_n 0, 1) := by decide +kernel
theorem d11_load_85 : decode prog_13_method_103_code 85 = .ok (.getfield 32, 3) := by decide +kernel
theorem d11_load_88 : decode prog_13_method_103_code 88 = .ok (.iconst 4, 1) := by decide +kernel
theorem d11_load_89 : decode prog_13_method_103_code 89 = .ok (.iaload, 1) := by decide +kernel
theorem d11_load_90 : decode prog_13_method_103_code 90 = .ok (.invokevirtual 91, 3) := by decide +kernel
theorem d11_load_93 : decode prog_13_method_103_code 93 = .ok (.iinc 2 1, 3) := by decide +kernel
theorem d11_load_96 : decode prog_13_method_103_code 96 = .ok (.goto (-74), 3) := by decide +kernel
theorem d11_load_99 : decode prog_13_method_103_code 99 = .ok (.iload_n 2, 1) := by decide +kernel
theorem d11_load_100 : decode prog_13_method_103_code 100 = .ok (.ireturn, 1) := by decide +kernel
theorem d11_save_0 : decode prog_13_method_104_code 0 = .ok (.iload_n 1, 1) := by decide +kernel
theorem d11_save_1 : decode prog_13_method_104_code 1 = .ok (.iconst 0, 1) := by decide +kernel
theorem d11_save_2 : decode prog_13_method_104_code 2 = .ok (.iconst 1, 1) := by decide +kernel
theorem d11_save_3 : decode prog_13_method_104_code 3 = .ok (.invokestatic 39, 3) := by decide +kernel
theorem d11_save_6 : decode prog_13_method_104_code 6 = .ok (.ifCond .ne 6, 3) := by decide +kernel
theorem d11_save_9 : decode prog_13_method_104_code 9 = .ok (.bipush (-2), 2) := by decide +kernel
theorem d11_save_11 : decode prog_13_method_104_code 11 = .ok (.ireturn, 1) := by decide +kernel
theorem d11_save_12 : decode prog_13_method_104_code 12 = .ok (.iconst 0, 1) := by decide +kernel
theorem d11_save_13 : decode prog_13_method_104_code 13 = .ok (.istore_n 2, 1) := by decide +kernel
theorem d11_save_14 : decode prog_13_method_104_code 14 = .ok (.iload_n 2, 1) := by decide +kernel
theorem d11_save_15 : decode prog_13_method_104_code 15 = .ok (.sipush 1310, 3) := by decide +kernel
theorem d11_save_18 : decode prog_13_method_104_code 18 = .ok (.if_icmp .ge 27, 3) := by decide +kernel
theorem d11_save_21 : decode prog_13_method_104_code 21 = .ok (.aload_n 0, 1) := by decide +kernel
theorem d11_save_22 : decode prog_13_method_104_code 22 = .ok (.getfield 16, 3) := by decide +kernel
theorem d11_save_25 : decode prog_13_method_104_code 25 = .ok (.sipush 1310, 3) := by decide +kernel
theorem d11_save_28 : decode prog_13_method_104_code 28 = .ok (.iload_n 1, 1) := by decide +kernel
theorem d11_save_29 : decode prog_13_method_104_code 29 = .ok (.imul, 1) := by decide +kernel
theorem d11_save_30 : decode prog_13_method_104_code 30 = .ok (.iload_n 2, 1) := by decide +kernel
theorem d11_save_31 : decode prog_13_method_104_code 31 = .ok (.iadd, 1) := by decide +kernel
theorem d11_save_32 : decode prog_13_method_104_code 32 = .ok (.aload_n 0, 1) := by decide +kernel
theorem d11_save_33 : decode prog_13_method_104_code 33 = .ok (.getfield 7, 3) := by decide +kernel
theorem d11_save_36 : decode prog_13_method_104_code 36 = .ok (.iload_n 2, 1) := by decide +kernel
theorem d11_save_37 : decode prog_13_method_104_code 37 = .ok (.iaload, 1) := by decide +kernel
theorem d11_save_38 : decode prog_13_method_104_code 38 = .ok (.iastore, 1) := by decide +kernel
theorem d11_save_39 : decode prog_13_method_104_code 39 = .ok (.iinc 2 1, 3) := by decide +kernel
theorem d11_save_42 : decode prog_13_method_104_code 42 = .ok (.goto (-28), 3) := by decide +kernel
theorem d11_save_45 : decode prog_13_method_104_code 45 = .ok (.aload_n 0, 1) := by decide +kernel
theorem d11_save_46 : decode prog_13_method_104_code 46 = .ok (.getfield 19, 3) := by decide +kernel
theorem d11_save_49 : decode prog_13_method_104_code 49 = .ok (.iload_n 1, 1) := by decide +kernel
theorem d11_save_50 : decode prog_13_method_104_code 50 = .ok (.iconst 1, 1) := by decide +kernel
theorem d11_save_51 : decode prog_13_method_104_code 51 = .ok (.bastore, 1) := by decide +kernel
theorem d11_save_52 : decode prog_13_method_104_code 52 = .ok (.aload_n 0, 1) := by decide +kernel
theorem d11_save_53 : decode prog_13_method_104_code 53 = .ok (.getfield 7, 3) := by decide +kernel
theorem d11_save_56 : decode prog_13_method_104_code 56 = .ok (.sipush 1024, 3) := by decide +kernel
theorem d11_save_59 : decode prog_13_method_104_code 59 = .ok (.iaload, 1) := by decide +kernel
theorem d11_save_60 : decode prog_13_method_104_code 60 = .ok (.ireturn, 1) := by decide +kernel
theorem d11_restore_0 : decode prog_13_method_105_code 0 = .ok (.iload_n 1, 1) := by decide +kernel
theorem d11_restore_1 : decode prog_13_method_105_code 1 = .ok (.iconst 0, 1) := by decide +kernel
theorem d11_restore_2 : decode prog_13_method_105_code 2 = .ok (.iconst 1, 1) := by decide +kernel
theorem d11_restore_3 : decode prog_13_method_105_code 3 = .ok (.invokestatic 39, 3) := by decide +kernel
theorem d11_restore_6 : decode prog_13_method_105_code 6 = .ok (.ifCond .ne 6, 3) := by decide +kernel
theorem d11_restore_9 : decode prog_13_method_105_code 9 = .ok (.bipush (-2), 2) := by decide +kernel
theorem d11_restore_11 : decode prog_13_method_105_code 11 = .ok (.ireturn, 1) := by decide +kernel
theorem d11_restore_12 : decode prog_13_method_105_code 12 = .ok (.aload_n 0, 1) := by decide +kernel
theorem d11_restore_13 : decode prog_13_method_105_code 13 = .ok (.getfield 19, 3) := by decide +kernel
theorem d11_restore_16 : decode prog_13_method_105_code 16 = .ok (.iload_n 1, 1) := by decide +kernel
theorem d11_restore_17 : decode prog_13_method_105_code 17 = .ok (.baload, 1) := by decide +kernel
theorem d11_restore_18 : decode prog_13_method_105_code 18 = .ok (.ifCond .ne 6, 3) := by decide +kernel
theorem d11_restore_21 : decode prog_13_method_105_code 21 = .ok (.bipush (-5), 2) := by decide +kernel
theorem d11_restore_23 : decode prog_13_method_105_code 23 = .ok (.ireturn, 1) := by decide +kernel
theorem d11_restore_24 : decode prog_13_method_105_code 24 = .ok (.iconst 0, 1) := by decide +kernel
theorem d11_restore_25 : decode prog_13_method_105_code 25 = .ok (.istore_n 2, 1) := by decide +kernel
theorem d11_restore_26 : decode prog_13_method_105_code 26 = .ok (.iload_n 2, 1) := by decide +kernel
theorem d11_restore_27 : decode prog_13_method_105_code 27 = .ok (.sipush 1310, 3) := by decide +kernel
theorem d11_restore_30 : decode prog_13_method_105_code 30 = .ok (.if_icmp .ge 27, 3) := by decide +kernel
theorem d11_restore_33 : decode prog_13_method_105_code 33 = .ok (.aload_n 0, 1) := by decide +kernel
theorem d11_restore_34 : decode prog_13_method_105_code 34 = .ok (.getfield 7, 3) := by decide +kernel
theorem d11_restore_37 : decode prog_13_method_105_code 37 = .ok (.iload_n 2, 1) := by decide +kernel
theorem d11_restore_38 : decode prog_13_method_105_code 38 = .ok (.aload_n 0, 1) := by decide +kernel
theorem d11_restore_39 : decode prog_13_method_105_code 39 = .ok (.getfield 16, 3) := by decide +kernel
theorem d11_restore_42 : decode prog_13_method_105_code 42 = .ok (.sipush 1310, 3) := by decide +kernel
theorem d11_restore_45 : decode prog_13_method_105_code 45 = .ok (.iload_n 1, 1) := by decide +kernel
theorem d11_restore_46 : decode prog_13_method_105_code 46 = .ok (.imul, 1) := by decide +kernel
theorem d11_restore_47 : decode prog_13_method_105_code 47 = .ok (.iload_n 2, 1) := by decide +kernel
theorem d11_restore_48 : decode prog_13_method_105_code 48 = .ok (.iadd, 1) := by decide +kernel
theorem d11_restore_49 : decode prog_13_method_105_code 49 = .ok (.iaload, 1) := by decide +kernel
theorem d11_restore_50 : decode prog_13_method_105_code 50 = .ok (.iastore, 1) := by decide +kernel
theorem d11_restore_51 : decode prog_13_method_105_code 51 = .ok (.iinc 2 1, 3) := by decide +kernel
theorem d11_restore_54 : decode prog_13_method_105_code 54 = .ok (.goto (-28), 3) := by decide +kernel
theorem d11_restore_57 : decode prog_13_method_105_code 57 = .ok (.aload_n 0, 1) := by decide +kernel
theorem d11_restore_58 : decode prog_13_method_105_code 58 = .ok (.getfield 7, 3) := by decide +kernel
theorem d11_restore_61 : decode prog_13_method_105_code 61 = .ok (.sipush 1024, 3) := by decide +kernel
theorem d11_restore_64 : decode prog_13_method_105_code 64 = .ok (.iaload, 1) := by decide +kernel
theorem d11_restore_65 : decode prog_13_method_105_code 65 = .ok (.ireturn, 1) := by decide +kernel
theorem d11_more_0 : decode prog_13_method_106_code 0 = .ok (.ldc2_w 230, 3) := by decide +kernel
theorem d11_more_3 : decode prog_13_method_106_code 3 = .ok (.lload_n 0, 1) := by decide +kernel
theorem d11_more_4 : decode prog_13_method_106_code 4 = .ok (.lmul, 1) := by decide +kernel
theorem d11_more_5 : decode prog_13_method_106_code 5 = .ok (.iload_n 2, 1) := by decide +kernel
theorem d11_more_6 : decode prog_13_method_106_code 6 = .ok (.i2l, 1) := by decide +kernel
theorem d11_more_7 : decode prog_13_method_106_code 7 = .ok (.ladd, 1) := by decide +kernel
theorem d11_more_8 : decode prog_13_method_106_code 8 = .ok (.lreturn, 1) := by decide +kernel
theorem d11_moreOf_0 : decode prog_13_method_107_code 0 = .ok (.lload_n 1, 1) := by decide +kernel
theorem d11_moreOf_1 : decode prog_13_method_107_code 1 = .ok (.aload_n 0, 1) := by decide +kernel
theorem d11_moreOf_2 : decode prog_13_method_107_code 2 = .ok (.getfield 7, 3) := by decide +kernel
theorem d11_moreOf_5 : decode prog_13_method_107_code 5 = .ok (.iload_n 3, 1) := by decide +kernel
theorem d11_moreOf_6 : decode prog_13_method_107_code 6 = .ok (.iconst 0, 1) := by decide +kernel
theorem d11_moreOf_7 : decode prog_13_method_107_code 7 = .ok (.invokestatic 35, 3) := by decide +kernel
theorem d11_moreOf_10 : decode prog_13_method_107_code 10 = .ok (.iaload, 1) := by decide +kernel
theorem d11_moreOf_11 : decode prog_13_method_107_code 11 = .ok (.invokestatic 232, 3) := by decide +kernel
theorem d11_moreOf_14 : decode prog_13_method_107_code 14 = .ok (.aload_n 0, 1) := by decide +kernel
theorem d11_moreOf_15 : decode prog_13_method_107_code 15 = .ok (.getfield 7, 3) := by decide +kernel
theorem d11_moreOf_18 : decode prog_13_method_107_code 18 = .ok (.iload_n 3, 1) := by decide +kernel
theorem d11_moreOf_19 : decode prog_13_method_107_code 19 = .ok (.iconst 1, 1) := by decide +kernel
theorem d11_moreOf_20 : decode prog_13_method_107_code 20 = .ok (.invokestatic 35, 3) := by decide +kernel
theorem d11_moreOf_23 : decode prog_13_method_107_code 23 = .ok (.iaload, 1) := by decide +kernel
theorem d11_moreOf_24 : decode prog_13_method_107_code 24 = .ok (.invokestatic 232, 3) := by decide +kernel
theorem d11_moreOf_27 : decode prog_13_method_107_code 27 = .ok (.aload_n 0, 1) := by decide +kernel
theorem d11_moreOf_28 : decode prog_13_method_107_code 28 = .ok (.getfield 7, 3) := by decide +kernel
theorem d11_moreOf_31 : decode prog_13_method_107_code 31 = .ok (.iload_n 3, 1) := by decide +kernel
theorem d11_moreOf_32 : decode prog_13_method_107_code 32 = .ok (.iconst 4, 1) := by decide +kernel
theorem d11_moreOf_33 : decode prog_13_method_107_code 33 = .ok (.invokestatic 35, 3) := by decide +kernel
theorem d11_moreOf_36 : decode prog_13_method_107_code 36 = .ok (.iaload, 1) := by decide +kernel
theorem d11_moreOf_37 : decode prog_13_method_107_code 37 = .ok (.invokestatic 232, 3) := by decide +kernel
theorem d11_moreOf_40 : decode prog_13_method_107_code 40 = .ok (.aload_n 0, 1) := by decide +kernel
theorem d11_moreOf_41 : decode prog_13_method_107_code 41 = .ok (.getfield 7, 3) := by decide +kernel
theorem d11_moreOf_44 : decode prog_13_method_107_code 44 = .ok (.iload_n 3, 1) := by decide +kernel
theorem d11_moreOf_45 : decode prog_13_method_107_code 45 = .ok (.iconst 5, 1) := by decide +kernel
theorem d11_moreOf_46 : decode prog_13_method_107_code 46 = .ok (.invokestatic 35, 3) := by decide +kernel
theorem d11_moreOf_49 : decode prog_13_method_107_code 49 = .ok (.iaload, 1) := by decide +kernel
theorem d11_moreOf_50 : decode prog_13_method_107_code 50 = .ok (.invokestatic 232, 3) := by decide +kernel
theorem d11_moreOf_53 : decode prog_13_method_107_code 53 = .ok (.lstore 4, 2) := by decide +kernel
theorem d11_moreOf_55 : decode prog_13_method_107_code 55 = .ok (.iconst 1, 1) := by decide +kernel
theorem d11_moreOf_56 : decode prog_13_method_107_code 56 = .ok (.istore 6, 2) := by decide +kernel
theorem d11_moreOf_58 : decode prog_13_method_107_code 58 = .ok (.iload 6, 2) := by decide +kernel
theorem d11_moreOf_60 : decode prog_13_method_107_code 60 = .ok (.iconst 5, 1) := by decide +kernel
theorem d11_moreOf_61 : decode prog_13_method_107_code 61 = .ok (.if_icmp .gt 29, 3) := by decide +kernel
theorem d11_moreOf_64 : decode prog_13_method_107_code 64 = .ok (.lload 4, 2) := by decide +kernel
theorem d11_moreOf_66 : decode prog_13_method_107_code 66 = .ok (.aload_n 0, 1) := by decide +kernel
theorem d11_moreOf_67 : decode prog_13_method_107_code 67 = .ok (.getfield 7, 3) := by decide +kernel
theorem d11_moreOf_70 : decode prog_13_method_107_code 70 = .ok (.iload_n 3, 1) := by decide +kernel
theorem d11_moreOf_71 : decode prog_13_method_107_code 71 = .ok (.iconst 5, 1) := by decide +kernel
theorem d11_moreOf_72 : decode prog_13_method_107_code 72 = .ok (.iload 6, 2) := by decide +kernel
theorem d11_moreOf_74 : decode prog_13_method_107_code 74 = .ok (.iadd, 1) := by decide +kernel
theorem d11_moreOf_75 : decode prog_13_method_107_code 75 = .ok (.invokestatic 35, 3) := by decide +kernel
theorem d11_moreOf_78 : decode prog_13_method_107_code 78 = .ok (.iaload, 1) := by decide +kernel
theorem d11_moreOf_79 : decode prog_13_method_107_code 79 = .ok (.invokestatic 232, 3) := by decide +kernel
theorem d11_moreOf_82 : decode prog_13_method_107_code 82 = .ok (.lstore 4, 2) := by decide +kernel
theorem d11_moreOf_84 : decode prog_13_method_107_code 84 = .ok (.iinc 6 1, 3) := by decide +kernel
theorem d11_moreOf_87 : decode prog_13_method_107_code 87 = .ok (.goto (-29), 3) := by decide +kernel
theorem d11_moreOf_90 : decode prog_13_method_107_code 90 = .ok (.lload 4, 2) := by decide +kernel
theorem d11_moreOf_92 : decode prog_13_method_107_code 92 = .ok (.aload_n 0, 1) := by decide +kernel
theorem d11_moreOf_93 : decode prog_13_method_107_code 93 = .ok (.iload_n 3, 1) := by decide +kernel
theorem d11_moreOf_94 : decode prog_13_method_107_code 94 = .ok (.invokevirtual 188, 3) := by decide +kernel
theorem d11_moreOf_97 : decode prog_13_method_107_code 97 = .ok (.invokestatic 232, 3) := by decide +kernel
theorem d11_moreOf_100 : decode prog_13_method_107_code 100 = .ok (.aload_n 0, 1) := by decide +kernel
theorem d11_moreOf_101 : decode prog_13_method_107_code 101 = .ok (.getfield 7, 3) := by decide +kernel
theorem d11_moreOf_104 : decode prog_13_method_107_code 104 = .ok (.iload_n 3, 1) := by decide +kernel
theorem d11_moreOf_105 : decode prog_13_method_107_code 105 = .ok (.bipush 12, 2) := by decide +kernel
theorem d11_moreOf_107 : decode prog_13_method_107_code 107 = .ok (.invokestatic 35, 3) := by decide +kernel
theorem d11_moreOf_110 : decode prog_13_method_107_code 110 = .ok (.iaload, 1) := by decide +kernel
theorem d11_moreOf_111 : decode prog_13_method_107_code 111 = .ok (.invokestatic 232, 3) := by decide +kernel
theorem d11_moreOf_114 : decode prog_13_method_107_code 114 = .ok (.aload_n 0, 1) := by decide +kernel
theorem d11_moreOf_115 : decode prog_13_method_107_code 115 = .ok (.getfield 7, 3) := by decide +kernel
theorem d11_moreOf_118 : decode prog_13_method_107_code 118 = .ok (.iload_n 3, 1) := by decide +kernel
theorem d11_moreOf_119 : decode prog_13_method_107_code 119 = .ok (.bipush 13, 2) := by decide +kernel
theorem d11_moreOf_121 : decode prog_13_method_107_code 121 = .ok (.invokestatic 35, 3) := by decide +kernel
theorem d11_moreOf_124 : decode prog_13_method_107_code 124 = .ok (.iaload, 1) := by decide +kernel
theorem d11_moreOf_125 : decode prog_13_method_107_code 125 = .ok (.invokestatic 232, 3) := by decide +kernel
theorem d11_moreOf_128 : decode prog_13_method_107_code 128 = .ok (.aload_n 0, 1) := by decide +kernel
theorem d11_moreOf_129 : decode prog_13_method_107_code 129 = .ok (.getfield 7, 3) := by decide +kernel
theorem d11_moreOf_132 : decode prog_13_method_107_code 132 = .ok (.iload_n 3, 1) := by decide +kernel
theorem d11_moreOf_133 : decode prog_13_method_107_code 133 = .ok (.bipush 14, 2) := by decide +kernel
theorem d11_moreOf_135 : decode prog_13_method_107_code 135 = .ok (.invokestatic 35, 3) := by decide +kernel
theorem d11_moreOf_138 : decode prog_13_method_107_code 138 = .ok (.iaload, 1) := by decide +kernel
theorem d11_moreOf_139 : decode prog_13_method_107_code 139 = .ok (.invokestatic 232, 3) := by decide +kernel
theorem d11_moreOf_142 : decode prog_13_method_107_code 142 = .ok (.lstore 4, 2) := by decide +kernel
theorem d11_moreOf_144 : decode prog_13_method_107_code 144 = .ok (.lload 4, 2) := by decide +kernel
theorem d11_moreOf_146 : decode prog_13_method_107_code 146 = .ok (.aload_n 0, 1) := by decide +kernel
theorem d11_moreOf_147 : decode prog_13_method_107_code 147 = .ok (.getfield 7, 3) := by decide +kernel
theorem d11_moreOf_150 : decode prog_13_method_107_code 150 = .ok (.iload_n 3, 1) := by decide +kernel
theorem d11_moreOf_151 : decode prog_13_method_107_code 151 = .ok (.bipush 15, 2) := by decide +kernel
theorem d11_moreOf_153 : decode prog_13_method_107_code 153 = .ok (.invokestatic 35, 3) := by decide +kernel
theorem d11_moreOf_156 : decode prog_13_method_107_code 156 = .ok (.iaload, 1) := by decide +kernel
theorem d11_moreOf_157 : decode prog_13_method_107_code 157 = .ok (.invokestatic 232, 3) := by decide +kernel
theorem d11_moreOf_160 : decode prog_13_method_107_code 160 = .ok (.aload_n 0, 1) := by decide +kernel
theorem d11_moreOf_161 : decode prog_13_method_107_code 161 = .ok (.getfield 7, 3) := by decide +kernel
theorem d11_moreOf_164 : decode prog_13_method_107_code 164 = .ok (.iload_n 3, 1) := by decide +kernel
theorem d11_moreOf_165 : decode prog_13_method_107_code 165 = .ok (.bipush 23, 2) := by decide +kernel
theorem d11_moreOf_167 : decode prog_13_method_107_code 167 = .ok (.invokestatic 35, 3) := by decide +kernel
theorem d11_moreOf_170 : decode prog_13_method_107_code 170 = .ok (.iaload, 1) := by decide +kernel
theorem d11_moreOf_171 : decode prog_13_method_107_code 171 = .ok (.invokestatic 232, 3) := by decide +kernel
theorem d11_moreOf_174 : decode prog_13_method_107_code 174 = .ok (.lstore 4, 2) := by decide +kernel
theorem d11_moreOf_176 : decode prog_13_method_107_code 176 = .ok (.iconst 0, 1) := by decide +kernel
theorem d11_moreOf_177 : decode prog_13_method_107_code 177 = .ok (.istore 6, 2) := by decide +kernel
theorem d11_moreOf_179 : decode prog_13_method_107_code 179 = .ok (.iload 6, 2) := by decide +kernel
theorem d11_moreOf_181 : decode prog_13_method_107_code 181 = .ok (.aload_n 0, 1) := by decide +kernel
theorem d11_moreOf_182 : decode prog_13_method_107_code 182 = .ok (.getfield 7, 3) := by decide +kernel
theorem d11_moreOf_185 : decode prog_13_method_107_code 185 = .ok (.iload_n 3, 1) := by decide +kernel
theorem d11_moreOf_186 : decode prog_13_method_107_code 186 = .ok (.bipush 23, 2) := by decide +kernel
theorem d11_moreOf_188 : decode prog_13_method_107_code 188 = .ok (.invokestatic 35, 3) := by decide +kernel
theorem d11_moreOf_191 : decode prog_13_method_107_code 191 = .ok (.iaload, 1) := by decide +kernel
theorem d11_moreOf_192 : decode prog_13_method_107_code 192 = .ok (.if_icmp .ge 23, 3) := by decide +kernel
theorem d11_moreOf_195 : decode prog_13_method_107_code 195 = .ok (.lload 4, 2) := by decide +kernel
theorem d11_moreOf_197 : decode prog_13_method_107_code 197 = .ok (.aload_n 0, 1) := by decide +kernel
theorem d11_moreOf_198 : decode prog_13_method_107_code 198 = .ok (.iload_n 3, 1) := by decide +kernel
theorem d11_moreOf_199 : decode prog_13_method_107_code 199 = .ok (.iload 6, 2) := by decide +kernel
theorem d11_moreOf_201 : decode prog_13_method_107_code 201 = .ok (.invokevirtual 191, 3) := by decide +kernel
theorem d11_moreOf_204 : decode prog_13_method_107_code 204 = .ok (.invokestatic 232, 3) := by decide +kernel
theorem d11_moreOf_207 : decode prog_13_method_107_code 207 = .ok (.lstore 4, 2) := by decide +kernel
theorem d11_moreOf_209 : decode prog_13_method_107_code 209 = .ok (.iinc 6 1, 3) := by decide +kernel
theorem d11_moreOf_212 : decode prog_13_method_107_code 212 = .ok (.goto (-33), 3) := by decide +kernel
theorem d11_moreOf_215 : decode prog_13_method_107_code 215 = .ok (.lload 4, 2) := by decide +kernel
theorem d11_moreOf_217 : decode prog_13_method_107_code 217 = .ok (.aload_n 0, 1) := by decide +kernel
theorem d11_moreOf_218 : decode prog_13_method_107_code 218 = .ok (.getfield 7, 3) := by decide +kernel
theorem d11_moreOf_221 : decode prog_13_method_107_code 221 = .ok (.iload_n 3, 1) := by decide +kernel
theorem d11_moreOf_222 : decode prog_13_method_107_code 222 = .ok (.bipush 24, 2) := by decide +kernel
theorem d11_moreOf_224 : decode prog_13_method_107_code 224 = .ok (.invokestatic 35, 3) := by decide +kernel
theorem d11_moreOf_227 : decode prog_13_method_107_code 227 = .ok (.iaload, 1) := by decide +kernel
theorem d11_moreOf_228 : decode prog_13_method_107_code 228 = .ok (.invokestatic 232, 3) := by decide +kernel
theorem d11_moreOf_231 : decode prog_13_method_107_code 231 = .ok (.lstore 4, 2) := by decide +kernel
theorem d11_moreOf_233 : decode prog_13_method_107_code 233 = .ok (.iconst 0, 1) := by decide +kernel
theorem d11_moreOf_234 : decode prog_13_method_107_code 234 = .ok (.istore 6, 2) := by decide +kernel
theorem d11_moreOf_236 : decode prog_13_method_107_code 236 = .ok (.iload 6, 2) := by decide +kernel
theorem d11_moreOf_238 : decode prog_13_method_107_code 238 = .ok (.aload_n 0, 1) := by decide +kernel
theorem d11_moreOf_239 : decode prog_13_method_107_code 239 = .ok (.getfield 7, 3) := by decide +kernel
theorem d11_moreOf_242 : decode prog_13_method_107_code 242 = .ok (.iload_n 3, 1) := by decide +kernel
theorem d11_moreOf_243 : decode prog_13_method_107_code 243 = .ok (.bipush 24, 2) := by decide +kernel
theorem d11_moreOf_245 : decode prog_13_method_107_code 245 = .ok (.invokestatic 35, 3) := by decide +kernel
theorem d11_moreOf_248 : decode prog_13_method_107_code 248 = .ok (.iaload, 1) := by decide +kernel
theorem d11_moreOf_249 : decode prog_13_method_107_code 249 = .ok (.if_icmp .ge 53, 3) := by decide +kernel
theorem d11_moreOf_252 : decode prog_13_method_107_code 252 = .ok (.lload 4, 2) := by decide +kernel
theorem d11_moreOf_254 : decode prog_13_method_107_code 254 = .ok (.aload_n 0, 1) := by decide +kernel
theorem d11_moreOf_255 : decode prog_13_method_107_code 255 = .ok (.iload_n 3, 1) := by decide +kernel
theorem d11_moreOf_256 : decode prog_13_method_107_code 256 = .ok (.iload 6, 2) := by decide +kernel
theorem d11_moreOf_258 : decode prog_13_method_107_code 258 = .ok (.invokevirtual 198, 3) := by decide +kernel
theorem d11_moreOf_261 : decode prog_13_method_107_code 261 = .ok (.invokestatic 232, 3) := by decide +kernel
theorem d11_moreOf_264 : decode prog_13_method_107_code 264 = .ok (.aload_n 0, 1) := by decide +kernel
theorem d11_moreOf_265 : decode prog_13_method_107_code 265 = .ok (.getfield 7, 3) := by decide +kernel
theorem d11_moreOf_268 : decode prog_13_method_107_code 268 = .ok (.iload_n 3, 1) := by decide +kernel
theorem d11_moreOf_269 : decode prog_13_method_107_code 269 = .ok (.iload 6, 2) := by decide +kernel
theorem d11_moreOf_271 : decode prog_13_method_107_code 271 = .ok (.iconst 2, 1) := by decide +kernel
theorem d11_moreOf_272 : decode prog_13_method_107_code 272 = .ok (.invokestatic 159, 3) := by decide +kernel
theorem d11_moreOf_275 : decode prog_13_method_107_code 275 = .ok (.iaload, 1) := by decide +kernel
theorem d11_moreOf_276 : decode prog_13_method_107_code 276 = .ok (.invokestatic 232, 3) := by decide +kernel
theorem d11_moreOf_279 : decode prog_13_method_107_code 279 = .ok (.aload_n 0, 1) := by decide +kernel
theorem d11_moreOf_280 : decode prog_13_method_107_code 280 = .ok (.getfield 7, 3) := by decide +kernel
theorem d11_moreOf_283 : decode prog_13_method_107_code 283 = .ok (.iload_n 3, 1) := by decide +kernel
theorem d11_moreOf_284 : decode prog_13_method_107_code 284 = .ok (.iload 6, 2) := by decide +kernel
theorem d11_moreOf_286 : decode prog_13_method_107_code 286 = .ok (.iconst 3, 1) := by decide +kernel
theorem d11_moreOf_287 : decode prog_13_method_107_code 287 = .ok (.invokestatic 159, 3) := by decide +kernel
theorem d11_moreOf_290 : decode prog_13_method_107_code 290 = .ok (.iaload, 1) := by decide +kernel
theorem d11_moreOf_291 : decode prog_13_method_107_code 291 = .ok (.invokestatic 232, 3) := by decide +kernel
theorem d11_moreOf_294 : decode prog_13_method_107_code 294 = .ok (.lstore 4, 2) := by decide +kernel
theorem d11_moreOf_296 : decode prog_13_method_107_code 296 = .ok (.iinc 6 1, 3) := by decide +kernel
theorem d11_moreOf_299 : decode prog_13_method_107_code 299 = .ok (.goto (-63), 3) := by decide +kernel
theorem d11_moreOf_302 : decode prog_13_method_107_code 302 = .ok (.lload 4, 2) := by decide +kernel
theorem d11_moreOf_304 : decode prog_13_method_107_code 304 = .ok (.lreturn, 1) := by decide +kernel
theorem d11_checksum_0 : decode prog_13_method_108_code 0 = .ok (.ldc2_w 236, 3) := by decide +kernel
theorem d11_checksum_3 : decode prog_13_method_108_code 3 = .ok (.aload_n 0, 1) := by decide +kernel
theorem d11_checksum_4 : decode prog_13_method_108_code 4 = .ok (.getfield 7, 3) := by decide +kernel
theorem d11_checksum_7 : decode prog_13_method_108_code 7 = .ok (.sipush 1024, 3) := by decide +kernel
theorem d11_checksum_10 : decode prog_13_method_108_code 10 = .ok (.iaload, 1) := by decide +kernel
theorem d11_checksum_11 : decode prog_13_method_108_code 11 = .ok (.invokestatic 232, 3) := by decide +kernel
theorem d11_checksum_14 : decode prog_13_method_108_code 14 = .ok (.lstore_n 1, 1) := by decide +kernel
theorem d11_checksum_15 : decode prog_13_method_108_code 15 = .ok (.iconst 0, 1) := by decide +kernel
theorem d11_checksum_16 : decode prog_13_method_108_code 16 = .ok (.istore_n 3, 1) := by decide +kernel
theorem d11_checksum_17 : decode prog_13_method_108_code 17 = .ok (.iload_n 3, 1) := by decide +kernel
theorem d11_checksum_18 : decode prog_13_method_108_code 18 = .ok (.iconst 4, 1) := by decide +kernel
theorem d11_checksum_19 : decode prog_13_method_108_code 19 = .ok (.if_icmp .ge 16, 3) := by decide +kernel
theorem d11_checksum_22 : decode prog_13_method_108_code 22 = .ok (.aload_n 0, 1) := by decide +kernel
theorem d11_checksum_23 : decode prog_13_method_108_code 23 = .ok (.lload_n 1, 1) := by decide +kernel
theorem d11_checksum_24 : decode prog_13_method_108_code 24 = .ok (.iload_n 3, 1) := by decide +kernel
theorem d11_checksum_25 : decode prog_13_method_108_code 25 = .ok (.invokevirtual 238, 3) := by decide +kernel
theorem d11_checksum_28 : decode prog_13_method_108_code 28 = .ok (.lstore_n 1, 1) := by decide +kernel
theorem d11_checksum_29 : decode prog_13_method_108_code 29 = .ok (.iinc 3 1, 3) := by decide +kernel
theorem d11_checksum_32 : decode prog_13_method_108_code 32 = .ok (.goto (-15), 3) := by decide +kernel
theorem d11_checksum_35 : decode prog_13_method_108_code 35 = .ok (.iconst 1, 1) := by decide +kernel
theorem d11_checksum_36 : decode prog_13_method_108_code 36 = .ok (.istore_n 3, 1) := by decide +kernel
theorem d11_checksum_37 : decode prog_13_method_108_code 37 = .ok (.iload_n 3, 1) := by decide +kernel
theorem d11_checksum_38 : decode prog_13_method_108_code 38 = .ok (.bipush 32, 2) := by decide +kernel
theorem d11_checksum_40 : decode prog_13_method_108_code 40 = .ok (.if_icmp .gt 19, 3) := by decide +kernel
theorem d11_checksum_43 : decode prog_13_method_108_code 43 = .ok (.lload_n 1, 1) := by decide +kernel
theorem d11_checksum_44 : decode prog_13_method_108_code 44 = .ok (.aload_n 0, 1) := by decide +kernel
theorem d11_checksum_45 : decode prog_13_method_108_code 45 = .ok (.iload_n 3, 1) := by decide +kernel
theorem d11_checksum_46 : decode prog_13_method_108_code 46 = .ok (.invokevirtual 241, 3) := by decide +kernel
theorem d11_checksum_49 : decode prog_13_method_108_code 49 = .ok (.invokestatic 232, 3) := by decide +kernel
theorem d11_checksum_52 : decode prog_13_method_108_code 52 = .ok (.lstore_n 1, 1) := by decide +kernel
theorem d11_checksum_53 : decode prog_13_method_108_code 53 = .ok (.iinc 3 1, 3) := by decide +kernel
theorem d11_checksum_56 : decode prog_13_method_108_code 56 = .ok (.goto (-19), 3) := by decide +kernel
theorem d11_checksum_59 : decode prog_13_method_108_code 59 = .ok (.lload_n 1, 1) := by decide +kernel
theorem d11_checksum_60 : decode prog_13_method_108_code 60 = .ok (.lreturn, 1) := by decide +kernel

theorem d11_init_0 : decode prog_13_method_1_code 0 = .ok (.aload_n 0, 1) := by decide +kernel
theorem d11_init_1 : decode prog_13_method_1_code 1 = .ok (.invokespecial 1, 3) := by decide +kernel
theorem d11_init_4 : decode prog_13_method_1_code 4 = .ok (.aload_n 0, 1) := by decide +kernel
theorem d11_init_5 : decode prog_13_method_1_code 5 = .ok (.sipush 1310, 3) := by decide +kernel
theorem d11_init_8 : decode prog_13_method_1_code 8 = .ok (.newarray .int, 2) := by decide +kernel
theorem d11_init_10 : decode prog_13_method_1_code 10 = .ok (.putfield 7, 3) := by decide +kernel
theorem d11_init_13 : decode prog_13_method_1_code 13 = .ok (.aload_n 0, 1) := by decide +kernel
theorem d11_init_14 : decode prog_13_method_1_code 14 = .ok (.sipush 1310, 3) := by decide +kernel
theorem d11_init_17 : decode prog_13_method_1_code 17 = .ok (.newarray .int, 2) := by decide +kernel
theorem d11_init_19 : decode prog_13_method_1_code 19 = .ok (.putfield 13, 3) := by decide +kernel
theorem d11_init_22 : decode prog_13_method_1_code 22 = .ok (.aload_n 0, 1) := by decide +kernel
theorem d11_init_23 : decode prog_13_method_1_code 23 = .ok (.sipush 2620, 3) := by decide +kernel
theorem d11_init_26 : decode prog_13_method_1_code 26 = .ok (.newarray .int, 2) := by decide +kernel
theorem d11_init_28 : decode prog_13_method_1_code 28 = .ok (.putfield 16, 3) := by decide +kernel
theorem d11_init_31 : decode prog_13_method_1_code 31 = .ok (.aload_n 0, 1) := by decide +kernel
theorem d11_init_32 : decode prog_13_method_1_code 32 = .ok (.iconst 2, 1) := by decide +kernel
theorem d11_init_33 : decode prog_13_method_1_code 33 = .ok (.newarray .boolean, 2) := by decide +kernel
theorem d11_init_35 : decode prog_13_method_1_code 35 = .ok (.putfield 19, 3) := by decide +kernel
theorem d11_init_38 : decode prog_13_method_1_code 38 = .ok (.aload_n 0, 1) := by decide +kernel
theorem d11_init_39 : decode prog_13_method_1_code 39 = .ok (.bipush 120, 2) := by decide +kernel
theorem d11_init_41 : decode prog_13_method_1_code 41 = .ok (.newarray .int, 2) := by decide +kernel
theorem d11_init_43 : decode prog_13_method_1_code 43 = .ok (.putfield 23, 3) := by decide +kernel
theorem d11_init_46 : decode prog_13_method_1_code 46 = .ok (.aload_n 0, 1) := by decide +kernel
theorem d11_init_47 : decode prog_13_method_1_code 47 = .ok (.bipush 32, 2) := by decide +kernel
theorem d11_init_49 : decode prog_13_method_1_code 49 = .ok (.newarray .int, 2) := by decide +kernel
theorem d11_init_51 : decode prog_13_method_1_code 51 = .ok (.putfield 26, 3) := by decide +kernel
theorem d11_init_54 : decode prog_13_method_1_code 54 = .ok (.aload_n 0, 1) := by decide +kernel
theorem d11_init_55 : decode prog_13_method_1_code 55 = .ok (.bipush 66, 2) := by decide +kernel
theorem d11_init_57 : decode prog_13_method_1_code 57 = .ok (.newarray .int, 2) := by decide +kernel
theorem d11_init_59 : decode prog_13_method_1_code 59 = .ok (.putfield 29, 3) := by decide +kernel
theorem d11_init_62 : decode prog_13_method_1_code 62 = .ok (.aload_n 0, 1) := by decide +kernel
theorem d11_init_63 : decode prog_13_method_1_code 63 = .ok (.iconst 5, 1) := by decide +kernel
theorem d11_init_64 : decode prog_13_method_1_code 64 = .ok (.newarray .int, 2) := by decide +kernel
theorem d11_init_66 : decode prog_13_method_1_code 66 = .ok (.putfield 32, 3) := by decide +kernel
theorem d11_init_69 : decode prog_13_method_1_code 69 = .ok (.aload_n 0, 1) := by decide +kernel
theorem d11_init_70 : decode prog_13_method_1_code 70 = .ok (.getfield 7, 3) := by decide +kernel
theorem d11_init_73 : decode prog_13_method_1_code 73 = .ok (.sipush 1025, 3) := by decide +kernel
theorem d11_init_76 : decode prog_13_method_1_code 76 = .ok (.sipush 128, 3) := by decide +kernel
theorem d11_init_79 : decode prog_13_method_1_code 79 = .ok (.iastore, 1) := by decide +kernel
theorem d11_init_80 : decode prog_13_method_1_code 80 = .ok (.aload_n 0, 1) := by decide +kernel
theorem d11_init_81 : decode prog_13_method_1_code 81 = .ok (.getfield 7, 3) := by decide +kernel
theorem d11_init_84 : decode prog_13_method_1_code 84 = .ok (.sipush 1026, 3) := by decide +kernel
theorem d11_init_87 : decode prog_13_method_1_code 87 = .ok (.sipush 256, 3) := by decide +kernel
theorem d11_init_90 : decode prog_13_method_1_code 90 = .ok (.iastore, 1) := by decide +kernel
theorem d11_init_91 : decode prog_13_method_1_code 91 = .ok (.aload_n 0, 1) := by decide +kernel
theorem d11_init_92 : decode prog_13_method_1_code 92 = .ok (.getfield 7, 3) := by decide +kernel
theorem d11_init_95 : decode prog_13_method_1_code 95 = .ok (.sipush 1027, 3) := by decide +kernel
theorem d11_init_98 : decode prog_13_method_1_code 98 = .ok (.iconst 4, 1) := by decide +kernel
theorem d11_init_99 : decode prog_13_method_1_code 99 = .ok (.iastore, 1) := by decide +kernel
theorem d11_init_100 : decode prog_13_method_1_code 100 = .ok (.iconst 0, 1) := by decide +kernel
theorem d11_init_101 : decode prog_13_method_1_code 101 = .ok (.istore_n 1, 1) := by decide +kernel
theorem d11_init_102 : decode prog_13_method_1_code 102 = .ok (.iload_n 1, 1) := by decide +kernel
theorem d11_init_103 : decode prog_13_method_1_code 103 = .ok (.iconst 4, 1) := by decide +kernel
theorem d11_init_104 : decode prog_13_method_1_code 104 = .ok (.if_icmp .ge 20, 3) := by decide +kernel
theorem d11_init_107 : decode prog_13_method_1_code 107 = .ok (.aload_n 0, 1) := by decide +kernel
theorem d11_init_108 : decode prog_13_method_1_code 108 = .ok (.getfield 7, 3) := by decide +kernel
theorem d11_init_111 : decode prog_13_method_1_code 111 = .ok (.iload_n 1, 1) := by decide +kernel
theorem d11_init_112 : decode prog_13_method_1_code 112 = .ok (.iconst 0, 1) := by decide +kernel
theorem d11_init_113 : decode prog_13_method_1_code 113 = .ok (.invokestatic 35, 3) := by decide +kernel
theorem d11_init_116 : decode prog_13_method_1_code 116 = .ok (.iconst 3, 1) := by decide +kernel
theorem d11_init_117 : decode prog_13_method_1_code 117 = .ok (.iastore, 1) := by decide +kernel
theorem d11_init_118 : decode prog_13_method_1_code 118 = .ok (.iinc 1 1, 3) := by decide +kernel
theorem d11_init_121 : decode prog_13_method_1_code 121 = .ok (.goto (-19), 3) := by decide +kernel
theorem d11_init_124 : decode prog_13_method_1_code 124 = .ok (.return_, 1) := by decide +kernel
theorem d11_in_0 : decode prog_13_method_3_code 0 = .ok (.iload_n 0, 1) := by decide +kernel
theorem d11_in_1 : decode prog_13_method_3_code 1 = .ok (.iload_n 1, 1) := by decide +kernel
theorem d11_in_2 : decode prog_13_method_3_code 2 = .ok (.if_icmp .lt 12, 3) := by decide +kernel
theorem d11_in_5 : decode prog_13_method_3_code 5 = .ok (.iload_n 0, 1) := by decide +kernel
theorem d11_in_6 : decode prog_13_method_3_code 6 = .ok (.iload_n 2, 1) := by decide +kernel
theorem d11_in_7 : decode prog_13_method_3_code 7 = .ok (.if_icmp .gt 7, 3) := by decide +kernel
theorem d11_in_10 : decode prog_13_method_3_code 10 = .ok (.iconst 1, 1) := by decide +kernel
theorem d11_in_11 : decode prog_13_method_3_code 11 = .ok (.goto 4, 3) := by decide +kernel
theorem d11_in_14 : decode prog_13_method_3_code 14 = .ok (.iconst 0, 1) := by decide +kernel
theorem d11_in_15 : decode prog_13_method_3_code 15 = .ok (.ireturn, 1) := by decide +kernel
theorem d11_at_0 : decode prog_13_method_4_code 0 = .ok (.sipush 256, 3) := by decide +kernel
theorem d11_at_3 : decode prog_13_method_4_code 3 = .ok (.iload_n 0, 1) := by decide +kernel
theorem d11_at_4 : decode prog_13_method_4_code 4 = .ok (.imul, 1) := by decide +kernel
theorem d11_at_5 : decode prog_13_method_4_code 5 = .ok (.iload_n 1, 1) := by decide +kernel
theorem d11_at_6 : decode prog_13_method_4_code 6 = .ok (.iadd, 1) := by decide +kernel
theorem d11_at_7 : decode prog_13_method_4_code 7 = .ok (.ireturn, 1) := by decide +kernel
theorem d11_wait_0 : decode prog_13_method_5_code 0 = .ok (.sipush 256, 3) := by decide +kernel
theorem d11_wait_3 : decode prog_13_method_5_code 3 = .ok (.iload_n 0, 1) := by decide +kernel
theorem d11_wait_4 : decode prog_13_method_5_code 4 = .ok (.imul, 1) := by decide +kernel
theorem d11_wait_5 : decode prog_13_method_5_code 5 = .ok (.bipush 30, 2) := by decide +kernel
theorem d11_wait_7 : decode prog_13_method_5_code 7 = .ok (.iadd, 1) := by decide +kernel
theorem d11_wait_8 : decode prog_13_method_5_code 8 = .ok (.iconst 5, 1) := by decide +kernel
theorem d11_wait_9 : decode prog_13_method_5_code 9 = .ok (.iload_n 1, 1) := by decide +kernel
theorem d11_wait_10 : decode prog_13_method_5_code 10 = .ok (.imul, 1) := by decide +kernel
theorem d11_wait_11 : decode prog_13_method_5_code 11 = .ok (.iadd, 1) := by decide +kernel
theorem d11_wait_12 : decode prog_13_method_5_code 12 = .ok (.iload_n 2, 1) := by decide +kernel
theorem d11_wait_13 : decode prog_13_method_5_code 13 = .ok (.iadd, 1) := by decide +kernel
theorem d11_wait_14 : decode prog_13_method_5_code 14 = .ok (.ireturn, 1) := by decide +kernel
theorem d11_got_0 : decode prog_13_method_6_code 0 = .ok (.sipush 256, 3) := by decide +kernel
theorem d11_got_3 : decode prog_13_method_6_code 3 = .ok (.iload_n 0, 1) := by decide +kernel
theorem d11_got_4 : decode prog_13_method_6_code 4 = .ok (.imul, 1) := by decide +kernel
theorem d11_got_5 : decode prog_13_method_6_code 5 = .ok (.bipush 50, 2) := by decide +kernel
theorem d11_got_7 : decode prog_13_method_6_code 7 = .ok (.iadd, 1) := by decide +kernel
theorem d11_got_8 : decode prog_13_method_6_code 8 = .ok (.iconst 4, 1) := by decide +kernel
theorem d11_got_9 : decode prog_13_method_6_code 9 = .ok (.iload_n 1, 1) := by decide +kernel
theorem d11_got_10 : decode prog_13_method_6_code 10 = .ok (.imul, 1) := by decide +kernel
theorem d11_got_11 : decode prog_13_method_6_code 11 = .ok (.iadd, 1) := by decide +kernel
theorem d11_got_12 : decode prog_13_method_6_code 12 = .ok (.iload_n 2, 1) := by decide +kernel
theorem d11_got_13 : decode prog_13_method_6_code 13 = .ok (.iadd, 1) := by decide +kernel
theorem d11_got_14 : decode prog_13_method_6_code 14 = .ok (.ireturn, 1) := by decide +kernel
theorem d11_answer_0 : decode prog_13_method_7_code 0 = .ok (.sipush 256, 3) := by decide +kernel
theorem d11_answer_3 : decode prog_13_method_7_code 3 = .ok (.iload_n 0, 1) := by decide +kernel
theorem d11_answer_4 : decode prog_13_method_7_code 4 = .ok (.imul, 1) := by decide +kernel
theorem d11_answer_5 : decode prog_13_method_7_code 5 = .ok (.bipush 74, 2) := by decide +kernel
theorem d11_answer_7 : decode prog_13_method_7_code 7 = .ok (.iadd, 1) := by decide +kernel
theorem d11_answer_8 : decode prog_13_method_7_code 8 = .ok (.iconst 3, 1) := by decide +kernel
theorem d11_answer_9 : decode prog_13_method_7_code 9 = .ok (.iload_n 1, 1) := by decide +kernel
theorem d11_answer_10 : decode prog_13_method_7_code 10 = .ok (.imul, 1) := by decide +kernel
theorem d11_answer_11 : decode prog_13_method_7_code 11 = .ok (.iadd, 1) := by decide +kernel
theorem d11_answer_12 : decode prog_13_method_7_code 12 = .ok (.iload_n 2, 1) := by decide +kernel
theorem d11_answer_13 : decode prog_13_method_7_code 13 = .ok (.iadd, 1) := by decide +kernel
theorem d11_answer_14 : decode prog_13_method_7_code 14 = .ok (.ireturn, 1) := by decide +kernel
theorem d11_isNode_0 : decode prog_13_method_8_code 0 = .ok (.iload_n 0, 1) := by decide +kernel
theorem d11_isNode_1 : decode prog_13_method_8_code 1 = .ok (.iconst 0, 1) := by decide +kernel
theorem d11_isNode_2 : decode prog_13_method_8_code 2 = .ok (.iconst 3, 1) := by decide +kernel
theorem d11_isNode_3 : decode prog_13_method_8_code 3 = .ok (.invokestatic 39, 3) := by decide +kernel
theorem d11_isNode_6 : decode prog_13_method_8_code 6 = .ok (.ireturn, 1) := by decide +kernel
theorem d11_isFrame_0 : decode prog_13_method_9_code 0 = .ok (.iload_n 0, 1) := by decide +kernel
theorem d11_isFrame_1 : decode prog_13_method_9_code 1 = .ok (.iconst 0, 1) := by decide +kernel
theorem d11_isFrame_2 : decode prog_13_method_9_code 2 = .ok (.sipush 2047, 3) := by decide +kernel
theorem d11_isFrame_5 : decode prog_13_method_9_code 5 = .ok (.invokestatic 39, 3) := by decide +kernel
theorem d11_isFrame_8 : decode prog_13_method_9_code 8 = .ok (.ifCond .eq 24, 3) := by decide +kernel
theorem d11_isFrame_11 : decode prog_13_method_9_code 11 = .ok (.iload_n 2, 1) := by decide +kernel
theorem d11_isFrame_12 : decode prog_13_method_9_code 12 = .ok (.iconst 0, 1) := by decide +kernel
theorem d11_isFrame_13 : decode prog_13_method_9_code 13 = .ok (.iconst 4, 1) := by decide +kernel
theorem d11_isFrame_14 : decode prog_13_method_9_code 14 = .ok (.invokestatic 39, 3) := by decide +kernel
theorem d11_isFrame_17 : decode prog_13_method_9_code 17 = .ok (.ifCond .eq 15, 3) := by decide +kernel
theorem d11_isFrame_20 : decode prog_13_method_9_code 20 = .ok (.iload_n 1, 1) := by decide +kernel
theorem d11_isFrame_21 : decode prog_13_method_9_code 21 = .ok (.ifCond .eq 7, 3) := by decide +kernel
theorem d11_isFrame_24 : decode prog_13_method_9_code 24 = .ok (.iload_n 3, 1) := by decide +kernel
theorem d11_isFrame_25 : decode prog_13_method_9_code 25 = .ok (.ifCond .ne 7, 3) := by decide +kernel
theorem d11_isFrame_28 : decode prog_13_method_9_code 28 = .ok (.iconst 1, 1) := by decide +kernel
theorem d11_isFrame_29 : decode prog_13_method_9_code 29 = .ok (.goto 4, 3) := by decide +kernel
theorem d11_isFrame_32 : decode prog_13_method_9_code 32 = .ok (.iconst 0, 1) := by decide +kernel
theorem d11_isFrame_33 : decode prog_13_method_9_code 33 = .ok (.istore 4, 2) := by decide +kernel
theorem d11_isFrame_35 : decode prog_13_method_9_code 35 = .ok (.iload 4, 2) := by decide +kernel
theorem d11_isFrame_37 : decode prog_13_method_9_code 37 = .ok (.ifCond .eq 21, 3) := by decide +kernel
theorem d11_isFrame_40 : decode prog_13_method_9_code 40 = .ok (.iload_n 2, 1) := by decide +kernel
theorem d11_isFrame_41 : decode prog_13_method_9_code 41 = .ok (.iconst 4, 1) := by decide +kernel
theorem d11_isFrame_42 : decode prog_13_method_9_code 42 = .ok (.if_icmp .eq 12, 3) := by decide +kernel
theorem d11_isFrame_45 : decode prog_13_method_9_code 45 = .ok (.iload_n 3, 1) := by decide +kernel
theorem d11_isFrame_46 : decode prog_13_method_9_code 46 = .ok (.bipush 8, 2) := by decide +kernel
theorem d11_isFrame_48 : decode prog_13_method_9_code 48 = .ok (.iload_n 2, 1) := by decide +kernel
theorem d11_isFrame_49 : decode prog_13_method_9_code 49 = .ok (.imul, 1) := by decide +kernel
theorem d11_isFrame_50 : decode prog_13_method_9_code 50 = .ok (.iushr, 1) := by decide +kernel
theorem d11_isFrame_51 : decode prog_13_method_9_code 51 = .ok (.ifCond .ne 7, 3) := by decide +kernel
theorem d11_isFrame_54 : decode prog_13_method_9_code 54 = .ok (.iconst 1, 1) := by decide +kernel
theorem d11_isFrame_55 : decode prog_13_method_9_code 55 = .ok (.goto 4, 3) := by decide +kernel
theorem d11_isFrame_58 : decode prog_13_method_9_code 58 = .ok (.iconst 0, 1) := by decide +kernel
theorem d11_isFrame_59 : decode prog_13_method_9_code 59 = .ok (.ireturn, 1) := by decide +kernel
theorem d11_crcOf_0 : decode prog_13_method_10_code 0 = .ok (.iconst 0, 1) := by decide +kernel
theorem d11_crcOf_1 : decode prog_13_method_10_code 1 = .ok (.istore_n 3, 1) := by decide +kernel
theorem d11_crcOf_2 : decode prog_13_method_10_code 2 = .ok (.iconst 0, 1) := by decide +kernel
theorem d11_crcOf_3 : decode prog_13_method_10_code 3 = .ok (.istore 4, 2) := by decide +kernel
theorem d11_crcOf_5 : decode prog_13_method_10_code 5 = .ok (.iload 4, 2) := by decide +kernel
theorem d11_crcOf_7 : decode prog_13_method_10_code 7 = .ok (.iload_n 2, 1) := by decide +kernel
theorem d11_crcOf_8 : decode prog_13_method_10_code 8 = .ok (.if_icmp .ge 48, 3) := by decide +kernel
theorem d11_crcOf_11 : decode prog_13_method_10_code 11 = .ok (.aload_n 0, 1) := by decide +kernel
theorem d11_crcOf_12 : decode prog_13_method_10_code 12 = .ok (.iload_n 1, 1) := by decide +kernel
theorem d11_crcOf_13 : decode prog_13_method_10_code 13 = .ok (.iload 4, 2) := by decide +kernel
theorem d11_crcOf_15 : decode prog_13_method_10_code 15 = .ok (.iadd, 1) := by decide +kernel
theorem d11_crcOf_16 : decode prog_13_method_10_code 16 = .ok (.iaload, 1) := by decide +kernel
theorem d11_crcOf_17 : decode prog_13_method_10_code 17 = .ok (.iload_n 3, 1) := by decide +kernel
theorem d11_crcOf_18 : decode prog_13_method_10_code 18 = .ok (.bipush 14, 2) := by decide +kernel
theorem d11_crcOf_20 : decode prog_13_method_10_code 20 = .ok (.ishr, 1) := by decide +kernel
theorem d11_crcOf_21 : decode prog_13_method_10_code 21 = .ok (.iconst 1, 1) := by decide +kernel
theorem d11_crcOf_22 : decode prog_13_method_10_code 22 = .ok (.iand, 1) := by decide +kernel
theorem d11_crcOf_23 : decode prog_13_method_10_code 23 = .ok (.ixor, 1) := by decide +kernel
theorem d11_crcOf_24 : decode prog_13_method_10_code 24 = .ok (.istore 5, 2) := by decide +kernel
theorem d11_crcOf_26 : decode prog_13_method_10_code 26 = .ok (.iload_n 3, 1) := by decide +kernel
theorem d11_crcOf_27 : decode prog_13_method_10_code 27 = .ok (.iconst 1, 1) := by decide +kernel
theorem d11_crcOf_28 : decode prog_13_method_10_code 28 = .ok (.ishl, 1) := by decide +kernel
theorem d11_crcOf_29 : decode prog_13_method_10_code 29 = .ok (.sipush 32767, 3) := by decide +kernel
theorem d11_crcOf_32 : decode prog_13_method_10_code 32 = .ok (.iand, 1) := by decide +kernel
theorem d11_crcOf_33 : decode prog_13_method_10_code 33 = .ok (.istore_n 3, 1) := by decide +kernel
theorem d11_crcOf_34 : decode prog_13_method_10_code 34 = .ok (.iload 5, 2) := by decide +kernel
theorem d11_crcOf_36 : decode prog_13_method_10_code 36 = .ok (.iconst 1, 1) := by decide +kernel
theorem d11_crcOf_37 : decode prog_13_method_10_code 37 = .ok (.if_icmp .ne 11, 3) := by decide +kernel
theorem d11_crcOf_40 : decode prog_13_method_10_code 40 = .ok (.iload_n 3, 1) := by decide +kernel
theorem d11_crcOf_41 : decode prog_13_method_10_code 41 = .ok (.sipush 17817, 3) := by decide +kernel
theorem d11_crcOf_44 : decode prog_13_method_10_code 44 = .ok (.ixor, 1) := by decide +kernel
theorem d11_crcOf_45 : decode prog_13_method_10_code 45 = .ok (.goto 4, 3) := by decide +kernel
theorem d11_crcOf_48 : decode prog_13_method_10_code 48 = .ok (.iload_n 3, 1) := by decide +kernel
theorem d11_crcOf_49 : decode prog_13_method_10_code 49 = .ok (.istore_n 3, 1) := by decide +kernel
theorem d11_crcOf_50 : decode prog_13_method_10_code 50 = .ok (.iinc 4 1, 3) := by decide +kernel
theorem d11_crcOf_53 : decode prog_13_method_10_code 53 = .ok (.goto (-48), 3) := by decide +kernel
theorem d11_crcOf_56 : decode prog_13_method_10_code 56 = .ok (.iload_n 3, 1) := by decide +kernel
theorem d11_crcOf_57 : decode prog_13_method_10_code 57 = .ok (.ireturn, 1) := by decide +kernel
theorem d11_bits_0 : decode prog_13_method_11_code 0 = .ok (.iconst 0, 1) := by decide +kernel
theorem d11_bits_1 : decode prog_13_method_11_code 1 = .ok (.istore 4, 2) := by decide +kernel
theorem d11_bits_3 : decode prog_13_method_11_code 3 = .ok (.iload 4, 2) := by decide +kernel
theorem d11_bits_5 : decode prog_13_method_11_code 5 = .ok (.iload_n 3, 1) := by decide +kernel
theorem d11_bits_6 : decode prog_13_method_11_code 6 = .ok (.if_icmp .ge 25, 3) := by decide +kernel
theorem d11_bits_9 : decode prog_13_method_11_code 9 = .ok (.aload_n 0, 1) := by decide +kernel
theorem d11_bits_10 : decode prog_13_method_11_code 10 = .ok (.iload_n 1, 1) := by decide +kernel
theorem d11_bits_11 : decode prog_13_method_11_code 11 = .ok (.iload 4, 2) := by decide +kernel
theorem d11_bits_13 : decode prog_13_method_11_code 13 = .ok (.iadd, 1) := by decide +kernel
theorem d11_bits_14 : decode prog_13_method_11_code 14 = .ok (.iload_n 2, 1) := by decide +kernel
theorem d11_bits_15 : decode prog_13_method_11_code 15 = .ok (.iload_n 3, 1) := by decide +kernel
theorem d11_bits_16 : decode prog_13_method_11_code 16 = .ok (.iconst 1, 1) := by decide +kernel
theorem d11_bits_17 : decode prog_13_method_11_code 17 = .ok (.isub, 1) := by decide +kernel
theorem d11_bits_18 : decode prog_13_method_11_code 18 = .ok (.iload 4, 2) := by decide +kernel
theorem d11_bits_20 : decode prog_13_method_11_code 20 = .ok (.isub, 1) := by decide +kernel
theorem d11_bits_21 : decode prog_13_method_11_code 21 = .ok (.ishr, 1) := by decide +kernel
theorem d11_bits_22 : decode prog_13_method_11_code 22 = .ok (.iconst 1, 1) := by decide +kernel
theorem d11_bits_23 : decode prog_13_method_11_code 23 = .ok (.iand, 1) := by decide +kernel
theorem d11_bits_24 : decode prog_13_method_11_code 24 = .ok (.iastore, 1) := by decide +kernel
theorem d11_bits_25 : decode prog_13_method_11_code 25 = .ok (.iinc 4 1, 3) := by decide +kernel
theorem d11_bits_28 : decode prog_13_method_11_code 28 = .ok (.goto (-25), 3) := by decide +kernel
theorem d11_bits_31 : decode prog_13_method_11_code 31 = .ok (.return_, 1) := by decide +kernel
theorem d11_lays_0 : decode prog_13_method_12_code 0 = .ok (.aload_n 0, 1) := by decide +kernel
theorem d11_lays_1 : decode prog_13_method_12_code 1 = .ok (.iload_n 1, 1) := by decide +kernel
theorem d11_lays_2 : decode prog_13_method_12_code 2 = .ok (.iconst 0, 1) := by decide +kernel
theorem d11_lays_3 : decode prog_13_method_12_code 3 = .ok (.iastore, 1) := by decide +kernel
theorem d11_lays_4 : decode prog_13_method_12_code 4 = .ok (.aload_n 0, 1) := by decide +kernel
theorem d11_lays_5 : decode prog_13_method_12_code 5 = .ok (.iload_n 1, 1) := by decide +kernel
theorem d11_lays_6 : decode prog_13_method_12_code 6 = .ok (.iconst 1, 1) := by decide +kernel
theorem d11_lays_7 : decode prog_13_method_12_code 7 = .ok (.iadd, 1) := by decide +kernel
theorem d11_lays_8 : decode prog_13_method_12_code 8 = .ok (.iload_n 2, 1) := by decide +kernel
theorem d11_lays_9 : decode prog_13_method_12_code 9 = .ok (.bipush 11, 2) := by decide +kernel
theorem d11_lays_11 : decode prog_13_method_12_code 11 = .ok (.invokestatic 43, 3) := by decide +kernel
theorem d11_lays_14 : decode prog_13_method_12_code 14 = .ok (.aload_n 0, 1) := by decide +kernel
theorem d11_lays_15 : decode prog_13_method_12_code 15 = .ok (.iload_n 1, 1) := by decide +kernel
theorem d11_lays_16 : decode prog_13_method_12_code 16 = .ok (.bipush 12, 2) := by decide +kernel
theorem d11_lays_18 : decode prog_13_method_12_code 18 = .ok (.iadd, 1) := by decide +kernel
theorem d11_lays_19 : decode prog_13_method_12_code 19 = .ok (.iload_n 3, 1) := by decide +kernel
theorem d11_lays_20 : decode prog_13_method_12_code 20 = .ok (.iastore, 1) := by decide +kernel
theorem d11_lays_21 : decode prog_13_method_12_code 21 = .ok (.aload_n 0, 1) := by decide +kernel
theorem d11_lays_22 : decode prog_13_method_12_code 22 = .ok (.iload_n 1, 1) := by decide +kernel
theorem d11_lays_23 : decode prog_13_method_12_code 23 = .ok (.bipush 13, 2) := by decide +kernel
theorem d11_lays_25 : decode prog_13_method_12_code 25 = .ok (.iadd, 1) := by decide +kernel
theorem d11_lays_26 : decode prog_13_method_12_code 26 = .ok (.iconst 0, 1) := by decide +kernel
theorem d11_lays_27 : decode prog_13_method_12_code 27 = .ok (.iastore, 1) := by decide +kernel
theorem d11_lays_28 : decode prog_13_method_12_code 28 = .ok (.aload_n 0, 1) := by decide +kernel
theorem d11_lays_29 : decode prog_13_method_12_code 29 = .ok (.iload_n 1, 1) := by decide +kernel
theorem d11_lays_30 : decode prog_13_method_12_code 30 = .ok (.bipush 14, 2) := by decide +kernel
theorem d11_lays_32 : decode prog_13_method_12_code 32 = .ok (.iadd, 1) := by decide +kernel
theorem d11_lays_33 : decode prog_13_method_12_code 33 = .ok (.iconst 0, 1) := by decide +kernel
theorem d11_lays_34 : decode prog_13_method_12_code 34 = .ok (.iastore, 1) := by decide +kernel
theorem d11_lays_35 : decode prog_13_method_12_code 35 = .ok (.aload_n 0, 1) := by decide +kernel
theorem d11_lays_36 : decode prog_13_method_12_code 36 = .ok (.iload_n 1, 1) := by decide +kernel
theorem d11_lays_37 : decode prog_13_method_12_code 37 = .ok (.bipush 15, 2) := by decide +kernel
theorem d11_lays_39 : decode prog_13_method_12_code 39 = .ok (.iadd, 1) := by decide +kernel
theorem d11_lays_40 : decode prog_13_method_12_code 40 = .ok (.iload 4, 2) := by decide +kernel
theorem d11_lays_42 : decode prog_13_method_12_code 42 = .ok (.iconst 4, 1) := by decide +kernel
theorem d11_lays_43 : decode prog_13_method_12_code 43 = .ok (.invokestatic 43, 3) := by decide +kernel
theorem d11_lays_46 : decode prog_13_method_12_code 46 = .ok (.iload_n 3, 1) := by decide +kernel
theorem d11_lays_47 : decode prog_13_method_12_code 47 = .ok (.iconst 1, 1) := by decide +kernel
theorem d11_lays_48 : decode prog_13_method_12_code 48 = .ok (.if_icmp .ne 7, 3) := by decide +kernel
theorem d11_lays_51 : decode prog_13_method_12_code 51 = .ok (.iconst 0, 1) := by decide +kernel
theorem d11_lays_52 : decode prog_13_method_12_code 52 = .ok (.goto 8, 3) := by decide +kernel
theorem d11_lays_55 : decode prog_13_method_12_code 55 = .ok (.bipush 8, 2) := by decide +kernel
theorem d11_lays_57 : decode prog_13_method_12_code 57 = .ok (.iload 4, 2) := by decide +kernel
theorem d11_lays_59 : decode prog_13_method_12_code 59 = .ok (.imul, 1) := by decide +kernel
theorem d11_lays_60 : decode prog_13_method_12_code 60 = .ok (.istore 6, 2) := by decide +kernel
theorem d11_lays_62 : decode prog_13_method_12_code 62 = .ok (.aload_n 0, 1) := by decide +kernel
theorem d11_lays_63 : decode prog_13_method_12_code 63 = .ok (.iload_n 1, 1) := by decide +kernel
theorem d11_lays_64 : decode prog_13_method_12_code 64 = .ok (.bipush 19, 2) := by decide +kernel
theorem d11_lays_66 : decode prog_13_method_12_code 66 = .ok (.iadd, 1) := by decide +kernel
theorem d11_lays_67 : decode prog_13_method_12_code 67 = .ok (.iload 5, 2) := by decide +kernel
theorem d11_lays_69 : decode prog_13_method_12_code 69 = .ok (.iload 6, 2) := by decide +kernel
theorem d11_lays_71 : decode prog_13_method_12_code 71 = .ok (.invokestatic 43, 3) := by decide +kernel
theorem d11_lays_74 : decode prog_13_method_12_code 74 = .ok (.aload_n 0, 1) := by decide +kernel
theorem d11_lays_75 : decode prog_13_method_12_code 75 = .ok (.iload_n 1, 1) := by decide +kernel
theorem d11_lays_76 : decode prog_13_method_12_code 76 = .ok (.bipush 19, 2) := by decide +kernel
theorem d11_lays_78 : decode prog_13_method_12_code 78 = .ok (.iadd, 1) := by decide +kernel
theorem d11_lays_79 : decode prog_13_method_12_code 79 = .ok (.iload 6, 2) := by decide +kernel
theorem d11_lays_81 : decode prog_13_method_12_code 81 = .ok (.iadd, 1) := by decide +kernel
theorem d11_lays_82 : decode prog_13_method_12_code 82 = .ok (.aload_n 0, 1) := by decide +kernel
theorem d11_lays_83 : decode prog_13_method_12_code 83 = .ok (.iload_n 1, 1) := by decide +kernel
theorem d11_lays_84 : decode prog_13_method_12_code 84 = .ok (.bipush 19, 2) := by decide +kernel
theorem d11_lays_86 : decode prog_13_method_12_code 86 = .ok (.iload 6, 2) := by decide +kernel
theorem d11_lays_88 : decode prog_13_method_12_code 88 = .ok (.iadd, 1) := by decide +kernel
theorem d11_lays_89 : decode prog_13_method_12_code 89 = .ok (.invokestatic 47, 3) := by decide +kernel
theorem d11_lays_92 : decode prog_13_method_12_code 92 = .ok (.bipush 15, 2) := by decide +kernel
theorem d11_lays_94 : decode prog_13_method_12_code 94 = .ok (.invokestatic 43, 3) := by decide +kernel
theorem d11_lays_97 : decode prog_13_method_12_code 97 = .ok (.bipush 34, 2) := by decide +kernel
theorem d11_lays_99 : decode prog_13_method_12_code 99 = .ok (.iload 6, 2) := by decide +kernel
theorem d11_lays_101 : decode prog_13_method_12_code 101 = .ok (.iadd, 1) := by decide +kernel
theorem d11_lays_102 : decode prog_13_method_12_code 102 = .ok (.ireturn, 1) := by decide +kernel
theorem d11_onBus_0 : decode prog_13_method_13_code 0 = .ok (.iconst 0, 1) := by decide +kernel
theorem d11_onBus_1 : decode prog_13_method_13_code 1 = .ok (.istore_n 3, 1) := by decide +kernel
theorem d11_onBus_2 : decode prog_13_method_13_code 2 = .ok (.iconst 0, 1) := by decide +kernel
theorem d11_onBus_3 : decode prog_13_method_13_code 3 = .ok (.istore 4, 2) := by decide +kernel
theorem d11_onBus_5 : decode prog_13_method_13_code 5 = .ok (.iconst (-1), 1) := by decide +kernel
theorem d11_onBus_6 : decode prog_13_method_13_code 6 = .ok (.istore 5, 2) := by decide +kernel
theorem d11_onBus_8 : decode prog_13_method_13_code 8 = .ok (.iconst 0, 1) := by decide +kernel
theorem d11_onBus_9 : decode prog_13_method_13_code 9 = .ok (.istore 6, 2) := by decide +kernel
theorem d11_onBus_11 : decode prog_13_method_13_code 11 = .ok (.iload 6, 2) := by decide +kernel
theorem d11_onBus_13 : decode prog_13_method_13_code 13 = .ok (.iload_n 1, 1) := by decide +kernel
theorem d11_onBus_14 : decode prog_13_method_13_code 14 = .ok (.if_icmp .lt 9, 3) := by decide +kernel
theorem d11_onBus_17 : decode prog_13_method_13_code 17 = .ok (.iload 4, 2) := by decide +kernel
theorem d11_onBus_19 : decode prog_13_method_13_code 19 = .ok (.iconst 5, 1) := by decide +kernel
theorem d11_onBus_20 : decode prog_13_method_13_code 20 = .ok (.if_icmp .ne 82, 3) := by decide +kernel
theorem d11_onBus_23 : decode prog_13_method_13_code 23 = .ok (.iload 4, 2) := by decide +kernel
theorem d11_onBus_25 : decode prog_13_method_13_code 25 = .ok (.iconst 5, 1) := by decide +kernel
theorem d11_onBus_26 : decode prog_13_method_13_code 26 = .ok (.if_icmp .ne 10, 3) := by decide +kernel
theorem d11_onBus_29 : decode prog_13_method_13_code 29 = .ok (.iconst 1, 1) := by decide +kernel
theorem d11_onBus_30 : decode prog_13_method_13_code 30 = .ok (.iload 5, 2) := by decide +kernel
theorem d11_onBus_32 : decode prog_13_method_13_code 32 = .ok (.isub, 1) := by decide +kernel
theorem d11_onBus_33 : decode prog_13_method_13_code 33 = .ok (.goto 10, 3) := by decide +kernel
theorem d11_onBus_36 : decode prog_13_method_13_code 36 = .ok (.aload_n 0, 1) := by decide +kernel
theorem d11_onBus_37 : decode prog_13_method_13_code 37 = .ok (.getfield 29, 3) := by decide +kernel
theorem d11_onBus_40 : decode prog_13_method_13_code 40 = .ok (.iload 6, 2) := by decide +kernel
theorem d11_onBus_42 : decode prog_13_method_13_code 42 = .ok (.iaload, 1) := by decide +kernel
theorem d11_onBus_43 : decode prog_13_method_13_code 43 = .ok (.istore 7, 2) := by decide +kernel
theorem d11_onBus_45 : decode prog_13_method_13_code 45 = .ok (.iload 6, 2) := by decide +kernel
theorem d11_onBus_47 : decode prog_13_method_13_code 47 = .ok (.iload 4, 2) := by decide +kernel
theorem d11_onBus_49 : decode prog_13_method_13_code 49 = .ok (.iconst 5, 1) := by decide +kernel
theorem d11_onBus_50 : decode prog_13_method_13_code 50 = .ok (.if_icmp .ne 7, 3) := by decide +kernel
theorem d11_onBus_53 : decode prog_13_method_13_code 53 = .ok (.iconst 0, 1) := by decide +kernel
theorem d11_onBus_54 : decode prog_13_method_13_code 54 = .ok (.goto 4, 3) := by decide +kernel
theorem d11_onBus_57 : decode prog_13_method_13_code 57 = .ok (.iconst 1, 1) := by decide +kernel
theorem d11_onBus_58 : decode prog_13_method_13_code 58 = .ok (.iadd, 1) := by decide +kernel
theorem d11_onBus_59 : decode prog_13_method_13_code 59 = .ok (.istore 6, 2) := by decide +kernel
theorem d11_onBus_61 : decode prog_13_method_13_code 61 = .ok (.iload 7, 2) := by decide +kernel
theorem d11_onBus_63 : decode prog_13_method_13_code 63 = .ok (.iload 5, 2) := by decide +kernel
theorem d11_onBus_65 : decode prog_13_method_13_code 65 = .ok (.if_icmp .ne 16, 3) := by decide +kernel
theorem d11_onBus_68 : decode prog_13_method_13_code 68 = .ok (.iload 4, 2) := by decide +kernel
theorem d11_onBus_70 : decode prog_13_method_13_code 70 = .ok (.iconst 5, 1) := by decide +kernel
theorem d11_onBus_71 : decode prog_13_method_13_code 71 = .ok (.if_icmp .ge 10, 3) := by decide +kernel
theorem d11_onBus_74 : decode prog_13_method_13_code 74 = .ok (.iload 4, 2) := by decide +kernel
theorem d11_onBus_76 : decode prog_13_method_13_code 76 = .ok (.iconst 1, 1) := by decide +kernel
theorem d11_onBus_77 : decode prog_13_method_13_code 77 = .ok (.iadd, 1) := by decide +kernel
theorem d11_onBus_78 : decode prog_13_method_13_code 78 = .ok (.goto 4, 3) := by decide +kernel
theorem d11_onBus_81 : decode prog_13_method_13_code 81 = .ok (.iconst 1, 1) := by decide +kernel
theorem d11_onBus_82 : decode prog_13_method_13_code 82 = .ok (.istore 4, 2) := by decide +kernel
theorem d11_onBus_84 : decode prog_13_method_13_code 84 = .ok (.iload 7, 2) := by decide +kernel
theorem d11_onBus_86 : decode prog_13_method_13_code 86 = .ok (.istore 5, 2) := by decide +kernel
theorem d11_onBus_88 : decode prog_13_method_13_code 88 = .ok (.iload_n 3, 1) := by decide +kernel
theorem d11_onBus_89 : decode prog_13_method_13_code 89 = .ok (.iload_n 2, 1) := by decide +kernel
theorem d11_onBus_90 : decode prog_13_method_13_code 90 = .ok (.if_icmp .ne 6, 3) := by decide +kernel
theorem d11_onBus_93 : decode prog_13_method_13_code 93 = .ok (.iload 7, 2) := by decide +kernel
theorem d11_onBus_95 : decode prog_13_method_13_code 95 = .ok (.ireturn, 1) := by decide +kernel
theorem d11_onBus_96 : decode prog_13_method_13_code 96 = .ok (.iinc 3 1, 3) := by decide +kernel
theorem d11_onBus_99 : decode prog_13_method_13_code 99 = .ok (.goto (-88), 3) := by decide +kernel
theorem d11_onBus_102 : decode prog_13_method_13_code 102 = .ok (.iinc 3 10, 3) := by decide +kernel
theorem d11_onBus_105 : decode prog_13_method_13_code 105 = .ok (.iload_n 2, 1) := by decide +kernel
theorem d11_onBus_106 : decode prog_13_method_13_code 106 = .ok (.ifCond .ge 7, 3) := by decide +kernel
theorem d11_onBus_109 : decode prog_13_method_13_code 109 = .ok (.iload_n 3, 1) := by decide +kernel
theorem d11_onBus_110 : decode prog_13_method_13_code 110 = .ok (.goto 14, 3) := by decide +kernel
theorem d11_onBus_113 : decode prog_13_method_13_code 113 = .ok (.iload_n 2, 1) := by decide +kernel
theorem d11_onBus_114 : decode prog_13_method_13_code 114 = .ok (.iload_n 3, 1) := by decide +kernel
theorem d11_onBus_115 : decode prog_13_method_13_code 115 = .ok (.if_icmp .ge 7, 3) := by decide +kernel
theorem d11_onBus_118 : decode prog_13_method_13_code 118 = .ok (.iconst 1, 1) := by decide +kernel
theorem d11_onBus_119 : decode prog_13_method_13_code 119 = .ok (.goto 5, 3) := by decide +kernel
theorem d11_onBus_122 : decode prog_13_method_13_code 122 = .ok (.bipush (-5), 2) := by decide +kernel
theorem d11_onBus_124 : decode prog_13_method_13_code 124 = .ok (.ireturn, 1) := by decide +kernel
theorem d11_crc_0 : decode prog_13_method_14_code 0 = .ok (.iload_n 1, 1) := by decide +kernel
theorem d11_crc_1 : decode prog_13_method_14_code 1 = .ok (.iload_n 2, 1) := by decide +kernel
theorem d11_crc_2 : decode prog_13_method_14_code 2 = .ok (.iload_n 3, 1) := by decide +kernel
theorem d11_crc_3 : decode prog_13_method_14_code 3 = .ok (.iload 4, 2) := by decide +kernel
theorem d11_crc_5 : decode prog_13_method_14_code 5 = .ok (.invokestatic 51, 3) := by decide +kernel
theorem d11_crc_8 : decode prog_13_method_14_code 8 = .ok (.ifCond .ne 6, 3) := by decide +kernel
theorem d11_crc_11 : decode prog_13_method_14_code 11 = .ok (.bipush (-2), 2) := by decide +kernel
theorem d11_crc_13 : decode prog_13_method_14_code 13 = .ok (.ireturn, 1) := by decide +kernel
theorem d11_crc_14 : decode prog_13_method_14_code 14 = .ok (.aload_n 0, 1) := by decide +kernel
theorem d11_crc_15 : decode prog_13_method_14_code 15 = .ok (.getfield 29, 3) := by decide +kernel
theorem d11_crc_18 : decode prog_13_method_14_code 18 = .ok (.iconst 0, 1) := by decide +kernel
theorem d11_crc_19 : decode prog_13_method_14_code 19 = .ok (.iload_n 1, 1) := by decide +kernel
theorem d11_crc_20 : decode prog_13_method_14_code 20 = .ok (.iload_n 2, 1) := by decide +kernel
theorem d11_crc_21 : decode prog_13_method_14_code 21 = .ok (.ifCond .eq 7, 3) := by decide +kernel
theorem d11_crc_24 : decode prog_13_method_14_code 24 = .ok (.iconst 1, 1) := by decide +kernel
theorem d11_crc_25 : decode prog_13_method_14_code 25 = .ok (.goto 4, 3) := by decide +kernel
theorem d11_crc_28 : decode prog_13_method_14_code 28 = .ok (.iconst 0, 1) := by decide +kernel
theorem d11_crc_29 : decode prog_13_method_14_code 29 = .ok (.iload_n 3, 1) := by decide +kernel
theorem d11_crc_30 : decode prog_13_method_14_code 30 = .ok (.iload 4, 2) := by decide +kernel
theorem d11_crc_32 : decode prog_13_method_14_code 32 = .ok (.invokestatic 55, 3) := by decide +kernel
theorem d11_crc_35 : decode prog_13_method_14_code 35 = .ok (.istore 5, 2) := by decide +kernel
theorem d11_crc_37 : decode prog_13_method_14_code 37 = .ok (.aload_n 0, 1) := by decide +kernel
theorem d11_crc_38 : decode prog_13_method_14_code 38 = .ok (.getfield 29, 3) := by decide +kernel
theorem d11_crc_41 : decode prog_13_method_14_code 41 = .ok (.iconst 0, 1) := by decide +kernel
theorem d11_crc_42 : decode prog_13_method_14_code 42 = .ok (.iload 5, 2) := by decide +kernel
theorem d11_crc_44 : decode prog_13_method_14_code 44 = .ok (.bipush 15, 2) := by decide +kernel
theorem d11_crc_46 : decode prog_13_method_14_code 46 = .ok (.isub, 1) := by decide +kernel
theorem d11_crc_47 : decode prog_13_method_14_code 47 = .ok (.invokestatic 47, 3) := by decide +kernel
theorem d11_crc_50 : decode prog_13_method_14_code 50 = .ok (.ireturn, 1) := by decide +kernel
theorem d11_frameBits_0 : decode prog_13_method_15_code 0 = .ok (.iload_n 1, 1) := by decide +kernel
theorem d11_frameBits_1 : decode prog_13_method_15_code 1 = .ok (.iload_n 2, 1) := by decide +kernel
theorem d11_frameBits_2 : decode prog_13_method_15_code 2 = .ok (.iload_n 3, 1) := by decide +kernel
theorem d11_frameBits_3 : decode prog_13_method_15_code 3 = .ok (.iload 4, 2) := by decide +kernel
theorem d11_frameBits_5 : decode prog_13_method_15_code 5 = .ok (.invokestatic 51, 3) := by decide +kernel
theorem d11_frameBits_8 : decode prog_13_method_15_code 8 = .ok (.ifCond .ne 6, 3) := by decide +kernel
theorem d11_frameBits_11 : decode prog_13_method_15_code 11 = .ok (.bipush (-2), 2) := by decide +kernel
theorem d11_frameBits_13 : decode prog_13_method_15_code 13 = .ok (.ireturn, 1) := by decide +kernel
theorem d11_frameBits_14 : decode prog_13_method_15_code 14 = .ok (.aload_n 0, 1) := by decide +kernel
theorem d11_frameBits_15 : decode prog_13_method_15_code 15 = .ok (.aload_n 0, 1) := by decide +kernel
theorem d11_frameBits_16 : decode prog_13_method_15_code 16 = .ok (.getfield 29, 3) := by decide +kernel
theorem d11_frameBits_19 : decode prog_13_method_15_code 19 = .ok (.iconst 0, 1) := by decide +kernel
theorem d11_frameBits_20 : decode prog_13_method_15_code 20 = .ok (.iload_n 1, 1) := by decide +kernel
theorem d11_frameBits_21 : decode prog_13_method_15_code 21 = .ok (.iload_n 2, 1) := by decide +kernel
theorem d11_frameBits_22 : decode prog_13_method_15_code 22 = .ok (.ifCond .eq 7, 3) := by decide +kernel
theorem d11_frameBits_25 : decode prog_13_method_15_code 25 = .ok (.iconst 1, 1) := by decide +kernel
theorem d11_frameBits_26 : decode prog_13_method_15_code 26 = .ok (.goto 4, 3) := by decide +kernel
theorem d11_frameBits_29 : decode prog_13_method_15_code 29 = .ok (.iconst 0, 1) := by decide +kernel
theorem d11_frameBits_30 : decode prog_13_method_15_code 30 = .ok (.iload_n 3, 1) := by decide +kernel
theorem d11_frameBits_31 : decode prog_13_method_15_code 31 = .ok (.iload 4, 2) := by decide +kernel
theorem d11_frameBits_33 : decode prog_13_method_15_code 33 = .ok (.invokestatic 55, 3) := by decide +kernel
theorem d11_frameBits_36 : decode prog_13_method_15_code 36 = .ok (.iconst (-1), 1) := by decide +kernel
theorem d11_frameBits_37 : decode prog_13_method_15_code 37 = .ok (.invokevirtual 59, 3) := by decide +kernel
theorem d11_frameBits_40 : decode prog_13_method_15_code 40 = .ok (.ireturn, 1) := by decide +kernel
theorem d11_frameBit_0 : decode prog_13_method_16_code 0 = .ok (.iload_n 1, 1) := by decide +kernel
theorem d11_frameBit_1 : decode prog_13_method_16_code 1 = .ok (.iload_n 2, 1) := by decide +kernel
theorem d11_frameBit_2 : decode prog_13_method_16_code 2 = .ok (.iload_n 3, 1) := by decide +kernel
theorem d11_frameBit_3 : decode prog_13_method_16_code 3 = .ok (.iload 4, 2) := by decide +kernel
theorem d11_frameBit_5 : decode prog_13_method_16_code 5 = .ok (.invokestatic 51, 3) := by decide +kernel
theorem d11_frameBit_8 : decode prog_13_method_16_code 8 = .ok (.ifCond .ne 6, 3) := by decide +kernel
theorem d11_frameBit_11 : decode prog_13_method_16_code 11 = .ok (.bipush (-2), 2) := by decide +kernel
theorem d11_frameBit_13 : decode prog_13_method_16_code 13 = .ok (.ireturn, 1) := by decide +kernel
theorem d11_frameBit_14 : decode prog_13_method_16_code 14 = .ok (.iload 5, 2) := by decide +kernel
theorem d11_frameBit_16 : decode prog_13_method_16_code 16 = .ok (.ifCond .ge 8, 3) := by decide +kernel
theorem d11_frameBit_19 : decode prog_13_method_16_code 19 = .ok (.bipush (-5), 2) := by decide +kernel
theorem d11_frameBit_21 : decode prog_13_method_16_code 21 = .ok (.goto 30, 3) := by decide +kernel
theorem d11_frameBit_24 : decode prog_13_method_16_code 24 = .ok (.aload_n 0, 1) := by decide +kernel
theorem d11_frameBit_25 : decode prog_13_method_16_code 25 = .ok (.aload_n 0, 1) := by decide +kernel
theorem d11_frameBit_26 : decode prog_13_method_16_code 26 = .ok (.getfield 29, 3) := by decide +kernel
theorem d11_frameBit_29 : decode prog_13_method_16_code 29 = .ok (.iconst 0, 1) := by decide +kernel
theorem d11_frameBit_30 : decode prog_13_method_16_code 30 = .ok (.iload_n 1, 1) := by decide +kernel
theorem d11_frameBit_31 : decode prog_13_method_16_code 31 = .ok (.iload_n 2, 1) := by decide +kernel
theorem d11_frameBit_32 : decode prog_13_method_16_code 32 = .ok (.ifCond .eq 7, 3) := by decide +kernel
theorem d11_frameBit_35 : decode prog_13_method_16_code 35 = .ok (.iconst 1, 1) := by decide +kernel
theorem d11_frameBit_36 : decode prog_13_method_16_code 36 = .ok (.goto 4, 3) := by decide +kernel
theorem d11_frameBit_39 : decode prog_13_method_16_code 39 = .ok (.iconst 0, 1) := by decide +kernel
theorem d11_frameBit_40 : decode prog_13_method_16_code 40 = .ok (.iload_n 3, 1) := by decide +kernel
theorem d11_frameBit_41 : decode prog_13_method_16_code 41 = .ok (.iload 4, 2) := by decide +kernel
theorem d11_frameBit_43 : decode prog_13_method_16_code 43 = .ok (.invokestatic 55, 3) := by decide +kernel
theorem d11_frameBit_46 : decode prog_13_method_16_code 46 = .ok (.iload 5, 2) := by decide +kernel
theorem d11_frameBit_48 : decode prog_13_method_16_code 48 = .ok (.invokevirtual 59, 3) := by decide +kernel
theorem d11_frameBit_51 : decode prog_13_method_16_code 51 = .ok (.ireturn, 1) := by decide +kernel
theorem d11_worst_0 : decode prog_13_method_17_code 0 = .ok (.bipush 47, 2) := by decide +kernel
theorem d11_worst_2 : decode prog_13_method_17_code 2 = .ok (.bipush 8, 2) := by decide +kernel
theorem d11_worst_4 : decode prog_13_method_17_code 4 = .ok (.iload_n 0, 1) := by decide +kernel
theorem d11_worst_5 : decode prog_13_method_17_code 5 = .ok (.imul, 1) := by decide +kernel
theorem d11_worst_6 : decode prog_13_method_17_code 6 = .ok (.iadd, 1) := by decide +kernel
theorem d11_worst_7 : decode prog_13_method_17_code 7 = .ok (.bipush 33, 2) := by decide +kernel
theorem d11_worst_9 : decode prog_13_method_17_code 9 = .ok (.bipush 8, 2) := by decide +kernel
theorem d11_worst_11 : decode prog_13_method_17_code 11 = .ok (.iload_n 0, 1) := by decide +kernel
theorem d11_worst_12 : decode prog_13_method_17_code 12 = .ok (.imul, 1) := by decide +kernel
theorem d11_worst_13 : decode prog_13_method_17_code 13 = .ok (.iadd, 1) := by decide +kernel
theorem d11_worst_14 : decode prog_13_method_17_code 14 = .ok (.iconst 4, 1) := by decide +kernel
theorem d11_worst_15 : decode prog_13_method_17_code 15 = .ok (.idiv, 1) := by decide +kernel
theorem d11_worst_16 : decode prog_13_method_17_code 16 = .ok (.iadd, 1) := by decide +kernel
theorem d11_worst_17 : decode prog_13_method_17_code 17 = .ok (.ireturn, 1) := by decide +kernel
theorem d11_worstBits_0 : decode prog_13_method_18_code 0 = .ok (.iload_n 1, 1) := by decide +kernel
theorem d11_worstBits_1 : decode prog_13_method_18_code 1 = .ok (.iconst 0, 1) := by decide +kernel
theorem d11_worstBits_2 : decode prog_13_method_18_code 2 = .ok (.iconst 4, 1) := by decide +kernel
theorem d11_worstBits_3 : decode prog_13_method_18_code 3 = .ok (.invokestatic 39, 3) := by decide +kernel
theorem d11_worstBits_6 : decode prog_13_method_18_code 6 = .ok (.ifCond .eq 10, 3) := by decide +kernel
theorem d11_worstBits_9 : decode prog_13_method_18_code 9 = .ok (.iload_n 1, 1) := by decide +kernel
theorem d11_worstBits_10 : decode prog_13_method_18_code 10 = .ok (.invokestatic 62, 3) := by decide +kernel
theorem d11_worstBits_13 : decode prog_13_method_18_code 13 = .ok (.goto 5, 3) := by decide +kernel
theorem d11_worstBits_16 : decode prog_13_method_18_code 16 = .ok (.bipush (-2), 2) := by decide +kernel
theorem d11_worstBits_18 : decode prog_13_method_18_code 18 = .ok (.ireturn, 1) := by decide +kernel
theorem d11_setLimits_0 : decode prog_13_method_19_code 0 = .ok (.iload_n 1, 1) := by decide +kernel
theorem d11_setLimits_1 : decode prog_13_method_19_code 1 = .ok (.bipush 8, 2) := by decide +kernel
theorem d11_setLimits_3 : decode prog_13_method_19_code 3 = .ok (.sipush 128, 3) := by decide +kernel
theorem d11_setLimits_6 : decode prog_13_method_19_code 6 = .ok (.invokestatic 39, 3) := by decide +kernel
theorem d11_setLimits_9 : decode prog_13_method_19_code 9 = .ok (.ifCond .eq 30, 3) := by decide +kernel
theorem d11_setLimits_12 : decode prog_13_method_19_code 12 = .ok (.iload_n 2, 1) := by decide +kernel
theorem d11_setLimits_13 : decode prog_13_method_19_code 13 = .ok (.bipush 16, 2) := by decide +kernel
theorem d11_setLimits_15 : decode prog_13_method_19_code 15 = .ok (.sipush 256, 3) := by decide +kernel
theorem d11_setLimits_18 : decode prog_13_method_19_code 18 = .ok (.invokestatic 39, 3) := by decide +kernel
theorem d11_setLimits_21 : decode prog_13_method_19_code 21 = .ok (.ifCond .eq 18, 3) := by decide +kernel
theorem d11_setLimits_24 : decode prog_13_method_19_code 24 = .ok (.iload_n 2, 1) := by decide +kernel
theorem d11_setLimits_25 : decode prog_13_method_19_code 25 = .ok (.iload_n 1, 1) := by decide +kernel
theorem d11_setLimits_26 : decode prog_13_method_19_code 26 = .ok (.if_icmp .le 13, 3) := by decide +kernel
theorem d11_setLimits_29 : decode prog_13_method_19_code 29 = .ok (.iload_n 3, 1) := by decide +kernel
theorem d11_setLimits_30 : decode prog_13_method_19_code 30 = .ok (.iconst 1, 1) := by decide +kernel
theorem d11_setLimits_31 : decode prog_13_method_19_code 31 = .ok (.bipush 16, 2) := by decide +kernel
theorem d11_setLimits_33 : decode prog_13_method_19_code 33 = .ok (.invokestatic 39, 3) := by decide +kernel
theorem d11_setLimits_36 : decode prog_13_method_19_code 36 = .ok (.ifCond .ne 6, 3) := by decide +kernel
theorem d11_setLimits_39 : decode prog_13_method_19_code 39 = .ok (.bipush (-2), 2) := by decide +kernel
theorem d11_setLimits_41 : decode prog_13_method_19_code 41 = .ok (.ireturn, 1) := by decide +kernel
theorem d11_setLimits_42 : decode prog_13_method_19_code 42 = .ok (.aload_n 0, 1) := by decide +kernel
theorem d11_setLimits_43 : decode prog_13_method_19_code 43 = .ok (.getfield 7, 3) := by decide +kernel
theorem d11_setLimits_46 : decode prog_13_method_19_code 46 = .ok (.sipush 1025, 3) := by decide +kernel
theorem d11_setLimits_49 : decode prog_13_method_19_code 49 = .ok (.iaload, 1) := by decide +kernel
theorem d11_setLimits_50 : decode prog_13_method_19_code 50 = .ok (.istore 4, 2) := by decide +kernel
theorem d11_setLimits_52 : decode prog_13_method_19_code 52 = .ok (.aload_n 0, 1) := by decide +kernel
theorem d11_setLimits_53 : decode prog_13_method_19_code 53 = .ok (.getfield 7, 3) := by decide +kernel
theorem d11_setLimits_56 : decode prog_13_method_19_code 56 = .ok (.sipush 1025, 3) := by decide +kernel
theorem d11_setLimits_59 : decode prog_13_method_19_code 59 = .ok (.iload_n 1, 1) := by decide +kernel
theorem d11_setLimits_60 : decode prog_13_method_19_code 60 = .ok (.iastore, 1) := by decide +kernel
theorem d11_setLimits_61 : decode prog_13_method_19_code 61 = .ok (.aload_n 0, 1) := by decide +kernel
theorem d11_setLimits_62 : decode prog_13_method_19_code 62 = .ok (.getfield 7, 3) := by decide +kernel
theorem d11_setLimits_65 : decode prog_13_method_19_code 65 = .ok (.sipush 1026, 3) := by decide +kernel
theorem d11_setLimits_68 : decode prog_13_method_19_code 68 = .ok (.iload_n 2, 1) := by decide +kernel
theorem d11_setLimits_69 : decode prog_13_method_19_code 69 = .ok (.iastore, 1) := by decide +kernel
theorem d11_setLimits_70 : decode prog_13_method_19_code 70 = .ok (.aload_n 0, 1) := by decide +kernel
theorem d11_setLimits_71 : decode prog_13_method_19_code 71 = .ok (.getfield 7, 3) := by decide +kernel
theorem d11_setLimits_74 : decode prog_13_method_19_code 74 = .ok (.sipush 1027, 3) := by decide +kernel
theorem d11_setLimits_77 : decode prog_13_method_19_code 77 = .ok (.iload_n 3, 1) := by decide +kernel
theorem d11_setLimits_78 : decode prog_13_method_19_code 78 = .ok (.iastore, 1) := by decide +kernel
theorem d11_setLimits_79 : decode prog_13_method_19_code 79 = .ok (.iload 4, 2) := by decide +kernel
theorem d11_setLimits_81 : decode prog_13_method_19_code 81 = .ok (.ireturn, 1) := by decide +kernel
theorem d11_setFilter_0 : decode prog_13_method_20_code 0 = .ok (.iload_n 1, 1) := by decide +kernel
theorem d11_setFilter_1 : decode prog_13_method_20_code 1 = .ok (.invokestatic 66, 3) := by decide +kernel
theorem d11_setFilter_4 : decode prog_13_method_20_code 4 = .ok (.ifCond .ne 5, 3) := by decide +kernel
theorem d11_setFilter_7 : decode prog_13_method_20_code 7 = .ok (.iconst (-1), 1) := by decide +kernel
theorem d11_setFilter_8 : decode prog_13_method_20_code 8 = .ok (.ireturn, 1) := by decide +kernel
theorem d11_setFilter_9 : decode prog_13_method_20_code 9 = .ok (.iload_n 2, 1) := by decide +kernel
theorem d11_setFilter_10 : decode prog_13_method_20_code 10 = .ok (.iconst 0, 1) := by decide +kernel
theorem d11_setFilter_11 : decode prog_13_method_20_code 11 = .ok (.sipush 2047, 3) := by decide +kernel
theorem d11_setFilter_14 : decode prog_13_method_20_code 14 = .ok (.invokestatic 39, 3) := by decide +kernel
theorem d11_setFilter_17 : decode prog_13_method_20_code 17 = .ok (.ifCond .eq 14, 3) := by decide +kernel
theorem d11_setFilter_20 : decode prog_13_method_20_code 20 = .ok (.iload_n 3, 1) := by decide +kernel
theorem d11_setFilter_21 : decode prog_13_method_20_code 21 = .ok (.iconst 0, 1) := by decide +kernel
theorem d11_setFilter_22 : decode prog_13_method_20_code 22 = .ok (.sipush 2047, 3) := by decide +kernel
theorem d11_setFilter_25 : decode prog_13_method_20_code 25 = .ok (.invokestatic 39, 3) := by decide +kernel
theorem d11_setFilter_28 : decode prog_13_method_20_code 28 = .ok (.ifCond .ne 6, 3) := by decide +kernel
theorem d11_setFilter_31 : decode prog_13_method_20_code 31 = .ok (.bipush (-2), 2) := by decide +kernel
theorem d11_setFilter_33 : decode prog_13_method_20_code 33 = .ok (.ireturn, 1) := by decide +kernel
theorem d11_setFilter_34 : decode prog_13_method_20_code 34 = .ok (.aload_n 0, 1) := by decide +kernel
theorem d11_setFilter_35 : decode prog_13_method_20_code 35 = .ok (.getfield 7, 3) := by decide +kernel
theorem d11_setFilter_38 : decode prog_13_method_20_code 38 = .ok (.iload_n 1, 1) := by decide +kernel
theorem d11_setFilter_39 : decode prog_13_method_20_code 39 = .ok (.bipush 16, 2) := by decide +kernel
theorem d11_setFilter_41 : decode prog_13_method_20_code 41 = .ok (.invokestatic 35, 3) := by decide +kernel
theorem d11_setFilter_44 : decode prog_13_method_20_code 44 = .ok (.iaload, 1) := by decide +kernel
theorem d11_setFilter_45 : decode prog_13_method_20_code 45 = .ok (.istore 4, 2) := by decide +kernel
theorem d11_setFilter_47 : decode prog_13_method_20_code 47 = .ok (.aload_n 0, 1) := by decide +kernel
theorem d11_setFilter_48 : decode prog_13_method_20_code 48 = .ok (.getfield 7, 3) := by decide +kernel
theorem d11_setFilter_51 : decode prog_13_method_20_code 51 = .ok (.iload_n 1, 1) := by decide +kernel
theorem d11_setFilter_52 : decode prog_13_method_20_code 52 = .ok (.bipush 16, 2) := by decide +kernel
theorem d11_setFilter_54 : decode prog_13_method_20_code 54 = .ok (.invokestatic 35, 3) := by decide +kernel
theorem d11_setFilter_57 : decode prog_13_method_20_code 57 = .ok (.iload_n 2, 1) := by decide +kernel
theorem d11_setFilter_58 : decode prog_13_method_20_code 58 = .ok (.iastore, 1) := by decide +kernel
theorem d11_setFilter_59 : decode prog_13_method_20_code 59 = .ok (.aload_n 0, 1) := by decide +kernel
theorem d11_setFilter_60 : decode prog_13_method_20_code 60 = .ok (.getfield 7, 3) := by decide +kernel
theorem d11_setFilter_63 : decode prog_13_method_20_code 63 = .ok (.iload_n 1, 1) := by decide +kernel
theorem d11_setFilter_64 : decode prog_13_method_20_code 64 = .ok (.bipush 17, 2) := by decide +kernel
theorem d11_setFilter_66 : decode prog_13_method_20_code 66 = .ok (.invokestatic 35, 3) := by decide +kernel
theorem d11_setFilter_69 : decode prog_13_method_20_code 69 = .ok (.iload_n 3, 1) := by decide +kernel
theorem d11_setFilter_70 : decode prog_13_method_20_code 70 = .ok (.iastore, 1) := by decide +kernel
theorem d11_setFilter_71 : decode prog_13_method_20_code 71 = .ok (.iload 4, 2) := by decide +kernel
theorem d11_setFilter_73 : decode prog_13_method_20_code 73 = .ok (.ireturn, 1) := by decide +kernel
theorem d11_answerFor_0 : decode prog_13_method_21_code 0 = .ok (.iconst 0, 1) := by decide +kernel
theorem d11_answerFor_1 : decode prog_13_method_21_code 1 = .ok (.istore_n 3, 1) := by decide +kernel
theorem d11_answerFor_2 : decode prog_13_method_21_code 2 = .ok (.iload_n 3, 1) := by decide +kernel
theorem d11_answerFor_3 : decode prog_13_method_21_code 3 = .ok (.aload_n 0, 1) := by decide +kernel
theorem d11_answerFor_4 : decode prog_13_method_21_code 4 = .ok (.getfield 7, 3) := by decide +kernel
theorem d11_answerFor_7 : decode prog_13_method_21_code 7 = .ok (.iload_n 1, 1) := by decide +kernel
theorem d11_answerFor_8 : decode prog_13_method_21_code 8 = .ok (.bipush 25, 2) := by decide +kernel
theorem d11_answerFor_10 : decode prog_13_method_21_code 10 = .ok (.invokestatic 35, 3) := by decide +kernel
theorem d11_answerFor_13 : decode prog_13_method_21_code 13 = .ok (.iaload, 1) := by decide +kernel
theorem d11_answerFor_14 : decode prog_13_method_21_code 14 = .ok (.if_icmp .ge 26, 3) := by decide +kernel
theorem d11_answerFor_17 : decode prog_13_method_21_code 17 = .ok (.aload_n 0, 1) := by decide +kernel
theorem d11_answerFor_18 : decode prog_13_method_21_code 18 = .ok (.getfield 7, 3) := by decide +kernel
theorem d11_answerFor_21 : decode prog_13_method_21_code 21 = .ok (.iload_n 1, 1) := by decide +kernel
theorem d11_answerFor_22 : decode prog_13_method_21_code 22 = .ok (.iload_n 3, 1) := by decide +kernel
theorem d11_answerFor_23 : decode prog_13_method_21_code 23 = .ok (.iconst 0, 1) := by decide +kernel
theorem d11_answerFor_24 : decode prog_13_method_21_code 24 = .ok (.invokestatic 70, 3) := by decide +kernel
theorem d11_answerFor_27 : decode prog_13_method_21_code 27 = .ok (.iaload, 1) := by decide +kernel
theorem d11_answerFor_28 : decode prog_13_method_21_code 28 = .ok (.iload_n 2, 1) := by decide +kernel
theorem d11_answerFor_29 : decode prog_13_method_21_code 29 = .ok (.if_icmp .ne 5, 3) := by decide +kernel
theorem d11_answerFor_32 : decode prog_13_method_21_code 32 = .ok (.iload_n 3, 1) := by decide +kernel
theorem d11_answerFor_33 : decode prog_13_method_21_code 33 = .ok (.ireturn, 1) := by decide +kernel
theorem d11_answerFor_34 : decode prog_13_method_21_code 34 = .ok (.iinc 3 1, 3) := by decide +kernel
theorem d11_answerFor_37 : decode prog_13_method_21_code 37 = .ok (.goto (-35), 3) := by decide +kernel
theorem d11_answerFor_40 : decode prog_13_method_21_code 40 = .ok (.iconst (-1), 1) := by decide +kernel
theorem d11_answerFor_41 : decode prog_13_method_21_code 41 = .ok (.ireturn, 1) := by decide +kernel
theorem d11_setAnswer_0 : decode prog_13_method_22_code 0 = .ok (.iload_n 1, 1) := by decide +kernel
theorem d11_setAnswer_1 : decode prog_13_method_22_code 1 = .ok (.invokestatic 66, 3) := by decide +kernel
theorem d11_setAnswer_4 : decode prog_13_method_22_code 4 = .ok (.ifCond .ne 5, 3) := by decide +kernel
theorem d11_setAnswer_7 : decode prog_13_method_22_code 7 = .ok (.iconst (-1), 1) := by decide +kernel
theorem d11_setAnswer_8 : decode prog_13_method_22_code 8 = .ok (.ireturn, 1) := by decide +kernel
theorem d11_setAnswer_9 : decode prog_13_method_22_code 9 = .ok (.iload_n 2, 1) := by decide +kernel
theorem d11_setAnswer_10 : decode prog_13_method_22_code 10 = .ok (.iconst 0, 1) := by decide +kernel
theorem d11_setAnswer_11 : decode prog_13_method_22_code 11 = .ok (.iload_n 3, 1) := by decide +kernel
theorem d11_setAnswer_12 : decode prog_13_method_22_code 12 = .ok (.iload 4, 2) := by decide +kernel
theorem d11_setAnswer_14 : decode prog_13_method_22_code 14 = .ok (.invokestatic 51, 3) := by decide +kernel
theorem d11_setAnswer_17 : decode prog_13_method_22_code 17 = .ok (.ifCond .ne 6, 3) := by decide +kernel
theorem d11_setAnswer_20 : decode prog_13_method_22_code 20 = .ok (.bipush (-2), 2) := by decide +kernel
theorem d11_setAnswer_22 : decode prog_13_method_22_code 22 = .ok (.ireturn, 1) := by decide +kernel
theorem d11_setAnswer_23 : decode prog_13_method_22_code 23 = .ok (.aload_n 0, 1) := by decide +kernel
theorem d11_setAnswer_24 : decode prog_13_method_22_code 24 = .ok (.iload_n 1, 1) := by decide +kernel
theorem d11_setAnswer_25 : decode prog_13_method_22_code 25 = .ok (.iload_n 2, 1) := by decide +kernel
theorem d11_setAnswer_26 : decode prog_13_method_22_code 26 = .ok (.invokevirtual 74, 3) := by decide +kernel
theorem d11_setAnswer_29 : decode prog_13_method_22_code 29 = .ok (.istore 5, 2) := by decide +kernel
theorem d11_setAnswer_31 : decode prog_13_method_22_code 31 = .ok (.iload 5, 2) := by decide +kernel
theorem d11_setAnswer_33 : decode prog_13_method_22_code 33 = .ok (.ifCond .ge 49, 3) := by decide +kernel
theorem d11_setAnswer_36 : decode prog_13_method_22_code 36 = .ok (.aload_n 0, 1) := by decide +kernel
theorem d11_setAnswer_37 : decode prog_13_method_22_code 37 = .ok (.getfield 7, 3) := by decide +kernel
theorem d11_setAnswer_40 : decode prog_13_method_22_code 40 = .ok (.iload_n 1, 1) := by decide +kernel
theorem d11_setAnswer_41 : decode prog_13_method_22_code 41 = .ok (.bipush 25, 2) := by decide +kernel
theorem d11_setAnswer_43 : decode prog_13_method_22_code 43 = .ok (.invokestatic 35, 3) := by decide +kernel
theorem d11_setAnswer_46 : decode prog_13_method_22_code 46 = .ok (.iaload, 1) := by decide +kernel
theorem d11_setAnswer_47 : decode prog_13_method_22_code 47 = .ok (.iconst 4, 1) := by decide +kernel
theorem d11_setAnswer_48 : decode prog_13_method_22_code 48 = .ok (.if_icmp .ne 6, 3) := by decide +kernel
theorem d11_setAnswer_51 : decode prog_13_method_22_code 51 = .ok (.bipush (-3), 2) := by decide +kernel
theorem d11_setAnswer_53 : decode prog_13_method_22_code 53 = .ok (.ireturn, 1) := by decide +kernel
theorem d11_setAnswer_54 : decode prog_13_method_22_code 54 = .ok (.aload_n 0, 1) := by decide +kernel
theorem d11_setAnswer_55 : decode prog_13_method_22_code 55 = .ok (.getfield 7, 3) := by decide +kernel
theorem d11_setAnswer_58 : decode prog_13_method_22_code 58 = .ok (.iload_n 1, 1) := by decide +kernel
theorem d11_setAnswer_59 : decode prog_13_method_22_code 59 = .ok (.bipush 25, 2) := by decide +kernel
theorem d11_setAnswer_61 : decode prog_13_method_22_code 61 = .ok (.invokestatic 35, 3) := by decide +kernel
theorem d11_setAnswer_64 : decode prog_13_method_22_code 64 = .ok (.iaload, 1) := by decide +kernel
theorem d11_setAnswer_65 : decode prog_13_method_22_code 65 = .ok (.istore 5, 2) := by decide +kernel
theorem d11_setAnswer_67 : decode prog_13_method_22_code 67 = .ok (.aload_n 0, 1) := by decide +kernel
theorem d11_setAnswer_68 : decode prog_13_method_22_code 68 = .ok (.getfield 7, 3) := by decide +kernel
theorem d11_setAnswer_71 : decode prog_13_method_22_code 71 = .ok (.iload_n 1, 1) := by decide +kernel
theorem d11_setAnswer_72 : decode prog_13_method_22_code 72 = .ok (.bipush 25, 2) := by decide +kernel
theorem d11_setAnswer_74 : decode prog_13_method_22_code 74 = .ok (.invokestatic 35, 3) := by decide +kernel
theorem d11_setAnswer_77 : decode prog_13_method_22_code 77 = .ok (.dup2, 1) := by decide +kernel
theorem d11_setAnswer_78 : decode prog_13_method_22_code 78 = .ok (.iaload, 1) := by decide +kernel
theorem d11_setAnswer_79 : decode prog_13_method_22_code 79 = .ok (.iconst 1, 1) := by decide +kernel
theorem d11_setAnswer_80 : decode prog_13_method_22_code 80 = .ok (.iadd, 1) := by decide +kernel
theorem d11_setAnswer_81 : decode prog_13_method_22_code 81 = .ok (.iastore, 1) := by decide +kernel
theorem d11_setAnswer_82 : decode prog_13_method_22_code 82 = .ok (.aload_n 0, 1) := by decide +kernel
theorem d11_setAnswer_83 : decode prog_13_method_22_code 83 = .ok (.getfield 7, 3) := by decide +kernel
theorem d11_setAnswer_86 : decode prog_13_method_22_code 86 = .ok (.iload_n 1, 1) := by decide +kernel
theorem d11_setAnswer_87 : decode prog_13_method_22_code 87 = .ok (.iload 5, 2) := by decide +kernel
theorem d11_setAnswer_89 : decode prog_13_method_22_code 89 = .ok (.iconst 0, 1) := by decide +kernel
theorem d11_setAnswer_90 : decode prog_13_method_22_code 90 = .ok (.invokestatic 70, 3) := by decide +kernel
theorem d11_setAnswer_93 : decode prog_13_method_22_code 93 = .ok (.iload_n 2, 1) := by decide +kernel
theorem d11_setAnswer_94 : decode prog_13_method_22_code 94 = .ok (.iastore, 1) := by decide +kernel
theorem d11_setAnswer_95 : decode prog_13_method_22_code 95 = .ok (.aload_n 0, 1) := by decide +kernel
theorem d11_setAnswer_96 : decode prog_13_method_22_code 96 = .ok (.getfield 7, 3) := by decide +kernel
theorem d11_setAnswer_99 : decode prog_13_method_22_code 99 = .ok (.iload_n 1, 1) := by decide +kernel
theorem d11_setAnswer_100 : decode prog_13_method_22_code 100 = .ok (.iload 5, 2) := by decide +kernel
theorem d11_setAnswer_102 : decode prog_13_method_22_code 102 = .ok (.iconst 1, 1) := by decide +kernel
theorem d11_setAnswer_103 : decode prog_13_method_22_code 103 = .ok (.invokestatic 70, 3) := by decide +kernel
theorem d11_setAnswer_106 : decode prog_13_method_22_code 106 = .ok (.iload_n 3, 1) := by decide +kernel
theorem d11_setAnswer_107 : decode prog_13_method_22_code 107 = .ok (.iastore, 1) := by decide +kernel
theorem d11_setAnswer_108 : decode prog_13_method_22_code 108 = .ok (.aload_n 0, 1) := by decide +kernel
theorem d11_setAnswer_109 : decode prog_13_method_22_code 109 = .ok (.getfield 7, 3) := by decide +kernel
theorem d11_setAnswer_112 : decode prog_13_method_22_code 112 = .ok (.iload_n 1, 1) := by decide +kernel
theorem d11_setAnswer_113 : decode prog_13_method_22_code 113 = .ok (.iload 5, 2) := by decide +kernel
theorem d11_setAnswer_115 : decode prog_13_method_22_code 115 = .ok (.iconst 2, 1) := by decide +kernel
theorem d11_setAnswer_116 : decode prog_13_method_22_code 116 = .ok (.invokestatic 70, 3) := by decide +kernel
theorem d11_setAnswer_119 : decode prog_13_method_22_code 119 = .ok (.iload 4, 2) := by decide +kernel
theorem d11_setAnswer_121 : decode prog_13_method_22_code 121 = .ok (.iastore, 1) := by decide +kernel
theorem d11_setAnswer_122 : decode prog_13_method_22_code 122 = .ok (.aload_n 0, 1) := by decide +kernel
theorem d11_setAnswer_123 : decode prog_13_method_22_code 123 = .ok (.getfield 7, 3) := by decide +kernel
theorem d11_setAnswer_126 : decode prog_13_method_22_code 126 = .ok (.iload_n 1, 1) := by decide +kernel
theorem d11_setAnswer_127 : decode prog_13_method_22_code 127 = .ok (.bipush 25, 2) := by decide +kernel
theorem d11_setAnswer_129 : decode prog_13_method_22_code 129 = .ok (.invokestatic 35, 3) := by decide +kernel
theorem d11_setAnswer_132 : decode prog_13_method_22_code 132 = .ok (.iaload, 1) := by decide +kernel
theorem d11_setAnswer_133 : decode prog_13_method_22_code 133 = .ok (.ireturn, 1) := by decide +kernel
theorem d11_removeAnswer_0 : decode prog_13_method_23_code 0 = .ok (.iload_n 1, 1) := by decide +kernel
theorem d11_removeAnswer_1 : decode prog_13_method_23_code 1 = .ok (.invokestatic 66, 3) := by decide +kernel
theorem d11_removeAnswer_4 : decode prog_13_method_23_code 4 = .ok (.ifCond .ne 5, 3) := by decide +kernel
theorem d11_removeAnswer_7 : decode prog_13_method_23_code 7 = .ok (.iconst (-1), 1) := by decide +kernel
theorem d11_removeAnswer_8 : decode prog_13_method_23_code 8 = .ok (.ireturn, 1) := by decide +kernel
theorem d11_removeAnswer_9 : decode prog_13_method_23_code 9 = .ok (.aload_n 0, 1) := by decide +kernel
theorem d11_removeAnswer_10 : decode prog_13_method_23_code 10 = .ok (.iload_n 1, 1) := by decide +kernel
theorem d11_removeAnswer_11 : decode prog_13_method_23_code 11 = .ok (.iload_n 2, 1) := by decide +kernel
theorem d11_removeAnswer_12 : decode prog_13_method_23_code 12 = .ok (.invokevirtual 74, 3) := by decide +kernel
theorem d11_removeAnswer_15 : decode prog_13_method_23_code 15 = .ok (.istore_n 3, 1) := by decide +kernel
theorem d11_removeAnswer_16 : decode prog_13_method_23_code 16 = .ok (.iload_n 3, 1) := by decide +kernel
theorem d11_removeAnswer_17 : decode prog_13_method_23_code 17 = .ok (.ifCond .ge 6, 3) := by decide +kernel
theorem d11_removeAnswer_20 : decode prog_13_method_23_code 20 = .ok (.bipush (-5), 2) := by decide +kernel
theorem d11_removeAnswer_22 : decode prog_13_method_23_code 22 = .ok (.ireturn, 1) := by decide +kernel
theorem d11_removeAnswer_23 : decode prog_13_method_23_code 23 = .ok (.aload_n 0, 1) := by decide +kernel
theorem d11_removeAnswer_24 : decode prog_13_method_23_code 24 = .ok (.getfield 7, 3) := by decide +kernel
theorem d11_removeAnswer_27 : decode prog_13_method_23_code 27 = .ok (.iload_n 1, 1) := by decide +kernel
theorem d11_removeAnswer_28 : decode prog_13_method_23_code 28 = .ok (.bipush 25, 2) := by decide +kernel
theorem d11_removeAnswer_30 : decode prog_13_method_23_code 30 = .ok (.invokestatic 35, 3) := by decide +kernel
theorem d11_removeAnswer_33 : decode prog_13_method_23_code 33 = .ok (.dup2, 1) := by decide +kernel
theorem d11_removeAnswer_34 : decode prog_13_method_23_code 34 = .ok (.iaload, 1) := by decide +kernel
theorem d11_removeAnswer_35 : decode prog_13_method_23_code 35 = .ok (.iconst 1, 1) := by decide +kernel
theorem d11_removeAnswer_36 : decode prog_13_method_23_code 36 = .ok (.isub, 1) := by decide +kernel
theorem d11_removeAnswer_37 : decode prog_13_method_23_code 37 = .ok (.iastore, 1) := by decide +kernel
theorem d11_removeAnswer_38 : decode prog_13_method_23_code 38 = .ok (.iload_n 1, 1) := by decide +kernel
theorem d11_removeAnswer_39 : decode prog_13_method_23_code 39 = .ok (.iload_n 3, 1) := by decide +kernel
theorem d11_removeAnswer_40 : decode prog_13_method_23_code 40 = .ok (.iconst 0, 1) := by decide +kernel
theorem d11_removeAnswer_41 : decode prog_13_method_23_code 41 = .ok (.invokestatic 70, 3) := by decide +kernel
theorem d11_removeAnswer_44 : decode prog_13_method_23_code 44 = .ok (.istore 4, 2) := by decide +kernel
theorem d11_removeAnswer_46 : decode prog_13_method_23_code 46 = .ok (.iload 4, 2) := by decide +kernel
theorem d11_removeAnswer_48 : decode prog_13_method_23_code 48 = .ok (.iload_n 1, 1) := by decide +kernel
theorem d11_removeAnswer_49 : decode prog_13_method_23_code 49 = .ok (.aload_n 0, 1) := by decide +kernel
theorem d11_removeAnswer_50 : decode prog_13_method_23_code 50 = .ok (.getfield 7, 3) := by decide +kernel
theorem d11_removeAnswer_53 : decode prog_13_method_23_code 53 = .ok (.iload_n 1, 1) := by decide +kernel
theorem d11_removeAnswer_54 : decode prog_13_method_23_code 54 = .ok (.bipush 25, 2) := by decide +kernel
theorem d11_removeAnswer_56 : decode prog_13_method_23_code 56 = .ok (.invokestatic 35, 3) := by decide +kernel
theorem d11_removeAnswer_59 : decode prog_13_method_23_code 59 = .ok (.iaload, 1) := by decide +kernel
theorem d11_removeAnswer_60 : decode prog_13_method_23_code 60 = .ok (.iconst 0, 1) := by decide +kernel
theorem d11_removeAnswer_61 : decode prog_13_method_23_code 61 = .ok (.invokestatic 70, 3) := by decide +kernel
theorem d11_removeAnswer_64 : decode prog_13_method_23_code 64 = .ok (.if_icmp .ge 25, 3) := by decide +kernel
theorem d11_removeAnswer_67 : decode prog_13_method_23_code 67 = .ok (.aload_n 0, 1) := by decide +kernel
theorem d11_removeAnswer_68 : decode prog_13_method_23_code 68 = .ok (.getfield 7, 3) := by decide +kernel
theorem d11_removeAnswer_71 : decode prog_13_method_23_code 71 = .ok (.iload 4, 2) := by decide +kernel
theorem d11_removeAnswer_73 : decode prog_13_method_23_code 73 = .ok (.aload_n 0, 1) := by decide +kernel
theorem d11_removeAnswer_74 : decode prog_13_method_23_code 74 = .ok (.getfield 7, 3) := by decide +kernel
theorem d11_removeAnswer_77 : decode prog_13_method_23_code 77 = .ok (.iload 4, 2) := by decide +kernel
theorem d11_removeAnswer_79 : decode prog_13_method_23_code 79 = .ok (.iconst 3, 1) := by decide +kernel
theorem d11_removeAnswer_80 : decode prog_13_method_23_code 80 = .ok (.iadd, 1) := by decide +kernel
theorem d11_removeAnswer_81 : decode prog_13_method_23_code 81 = .ok (.iaload, 1) := by decide +kernel
theorem d11_removeAnswer_82 : decode prog_13_method_23_code 82 = .ok (.iastore, 1) := by decide +kernel
theorem d11_removeAnswer_83 : decode prog_13_method_23_code 83 = .ok (.iinc 4 1, 3) := by decide +kernel
theorem d11_removeAnswer_86 : decode prog_13_method_23_code 86 = .ok (.goto (-40), 3) := by decide +kernel
theorem d11_removeAnswer_89 : decode prog_13_method_23_code 89 = .ok (.aload_n 0, 1) := by decide +kernel
theorem d11_removeAnswer_90 : decode prog_13_method_23_code 90 = .ok (.getfield 7, 3) := by decide +kernel
theorem d11_removeAnswer_93 : decode prog_13_method_23_code 93 = .ok (.iload_n 1, 1) := by decide +kernel
theorem d11_removeAnswer_94 : decode prog_13_method_23_code 94 = .ok (.bipush 25, 2) := by decide +kernel
theorem d11_removeAnswer_96 : decode prog_13_method_23_code 96 = .ok (.invokestatic 35, 3) := by decide +kernel
theorem d11_removeAnswer_99 : decode prog_13_method_23_code 99 = .ok (.iaload, 1) := by decide +kernel
theorem d11_removeAnswer_100 : decode prog_13_method_23_code 100 = .ok (.ireturn, 1) := by decide +kernel
theorem d11_goes_0 : decode prog_13_method_24_code 0 = .ok (.aload_n 0, 1) := by decide +kernel
theorem d11_goes_1 : decode prog_13_method_24_code 1 = .ok (.getfield 7, 3) := by decide +kernel
theorem d11_goes_4 : decode prog_13_method_24_code 4 = .ok (.iload_n 1, 1) := by decide +kernel
theorem d11_goes_5 : decode prog_13_method_24_code 5 = .ok (.iconst 0, 1) := by decide +kernel
theorem d11_goes_6 : decode prog_13_method_24_code 6 = .ok (.invokestatic 35, 3) := by decide +kernel
theorem d11_goes_9 : decode prog_13_method_24_code 9 = .ok (.iload_n 2, 1) := by decide +kernel
theorem d11_goes_10 : decode prog_13_method_24_code 10 = .ok (.iastore, 1) := by decide +kernel
theorem d11_goes_11 : decode prog_13_method_24_code 11 = .ok (.aload_n 0, 1) := by decide +kernel
theorem d11_goes_12 : decode prog_13_method_24_code 12 = .ok (.getfield 7, 3) := by decide +kernel
theorem d11_goes_15 : decode prog_13_method_24_code 15 = .ok (.iload_n 1, 1) := by decide +kernel
theorem d11_goes_16 : decode prog_13_method_24_code 16 = .ok (.iconst 2, 1) := by decide +kernel
theorem d11_goes_17 : decode prog_13_method_24_code 17 = .ok (.invokestatic 35, 3) := by decide +kernel
theorem d11_goes_20 : decode prog_13_method_24_code 20 = .ok (.iconst 0, 1) := by decide +kernel
theorem d11_goes_21 : decode prog_13_method_24_code 21 = .ok (.iastore, 1) := by decide +kernel
theorem d11_goes_22 : decode prog_13_method_24_code 22 = .ok (.aload_n 0, 1) := by decide +kernel
theorem d11_goes_23 : decode prog_13_method_24_code 23 = .ok (.getfield 7, 3) := by decide +kernel
theorem d11_goes_26 : decode prog_13_method_24_code 26 = .ok (.iload_n 1, 1) := by decide +kernel
theorem d11_goes_27 : decode prog_13_method_24_code 27 = .ok (.iconst 3, 1) := by decide +kernel
theorem d11_goes_28 : decode prog_13_method_24_code 28 = .ok (.invokestatic 35, 3) := by decide +kernel
theorem d11_goes_31 : decode prog_13_method_24_code 31 = .ok (.iconst 0, 1) := by decide +kernel
theorem d11_goes_32 : decode prog_13_method_24_code 32 = .ok (.iastore, 1) := by decide +kernel
theorem d11_goes_33 : decode prog_13_method_24_code 33 = .ok (.iload_n 2, 1) := by decide +kernel
theorem d11_goes_34 : decode prog_13_method_24_code 34 = .ok (.iconst 4, 1) := by decide +kernel
theorem d11_goes_35 : decode prog_13_method_24_code 35 = .ok (.bipush 8, 2) := by decide +kernel
theorem d11_goes_37 : decode prog_13_method_24_code 37 = .ok (.invokestatic 39, 3) := by decide +kernel
theorem d11_goes_40 : decode prog_13_method_24_code 40 = .ok (.ifCond .ne 14, 3) := by decide +kernel
theorem d11_goes_43 : decode prog_13_method_24_code 43 = .ok (.aload_n 0, 1) := by decide +kernel
theorem d11_goes_44 : decode prog_13_method_24_code 44 = .ok (.getfield 7, 3) := by decide +kernel
theorem d11_goes_47 : decode prog_13_method_24_code 47 = .ok (.iload_n 1, 1) := by decide +kernel
theorem d11_goes_48 : decode prog_13_method_24_code 48 = .ok (.iconst 1, 1) := by decide +kernel
theorem d11_goes_49 : decode prog_13_method_24_code 49 = .ok (.invokestatic 35, 3) := by decide +kernel
theorem d11_goes_52 : decode prog_13_method_24_code 52 = .ok (.iconst 0, 1) := by decide +kernel
theorem d11_goes_53 : decode prog_13_method_24_code 53 = .ok (.iastore, 1) := by decide +kernel
theorem d11_goes_54 : decode prog_13_method_24_code 54 = .ok (.iload_n 2, 1) := by decide +kernel
theorem d11_goes_55 : decode prog_13_method_24_code 55 = .ok (.iconst 4, 1) := by decide +kernel
theorem d11_goes_56 : decode prog_13_method_24_code 56 = .ok (.if_icmp .eq 8, 3) := by decide +kernel
theorem d11_goes_59 : decode prog_13_method_24_code 59 = .ok (.aload_n 0, 1) := by decide +kernel
theorem d11_goes_60 : decode prog_13_method_24_code 60 = .ok (.iload_n 1, 1) := by decide +kernel
theorem d11_goes_61 : decode prog_13_method_24_code 61 = .ok (.invokevirtual 77, 3) := by decide +kernel
theorem d11_goes_64 : decode prog_13_method_24_code 64 = .ok (.aload_n 0, 1) := by decide +kernel
theorem d11_goes_65 : decode prog_13_method_24_code 65 = .ok (.getfield 7, 3) := by decide +kernel
theorem d11_goes_68 : decode prog_13_method_24_code 68 = .ok (.iload_n 1, 1) := by decide +kernel
theorem d11_goes_69 : decode prog_13_method_24_code 69 = .ok (.bipush 13, 2) := by decide +kernel
theorem d11_goes_71 : decode prog_13_method_24_code 71 = .ok (.invokestatic 35, 3) := by decide +kernel
theorem d11_goes_74 : decode prog_13_method_24_code 74 = .ok (.dup2, 1) := by decide +kernel
theorem d11_goes_75 : decode prog_13_method_24_code 75 = .ok (.iaload, 1) := by decide +kernel
theorem d11_goes_76 : decode prog_13_method_24_code 76 = .ok (.iload_n 2, 1) := by decide +kernel
theorem d11_goes_77 : decode prog_13_method_24_code 77 = .ok (.bipush 6, 2) := by decide +kernel
theorem d11_goes_79 : decode prog_13_method_24_code 79 = .ok (.if_icmp .ne 7, 3) := by decide +kernel
theorem d11_goes_82 : decode prog_13_method_24_code 82 = .ok (.iconst 1, 1) := by decide +kernel
theorem d11_goes_83 : decode prog_13_method_24_code 83 = .ok (.goto 4, 3) := by decide +kernel
theorem d11_goes_86 : decode prog_13_method_24_code 86 = .ok (.iconst 0, 1) := by decide +kernel
theorem d11_goes_87 : decode prog_13_method_24_code 87 = .ok (.iadd, 1) := by decide +kernel
theorem d11_goes_88 : decode prog_13_method_24_code 88 = .ok (.iastore, 1) := by decide +kernel
theorem d11_goes_89 : decode prog_13_method_24_code 89 = .ok (.return_, 1) := by decide +kernel
theorem d11_releases_0 : decode prog_13_method_25_code 0 = .ok (.iconst 0, 1) := by decide +kernel
theorem d11_releases_1 : decode prog_13_method_25_code 1 = .ok (.istore_n 2, 1) := by decide +kernel
theorem d11_releases_2 : decode prog_13_method_25_code 2 = .ok (.iload_n 2, 1) := by decide +kernel
theorem d11_releases_3 : decode prog_13_method_25_code 3 = .ok (.iconst 4, 1) := by decide +kernel
theorem d11_releases_4 : decode prog_13_method_25_code 4 = .ok (.if_icmp .ge 21, 3) := by decide +kernel
theorem d11_releases_7 : decode prog_13_method_25_code 7 = .ok (.aload_n 0, 1) := by decide +kernel
theorem d11_releases_8 : decode prog_13_method_25_code 8 = .ok (.getfield 7, 3) := by decide +kernel
theorem d11_releases_11 : decode prog_13_method_25_code 11 = .ok (.iload_n 1, 1) := by decide +kernel
theorem d11_releases_12 : decode prog_13_method_25_code 12 = .ok (.iload_n 2, 1) := by decide +kernel
theorem d11_releases_13 : decode prog_13_method_25_code 13 = .ok (.iconst 4, 1) := by decide +kernel
theorem d11_releases_14 : decode prog_13_method_25_code 14 = .ok (.invokestatic 81, 3) := by decide +kernel
theorem d11_releases_17 : decode prog_13_method_25_code 17 = .ok (.iconst 0, 1) := by decide +kernel
theorem d11_releases_18 : decode prog_13_method_25_code 18 = .ok (.iastore, 1) := by decide +kernel
theorem d11_releases_19 : decode prog_13_method_25_code 19 = .ok (.iinc 2 1, 3) := by decide +kernel
theorem d11_releases_22 : decode prog_13_method_25_code 22 = .ok (.goto (-20), 3) := by decide +kernel
theorem d11_releases_25 : decode prog_13_method_25_code 25 = .ok (.return_, 1) := by decide +kernel
theorem d11_detach_0 : decode prog_13_method_26_code 0 = .ok (.iload_n 1, 1) := by decide +kernel
theorem d11_detach_1 : decode prog_13_method_26_code 1 = .ok (.invokestatic 66, 3) := by decide +kernel
theorem d11_detach_4 : decode prog_13_method_26_code 4 = .ok (.ifCond .ne 5, 3) := by decide +kernel
theorem d11_detach_7 : decode prog_13_method_26_code 7 = .ok (.iconst (-1), 1) := by decide +kernel
theorem d11_detach_8 : decode prog_13_method_26_code 8 = .ok (.ireturn, 1) := by decide +kernel
theorem d11_detach_9 : decode prog_13_method_26_code 9 = .ok (.aload_n 0, 1) := by decide +kernel
theorem d11_detach_10 : decode prog_13_method_26_code 10 = .ok (.getfield 7, 3) := by decide +kernel
theorem d11_detach_13 : decode prog_13_method_26_code 13 = .ok (.iload_n 1, 1) := by decide +kernel
theorem d11_detach_14 : decode prog_13_method_26_code 14 = .ok (.iconst 0, 1) := by decide +kernel
theorem d11_detach_15 : decode prog_13_method_26_code 15 = .ok (.invokestatic 35, 3) := by decide +kernel
theorem d11_detach_18 : decode prog_13_method_26_code 18 = .ok (.iaload, 1) := by decide +kernel
theorem d11_detach_19 : decode prog_13_method_26_code 19 = .ok (.istore_n 2, 1) := by decide +kernel
theorem d11_detach_20 : decode prog_13_method_26_code 20 = .ok (.iload_n 2, 1) := by decide +kernel
theorem d11_detach_21 : decode prog_13_method_26_code 21 = .ok (.ifCond .ne 6, 3) := by decide +kernel
theorem d11_detach_24 : decode prog_13_method_26_code 24 = .ok (.bipush (-4), 2) := by decide +kernel
theorem d11_detach_26 : decode prog_13_method_26_code 26 = .ok (.ireturn, 1) := by decide +kernel
theorem d11_detach_27 : decode prog_13_method_26_code 27 = .ok (.aload_n 0, 1) := by decide +kernel
theorem d11_detach_28 : decode prog_13_method_26_code 28 = .ok (.iload_n 1, 1) := by decide +kernel
theorem d11_detach_29 : decode prog_13_method_26_code 29 = .ok (.iconst 0, 1) := by decide +kernel
theorem d11_detach_30 : decode prog_13_method_26_code 30 = .ok (.invokevirtual 84, 3) := by decide +kernel
theorem d11_detach_33 : decode prog_13_method_26_code 33 = .ok (.iload_n 2, 1) := by decide +kernel
theorem d11_detach_34 : decode prog_13_method_26_code 34 = .ok (.ireturn, 1) := by decide +kernel
theorem d11_attach_0 : decode prog_13_method_27_code 0 = .ok (.iload_n 1, 1) := by decide +kernel
theorem d11_attach_1 : decode prog_13_method_27_code 1 = .ok (.invokestatic 66, 3) := by decide +kernel
theorem d11_attach_4 : decode prog_13_method_27_code 4 = .ok (.ifCond .ne 5, 3) := by decide +kernel
theorem d11_attach_7 : decode prog_13_method_27_code 7 = .ok (.iconst (-1), 1) := by decide +kernel
theorem d11_attach_8 : decode prog_13_method_27_code 8 = .ok (.ireturn, 1) := by decide +kernel
theorem d11_attach_9 : decode prog_13_method_27_code 9 = .ok (.aload_n 0, 1) := by decide +kernel
theorem d11_attach_10 : decode prog_13_method_27_code 10 = .ok (.getfield 7, 3) := by decide +kernel
theorem d11_attach_13 : decode prog_13_method_27_code 13 = .ok (.iload_n 1, 1) := by decide +kernel
theorem d11_attach_14 : decode prog_13_method_27_code 14 = .ok (.iconst 0, 1) := by decide +kernel
theorem d11_attach_15 : decode prog_13_method_27_code 15 = .ok (.invokestatic 35, 3) := by decide +kernel
theorem d11_attach_18 : decode prog_13_method_27_code 18 = .ok (.iaload, 1) := by decide +kernel
theorem d11_attach_19 : decode prog_13_method_27_code 19 = .ok (.ifCond .eq 6, 3) := by decide +kernel
theorem d11_attach_22 : decode prog_13_method_27_code 22 = .ok (.bipush (-4), 2) := by decide +kernel
theorem d11_attach_24 : decode prog_13_method_27_code 24 = .ok (.ireturn, 1) := by decide +kernel
theorem d11_attach_25 : decode prog_13_method_27_code 25 = .ok (.aload_n 0, 1) := by decide +kernel
theorem d11_attach_26 : decode prog_13_method_27_code 26 = .ok (.iload_n 1, 1) := by decide +kernel
theorem d11_attach_27 : decode prog_13_method_27_code 27 = .ok (.iconst 2, 1) := by decide +kernel
theorem d11_attach_28 : decode prog_13_method_27_code 28 = .ok (.invokevirtual 84, 3) := by decide +kernel
theorem d11_attach_31 : decode prog_13_method_27_code 31 = .ok (.iconst 0, 1) := by decide +kernel
theorem d11_attach_32 : decode prog_13_method_27_code 32 = .ok (.istore_n 2, 1) := by decide +kernel
theorem d11_attach_33 : decode prog_13_method_27_code 33 = .ok (.iconst 0, 1) := by decide +kernel
theorem d11_attach_34 : decode prog_13_method_27_code 34 = .ok (.istore_n 3, 1) := by decide +kernel
theorem d11_attach_35 : decode prog_13_method_27_code 35 = .ok (.iload_n 3, 1) := by decide +kernel
theorem d11_attach_36 : decode prog_13_method_27_code 36 = .ok (.iconst 4, 1) := by decide +kernel
theorem d11_attach_37 : decode prog_13_method_27_code 37 = .ok (.if_icmp .ge 30, 3) := by decide +kernel
theorem d11_attach_40 : decode prog_13_method_27_code 40 = .ok (.iload_n 2, 1) := by decide +kernel
theorem d11_attach_41 : decode prog_13_method_27_code 41 = .ok (.aload_n 0, 1) := by decide +kernel
theorem d11_attach_42 : decode prog_13_method_27_code 42 = .ok (.getfield 7, 3) := by decide +kernel
theorem d11_attach_45 : decode prog_13_method_27_code 45 = .ok (.iload_n 3, 1) := by decide +kernel
theorem d11_attach_46 : decode prog_13_method_27_code 46 = .ok (.iconst 0, 1) := by decide +kernel
theorem d11_attach_47 : decode prog_13_method_27_code 47 = .ok (.invokestatic 35, 3) := by decide +kernel
theorem d11_attach_50 : decode prog_13_method_27_code 50 = .ok (.iaload, 1) := by decide +kernel
theorem d11_attach_51 : decode prog_13_method_27_code 51 = .ok (.ifCond .ne 7, 3) := by decide +kernel
theorem d11_attach_54 : decode prog_13_method_27_code 54 = .ok (.iconst 0, 1) := by decide +kernel
theorem d11_attach_55 : decode prog_13_method_27_code 55 = .ok (.goto 4, 3) := by decide +kernel
theorem d11_attach_58 : decode prog_13_method_27_code 58 = .ok (.iconst 1, 1) := by decide +kernel
theorem d11_attach_59 : decode prog_13_method_27_code 59 = .ok (.iadd, 1) := by decide +kernel
theorem d11_attach_60 : decode prog_13_method_27_code 60 = .ok (.istore_n 2, 1) := by decide +kernel
theorem d11_attach_61 : decode prog_13_method_27_code 61 = .ok (.iinc 3 1, 3) := by decide +kernel
theorem d11_attach_64 : decode prog_13_method_27_code 64 = .ok (.goto (-29), 3) := by decide +kernel
theorem d11_attach_67 : decode prog_13_method_27_code 67 = .ok (.iload_n 2, 1) := by decide +kernel
theorem d11_attach_68 : decode prog_13_method_27_code 68 = .ok (.ireturn, 1) := by decide +kernel
theorem d11_isRoom_0 : decode prog_13_method_28_code 0 = .ok (.aload_n 0, 1) := by decide +kernel
theorem d11_isRoom_1 : decode prog_13_method_28_code 1 = .ok (.getfield 7, 3) := by decide +kernel
theorem d11_isRoom_4 : decode prog_13_method_28_code 4 = .ok (.iload_n 1, 1) := by decide +kernel
theorem d11_isRoom_5 : decode prog_13_method_28_code 5 = .ok (.bipush 23, 2) := by decide +kernel
theorem d11_isRoom_7 : decode prog_13_method_28_code 7 = .ok (.invokestatic 35, 3) := by decide +kernel
theorem d11_isRoom_10 : decode prog_13_method_28_code 10 = .ok (.iaload, 1) := by decide +kernel
theorem d11_isRoom_11 : decode prog_13_method_28_code 11 = .ok (.iconst 4, 1) := by decide +kernel
theorem d11_isRoom_12 : decode prog_13_method_28_code 12 = .ok (.if_icmp .ge 7, 3) := by decide +kernel
theorem d11_isRoom_15 : decode prog_13_method_28_code 15 = .ok (.iconst 1, 1) := by decide +kernel
theorem d11_isRoom_16 : decode prog_13_method_28_code 16 = .ok (.goto 4, 3) := by decide +kernel
theorem d11_isRoom_19 : decode prog_13_method_28_code 19 = .ok (.iconst 0, 1) := by decide +kernel
theorem d11_isRoom_20 : decode prog_13_method_28_code 20 = .ok (.ireturn, 1) := by decide +kernel
theorem d11_waits_0 : decode prog_13_method_29_code 0 = .ok (.aload_n 0, 1) := by decide +kernel
theorem d11_waits_1 : decode prog_13_method_29_code 1 = .ok (.getfield 7, 3) := by decide +kernel
theorem d11_waits_4 : decode prog_13_method_29_code 4 = .ok (.iload_n 1, 1) := by decide +kernel
theorem d11_waits_5 : decode prog_13_method_29_code 5 = .ok (.bipush 23, 2) := by decide +kernel
theorem d11_waits_7 : decode prog_13_method_29_code 7 = .ok (.invokestatic 35, 3) := by decide +kernel
theorem d11_waits_10 : decode prog_13_method_29_code 10 = .ok (.iaload, 1) := by decide +kernel
theorem d11_waits_11 : decode prog_13_method_29_code 11 = .ok (.istore 6, 2) := by decide +kernel
theorem d11_waits_13 : decode prog_13_method_29_code 13 = .ok (.iconst 2, 1) := by decide +kernel
theorem d11_waits_14 : decode prog_13_method_29_code 14 = .ok (.iload_n 2, 1) := by decide +kernel
theorem d11_waits_15 : decode prog_13_method_29_code 15 = .ok (.imul, 1) := by decide +kernel
theorem d11_waits_16 : decode prog_13_method_29_code 16 = .ok (.iload_n 3, 1) := by decide +kernel
theorem d11_waits_17 : decode prog_13_method_29_code 17 = .ok (.iadd, 1) := by decide +kernel
theorem d11_waits_18 : decode prog_13_method_29_code 18 = .ok (.istore 7, 2) := by decide +kernel
theorem d11_waits_20 : decode prog_13_method_29_code 20 = .ok (.iload 6, 2) := by decide +kernel
theorem d11_waits_22 : decode prog_13_method_29_code 22 = .ok (.ifCond .le 88, 3) := by decide +kernel
theorem d11_waits_25 : decode prog_13_method_29_code 25 = .ok (.iconst 2, 1) := by decide +kernel
theorem d11_waits_26 : decode prog_13_method_29_code 26 = .ok (.aload_n 0, 1) := by decide +kernel
theorem d11_waits_27 : decode prog_13_method_29_code 27 = .ok (.getfield 7, 3) := by decide +kernel
theorem d11_waits_30 : decode prog_13_method_29_code 30 = .ok (.iload_n 1, 1) := by decide +kernel
theorem d11_waits_31 : decode prog_13_method_29_code 31 = .ok (.iload 6, 2) := by decide +kernel
theorem d11_waits_33 : decode prog_13_method_29_code 33 = .ok (.iconst 1, 1) := by decide +kernel
theorem d11_waits_34 : decode prog_13_method_29_code 34 = .ok (.isub, 1) := by decide +kernel
theorem d11_waits_35 : decode prog_13_method_29_code 35 = .ok (.iconst 0, 1) := by decide +kernel
theorem d11_waits_36 : decode prog_13_method_29_code 36 = .ok (.invokestatic 81, 3) := by decide +kernel
theorem d11_waits_39 : decode prog_13_method_29_code 39 = .ok (.iaload, 1) := by decide +kernel
theorem d11_waits_40 : decode prog_13_method_29_code 40 = .ok (.imul, 1) := by decide +kernel
theorem d11_waits_41 : decode prog_13_method_29_code 41 = .ok (.aload_n 0, 1) := by decide +kernel
theorem d11_waits_42 : decode prog_13_method_29_code 42 = .ok (.getfield 7, 3) := by decide +kernel
theorem d11_waits_45 : decode prog_13_method_29_code 45 = .ok (.iload_n 1, 1) := by decide +kernel
theorem d11_waits_46 : decode prog_13_method_29_code 46 = .ok (.iload 6, 2) := by decide +kernel
theorem d11_waits_48 : decode prog_13_method_29_code 48 = .ok (.iconst 1, 1) := by decide +kernel
theorem d11_waits_49 : decode prog_13_method_29_code 49 = .ok (.isub, 1) := by decide +kernel
theorem d11_waits_50 : decode prog_13_method_29_code 50 = .ok (.iconst 1, 1) := by decide +kernel
theorem d11_waits_51 : decode prog_13_method_29_code 51 = .ok (.invokestatic 81, 3) := by decide +kernel
theorem d11_waits_54 : decode prog_13_method_29_code 54 = .ok (.iaload, 1) := by decide +kernel
theorem d11_waits_55 : decode prog_13_method_29_code 55 = .ok (.iadd, 1) := by decide +kernel
theorem d11_waits_56 : decode prog_13_method_29_code 56 = .ok (.iload 7, 2) := by decide +kernel
theorem d11_waits_58 : decode prog_13_method_29_code 58 = .ok (.if_icmp .le 52, 3) := by decide +kernel
theorem d11_waits_61 : decode prog_13_method_29_code 61 = .ok (.iconst 0, 1) := by decide +kernel
theorem d11_waits_62 : decode prog_13_method_29_code 62 = .ok (.istore 8, 2) := by decide +kernel
theorem d11_waits_64 : decode prog_13_method_29_code 64 = .ok (.iload 8, 2) := by decide +kernel
theorem d11_waits_66 : decode prog_13_method_29_code 66 = .ok (.iconst 5, 1) := by decide +kernel
theorem d11_waits_67 : decode prog_13_method_29_code 67 = .ok (.if_icmp .ge 37, 3) := by decide +kernel
theorem d11_waits_70 : decode prog_13_method_29_code 70 = .ok (.aload_n 0, 1) := by decide +kernel
theorem d11_waits_71 : decode prog_13_method_29_code 71 = .ok (.getfield 7, 3) := by decide +kernel
theorem d11_waits_74 : decode prog_13_method_29_code 74 = .ok (.iload_n 1, 1) := by decide +kernel
theorem d11_waits_75 : decode prog_13_method_29_code 75 = .ok (.iload 6, 2) := by decide +kernel
theorem d11_waits_77 : decode prog_13_method_29_code 77 = .ok (.iload 8, 2) := by decide +kernel
theorem d11_waits_79 : decode prog_13_method_29_code 79 = .ok (.invokestatic 81, 3) := by decide +kernel
theorem d11_waits_82 : decode prog_13_method_29_code 82 = .ok (.aload_n 0, 1) := by decide +kernel
theorem d11_waits_83 : decode prog_13_method_29_code 83 = .ok (.getfield 7, 3) := by decide +kernel
theorem d11_waits_86 : decode prog_13_method_29_code 86 = .ok (.iload_n 1, 1) := by decide +kernel
theorem d11_waits_87 : decode prog_13_method_29_code 87 = .ok (.iload 6, 2) := by decide +kernel
theorem d11_waits_89 : decode prog_13_method_29_code 89 = .ok (.iconst 1, 1) := by decide +kernel
theorem d11_waits_90 : decode prog_13_method_29_code 90 = .ok (.isub, 1) := by decide +kernel
theorem d11_waits_91 : decode prog_13_method_29_code 91 = .ok (.iload 8, 2) := by decide +kernel
theorem d11_waits_93 : decode prog_13_method_29_code 93 = .ok (.invokestatic 81, 3) := by decide +kernel
theorem d11_waits_96 : decode prog_13_method_29_code 96 = .ok (.iaload, 1) := by decide +kernel
theorem d11_waits_97 : decode prog_13_method_29_code 97 = .ok (.iastore, 1) := by decide +kernel
theorem d11_waits_98 : decode prog_13_method_29_code 98 = .ok (.iinc 8 1, 3) := by decide +kernel
theorem d11_waits_101 : decode prog_13_method_29_code 101 = .ok (.goto (-37), 3) := by decide +kernel
theorem d11_waits_104 : decode prog_13_method_29_code 104 = .ok (.iinc 6 (-1), 3) := by decide +kernel
theorem d11_waits_107 : decode prog_13_method_29_code 107 = .ok (.goto (-87), 3) := by decide +kernel
theorem d11_waits_110 : decode prog_13_method_29_code 110 = .ok (.aload_n 0, 1) := by decide +kernel
theorem d11_waits_111 : decode prog_13_method_29_code 111 = .ok (.getfield 7, 3) := by decide +kernel
theorem d11_waits_114 : decode prog_13_method_29_code 114 = .ok (.iload_n 1, 1) := by decide +kernel
theorem d11_waits_115 : decode prog_13_method_29_code 115 = .ok (.iload 6, 2) := by decide +kernel
theorem d11_waits_117 : decode prog_13_method_29_code 117 = .ok (.iconst 0, 1) := by decide +kernel
theorem d11_waits_118 : decode prog_13_method_29_code 118 = .ok (.invokestatic 81, 3) := by decide +kernel
theorem d11_waits_121 : decode prog_13_method_29_code 121 = .ok (.iload_n 2, 1) := by decide +kernel
theorem d11_waits_122 : decode prog_13_method_29_code 122 = .ok (.iastore, 1) := by decide +kernel
theorem d11_waits_123 : decode prog_13_method_29_code 123 = .ok (.aload_n 0, 1) := by decide +kernel
theorem d11_waits_124 : decode prog_13_method_29_code 124 = .ok (.getfield 7, 3) := by decide +kernel
theorem d11_waits_127 : decode prog_13_method_29_code 127 = .ok (.iload_n 1, 1) := by decide +kernel
theorem d11_waits_128 : decode prog_13_method_29_code 128 = .ok (.iload 6, 2) := by decide +kernel
theorem d11_waits_130 : decode prog_13_method_29_code 130 = .ok (.iconst 1, 1) := by decide +kernel
theorem d11_waits_131 : decode prog_13_method_29_code 131 = .ok (.invokestatic 81, 3) := by decide +kernel
theorem d11_waits_134 : decode prog_13_method_29_code 134 = .ok (.iload_n 3, 1) := by decide +kernel
theorem d11_waits_135 : decode prog_13_method_29_code 135 = .ok (.iastore, 1) := by decide +kernel
theorem d11_waits_136 : decode prog_13_method_29_code 136 = .ok (.aload_n 0, 1) := by decide +kernel
theorem d11_waits_137 : decode prog_13_method_29_code 137 = .ok (.getfield 7, 3) := by decide +kernel
theorem d11_waits_140 : decode prog_13_method_29_code 140 = .ok (.iload_n 1, 1) := by decide +kernel
theorem d11_waits_141 : decode prog_13_method_29_code 141 = .ok (.iload 6, 2) := by decide +kernel
theorem d11_waits_143 : decode prog_13_method_29_code 143 = .ok (.iconst 2, 1) := by decide +kernel
theorem d11_waits_144 : decode prog_13_method_29_code 144 = .ok (.invokestatic 81, 3) := by decide +kernel
theorem d11_waits_147 : decode prog_13_method_29_code 147 = .ok (.iload 4, 2) := by decide +kernel
theorem d11_waits_149 : decode prog_13_method_29_code 149 = .ok (.iastore, 1) := by decide +kernel
theorem d11_waits_150 : decode prog_13_method_29_code 150 = .ok (.aload_n 0, 1) := by decide +kernel
theorem d11_waits_151 : decode prog_13_method_29_code 151 = .ok (.getfield 7, 3) := by decide +kernel
theorem d11_waits_154 : decode prog_13_method_29_code 154 = .ok (.iload_n 1, 1) := by decide +kernel
theorem d11_waits_155 : decode prog_13_method_29_code 155 = .ok (.iload 6, 2) := by decide +kernel
theorem d11_waits_157 : decode prog_13_method_29_code 157 = .ok (.iconst 3, 1) := by decide +kernel
theorem d11_waits_158 : decode prog_13_method_29_code 158 = .ok (.invokestatic 81, 3) := by decide +kernel
theorem d11_waits_161 : decode prog_13_method_29_code 161 = .ok (.iload 5, 2) := by decide +kernel
theorem d11_waits_163 : decode prog_13_method_29_code 163 = .ok (.iastore, 1) := by decide +kernel
theorem d11_waits_164 : decode prog_13_method_29_code 164 = .ok (.aload_n 0, 1) := by decide +kernel
theorem d11_waits_165 : decode prog_13_method_29_code 165 = .ok (.getfield 7, 3) := by decide +kernel
theorem d11_waits_168 : decode prog_13_method_29_code 168 = .ok (.iload_n 1, 1) := by decide +kernel
theorem d11_waits_169 : decode prog_13_method_29_code 169 = .ok (.iload 6, 2) := by decide +kernel
theorem d11_waits_171 : decode prog_13_method_29_code 171 = .ok (.iconst 4, 1) := by decide +kernel
theorem d11_waits_172 : decode prog_13_method_29_code 172 = .ok (.invokestatic 81, 3) := by decide +kernel
theorem d11_waits_175 : decode prog_13_method_29_code 175 = .ok (.iconst 0, 1) := by decide +kernel
theorem d11_waits_176 : decode prog_13_method_29_code 176 = .ok (.iastore, 1) := by decide +kernel
theorem d11_waits_177 : decode prog_13_method_29_code 177 = .ok (.aload_n 0, 1) := by decide +kernel
theorem d11_waits_178 : decode prog_13_method_29_code 178 = .ok (.getfield 7, 3) := by decide +kernel
theorem d11_waits_181 : decode prog_13_method_29_code 181 = .ok (.iload_n 1, 1) := by decide +kernel
theorem d11_waits_182 : decode prog_13_method_29_code 182 = .ok (.bipush 23, 2) := by decide +kernel
theorem d11_waits_184 : decode prog_13_method_29_code 184 = .ok (.invokestatic 35, 3) := by decide +kernel
theorem d11_waits_187 : decode prog_13_method_29_code 187 = .ok (.dup2, 1) := by decide +kernel
theorem d11_waits_188 : decode prog_13_method_29_code 188 = .ok (.iaload, 1) := by decide +kernel
theorem d11_waits_189 : decode prog_13_method_29_code 189 = .ok (.iconst 1, 1) := by decide +kernel
theorem d11_waits_190 : decode prog_13_method_29_code 190 = .ok (.iadd, 1) := by decide +kernel
theorem d11_waits_191 : decode prog_13_method_29_code 191 = .ok (.iastore, 1) := by decide +kernel
theorem d11_waits_192 : decode prog_13_method_29_code 192 = .ok (.return_, 1) := by decide +kernel
theorem d11_unwaits_0 : decode prog_13_method_30_code 0 = .ok (.iload_n 1, 1) := by decide +kernel
theorem d11_unwaits_1 : decode prog_13_method_30_code 1 = .ok (.iload_n 2, 1) := by decide +kernel
theorem d11_unwaits_2 : decode prog_13_method_30_code 2 = .ok (.iconst 0, 1) := by decide +kernel
theorem d11_unwaits_3 : decode prog_13_method_30_code 3 = .ok (.invokestatic 81, 3) := by decide +kernel
theorem d11_unwaits_6 : decode prog_13_method_30_code 6 = .ok (.istore_n 3, 1) := by decide +kernel
theorem d11_unwaits_7 : decode prog_13_method_30_code 7 = .ok (.iload_n 3, 1) := by decide +kernel
theorem d11_unwaits_8 : decode prog_13_method_30_code 8 = .ok (.iload_n 1, 1) := by decide +kernel
theorem d11_unwaits_9 : decode prog_13_method_30_code 9 = .ok (.iconst 3, 1) := by decide +kernel
theorem d11_unwaits_10 : decode prog_13_method_30_code 10 = .ok (.iconst 0, 1) := by decide +kernel
theorem d11_unwaits_11 : decode prog_13_method_30_code 11 = .ok (.invokestatic 81, 3) := by decide +kernel
theorem d11_unwaits_14 : decode prog_13_method_30_code 14 = .ok (.if_icmp .ge 23, 3) := by decide +kernel
theorem d11_unwaits_17 : decode prog_13_method_30_code 17 = .ok (.aload_n 0, 1) := by decide +kernel
theorem d11_unwaits_18 : decode prog_13_method_30_code 18 = .ok (.getfield 7, 3) := by decide +kernel
theorem d11_unwaits_21 : decode prog_13_method_30_code 21 = .ok (.iload_n 3, 1) := by decide +kernel
theorem d11_unwaits_22 : decode prog_13_method_30_code 22 = .ok (.aload_n 0, 1) := by decide +kernel
theorem d11_unwaits_23 : decode prog_13_method_30_code 23 = .ok (.getfield 7, 3) := by decide +kernel
theorem d11_unwaits_26 : decode prog_13_method_30_code 26 = .ok (.iload_n 3, 1) := by decide +kernel
theorem d11_unwaits_27 : decode prog_13_method_30_code 27 = .ok (.iconst 5, 1) := by decide +kernel
theorem d11_unwaits_28 : decode prog_13_method_30_code 28 = .ok (.iadd, 1) := by decide +kernel
theorem d11_unwaits_29 : decode prog_13_method_30_code 29 = .ok (.iaload, 1) := by decide +kernel
theorem d11_unwaits_30 : decode prog_13_method_30_code 30 = .ok (.iastore, 1) := by decide +kernel
theorem d11_unwaits_31 : decode prog_13_method_30_code 31 = .ok (.iinc 3 1, 3) := by decide +kernel
theorem d11_unwaits_34 : decode prog_13_method_30_code 34 = .ok (.goto (-27), 3) := by decide +kernel
theorem d11_unwaits_37 : decode prog_13_method_30_code 37 = .ok (.aload_n 0, 1) := by decide +kernel
theorem d11_unwaits_38 : decode prog_13_method_30_code 38 = .ok (.getfield 7, 3) := by decide +kernel
theorem d11_unwaits_41 : decode prog_13_method_30_code 41 = .ok (.iload_n 1, 1) := by decide +kernel
theorem d11_unwaits_42 : decode prog_13_method_30_code 42 = .ok (.bipush 23, 2) := by decide +kernel
theorem d11_unwaits_44 : decode prog_13_method_30_code 44 = .ok (.invokestatic 35, 3) := by decide +kernel
theorem d11_unwaits_47 : decode prog_13_method_30_code 47 = .ok (.dup2, 1) := by decide +kernel
theorem d11_unwaits_48 : decode prog_13_method_30_code 48 = .ok (.iaload, 1) := by decide +kernel
theorem d11_unwaits_49 : decode prog_13_method_30_code 49 = .ok (.iconst 1, 1) := by decide +kernel
theorem d11_unwaits_50 : decode prog_13_method_30_code 50 = .ok (.isub, 1) := by decide +kernel
theorem d11_unwaits_51 : decode prog_13_method_30_code 51 = .ok (.iastore, 1) := by decide +kernel
theorem d11_unwaits_52 : decode prog_13_method_30_code 52 = .ok (.aload_n 0, 1) := by decide +kernel
theorem d11_unwaits_53 : decode prog_13_method_30_code 53 = .ok (.getfield 7, 3) := by decide +kernel
theorem d11_unwaits_56 : decode prog_13_method_30_code 56 = .ok (.iload_n 1, 1) := by decide +kernel
theorem d11_unwaits_57 : decode prog_13_method_30_code 57 = .ok (.aload_n 0, 1) := by decide +kernel
theorem d11_unwaits_58 : decode prog_13_method_30_code 58 = .ok (.getfield 7, 3) := by decide +kernel
theorem d11_unwaits_61 : decode prog_13_method_30_code 61 = .ok (.iload_n 1, 1) := by decide +kernel
theorem d11_unwaits_62 : decode prog_13_method_30_code 62 = .ok (.bipush 23, 2) := by decide +kernel
theorem d11_unwaits_64 : decode prog_13_method_30_code 64 = .ok (.invokestatic 35, 3) := by decide +kernel
theorem d11_unwaits_67 : decode prog_13_method_30_code 67 = .ok (.iaload, 1) := by decide +kernel
theorem d11_unwaits_68 : decode prog_13_method_30_code 68 = .ok (.iconst 4, 1) := by decide +kernel
theorem d11_unwaits_69 : decode prog_13_method_30_code 69 = .ok (.invokestatic 81, 3) := by decide +kernel
theorem d11_unwaits_72 : decode prog_13_method_30_code 72 = .ok (.iconst 0, 1) := by decide +kernel
theorem d11_unwaits_73 : decode prog_13_method_30_code 73 = .ok (.iastore, 1) := by decide +kernel
theorem d11_unwaits_74 : decode prog_13_method_30_code 74 = .ok (.return_, 1) := by decide +kernel
theorem d11_request_0 : decode prog_13_method_31_code 0 = .ok (.iload_n 1, 1) := by decide +kernel
theorem d11_request_1 : decode prog_13_method_31_code 1 = .ok (.invokestatic 66, 3) := by decide +kernel
theorem d11_request_4 : decode prog_13_method_31_code 4 = .ok (.ifCond .ne 5, 3) := by decide +kernel
theorem d11_request_7 : decode prog_13_method_31_code 7 = .ok (.iconst (-1), 1) := by decide +kernel
theorem d11_request_8 : decode prog_13_method_31_code 8 = .ok (.ireturn, 1) := by decide +kernel
theorem d11_request_9 : decode prog_13_method_31_code 9 = .ok (.iload_n 2, 1) := by decide +kernel
theorem d11_request_10 : decode prog_13_method_31_code 10 = .ok (.iload_n 3, 1) := by decide +kernel
theorem d11_request_11 : decode prog_13_method_31_code 11 = .ok (.iload 4, 2) := by decide +kernel
theorem d11_request_13 : decode prog_13_method_31_code 13 = .ok (.iload 5, 2) := by decide +kernel
theorem d11_request_15 : decode prog_13_method_31_code 15 = .ok (.invokestatic 51, 3) := by decide +kernel
theorem d11_request_18 : decode prog_13_method_31_code 18 = .ok (.ifCond .ne 6, 3) := by decide +kernel
theorem d11_request_21 : decode prog_13_method_31_code 21 = .ok (.bipush (-2), 2) := by decide +kernel
theorem d11_request_23 : decode prog_13_method_31_code 23 = .ok (.ireturn, 1) := by decide +kernel
theorem d11_request_24 : decode prog_13_method_31_code 24 = .ok (.aload_n 0, 1) := by decide +kernel
theorem d11_request_25 : decode prog_13_method_31_code 25 = .ok (.iload_n 1, 1) := by decide +kernel
theorem d11_request_26 : decode prog_13_method_31_code 26 = .ok (.invokevirtual 88, 3) := by decide +kernel
theorem d11_request_29 : decode prog_13_method_31_code 29 = .ok (.ifCond .ne 6, 3) := by decide +kernel
theorem d11_request_32 : decode prog_13_method_31_code 32 = .ok (.bipush (-3), 2) := by decide +kernel
theorem d11_request_34 : decode prog_13_method_31_code 34 = .ok (.ireturn, 1) := by decide +kernel
theorem d11_request_35 : decode prog_13_method_31_code 35 = .ok (.aload_n 0, 1) := by decide +kernel
theorem d11_request_36 : decode prog_13_method_31_code 36 = .ok (.iload_n 1, 1) := by decide +kernel
theorem d11_request_37 : decode prog_13_method_31_code 37 = .ok (.iload_n 2, 1) := by decide +kernel
theorem d11_request_38 : decode prog_13_method_31_code 38 = .ok (.iload_n 3, 1) := by decide +kernel
theorem d11_request_39 : decode prog_13_method_31_code 39 = .ok (.ifCond .eq 7, 3) := by decide +kernel
theorem d11_request_42 : decode prog_13_method_31_code 42 = .ok (.iconst 1, 1) := by decide +kernel
theorem d11_request_43 : decode prog_13_method_31_code 43 = .ok (.goto 4, 3) := by decide +kernel
theorem d11_request_46 : decode prog_13_method_31_code 46 = .ok (.iconst 0, 1) := by decide +kernel
theorem d11_request_47 : decode prog_13_method_31_code 47 = .ok (.iload 4, 2) := by decide +kernel
theorem d11_request_49 : decode prog_13_method_31_code 49 = .ok (.iload 5, 2) := by decide +kernel
theorem d11_request_51 : decode prog_13_method_31_code 51 = .ok (.invokevirtual 91, 3) := by decide +kernel
theorem d11_request_54 : decode prog_13_method_31_code 54 = .ok (.aload_n 0, 1) := by decide +kernel
theorem d11_request_55 : decode prog_13_method_31_code 55 = .ok (.getfield 7, 3) := by decide +kernel
theorem d11_request_58 : decode prog_13_method_31_code 58 = .ok (.iload_n 1, 1) := by decide +kernel
theorem d11_request_59 : decode prog_13_method_31_code 59 = .ok (.bipush 23, 2) := by decide +kernel
theorem d11_request_61 : decode prog_13_method_31_code 61 = .ok (.invokestatic 35, 3) := by decide +kernel
theorem d11_request_64 : decode prog_13_method_31_code 64 = .ok (.iaload, 1) := by decide +kernel
theorem d11_request_65 : decode prog_13_method_31_code 65 = .ok (.ireturn, 1) := by decide +kernel
theorem d11_cancel_0 : decode prog_13_method_32_code 0 = .ok (.iload_n 1, 1) := by decide +kernel
theorem d11_cancel_1 : decode prog_13_method_32_code 1 = .ok (.invokestatic 66, 3) := by decide +kernel
theorem d11_cancel_4 : decode prog_13_method_32_code 4 = .ok (.ifCond .ne 5, 3) := by decide +kernel
theorem d11_cancel_7 : decode prog_13_method_32_code 7 = .ok (.iconst (-1), 1) := by decide +kernel
theorem d11_cancel_8 : decode prog_13_method_32_code 8 = .ok (.ireturn, 1) := by decide +kernel
theorem d11_cancel_9 : decode prog_13_method_32_code 9 = .ok (.iconst 0, 1) := by decide +kernel
theorem d11_cancel_10 : decode prog_13_method_32_code 10 = .ok (.istore_n 3, 1) := by decide +kernel
theorem d11_cancel_11 : decode prog_13_method_32_code 11 = .ok (.aload_n 0, 1) := by decide +kernel
theorem d11_cancel_12 : decode prog_13_method_32_code 12 = .ok (.getfield 7, 3) := by decide +kernel
theorem d11_cancel_15 : decode prog_13_method_32_code 15 = .ok (.iload_n 1, 1) := by decide +kernel
theorem d11_cancel_16 : decode prog_13_method_32_code 16 = .ok (.bipush 23, 2) := by decide +kernel
theorem d11_cancel_18 : decode prog_13_method_32_code 18 = .ok (.invokestatic 35, 3) := by decide +kernel
theorem d11_cancel_21 : decode prog_13_method_32_code 21 = .ok (.iaload, 1) := by decide +kernel
theorem d11_cancel_22 : decode prog_13_method_32_code 22 = .ok (.iconst 1, 1) := by decide +kernel
theorem d11_cancel_23 : decode prog_13_method_32_code 23 = .ok (.isub, 1) := by decide +kernel
theorem d11_cancel_24 : decode prog_13_method_32_code 24 = .ok (.istore 4, 2) := by decide +kernel
theorem d11_cancel_26 : decode prog_13_method_32_code 26 = .ok (.iload 4, 2) := by decide +kernel
theorem d11_cancel_28 : decode prog_13_method_32_code 28 = .ok (.ifCond .lt 50, 3) := by decide +kernel
theorem d11_cancel_31 : decode prog_13_method_32_code 31 = .ok (.aload_n 0, 1) := by decide +kernel
theorem d11_cancel_32 : decode prog_13_method_32_code 32 = .ok (.getfield 7, 3) := by decide +kernel
theorem d11_cancel_35 : decode prog_13_method_32_code 35 = .ok (.iload_n 1, 1) := by decide +kernel
theorem d11_cancel_36 : decode prog_13_method_32_code 36 = .ok (.iload 4, 2) := by decide +kernel
theorem d11_cancel_38 : decode prog_13_method_32_code 38 = .ok (.iconst 0, 1) := by decide +kernel
theorem d11_cancel_39 : decode prog_13_method_32_code 39 = .ok (.invokestatic 81, 3) := by decide +kernel
theorem d11_cancel_42 : decode prog_13_method_32_code 42 = .ok (.iaload, 1) := by decide +kernel
theorem d11_cancel_43 : decode prog_13_method_32_code 43 = .ok (.iload_n 2, 1) := by decide +kernel
theorem d11_cancel_44 : decode prog_13_method_32_code 44 = .ok (.if_icmp .ne 28, 3) := by decide +kernel
theorem d11_cancel_47 : decode prog_13_method_32_code 47 = .ok (.aload_n 0, 1) := by decide +kernel
theorem d11_cancel_48 : decode prog_13_method_32_code 48 = .ok (.getfield 7, 3) := by decide +kernel
theorem d11_cancel_51 : decode prog_13_method_32_code 51 = .ok (.iload_n 1, 1) := by decide +kernel
theorem d11_cancel_52 : decode prog_13_method_32_code 52 = .ok (.iload 4, 2) := by decide +kernel
theorem d11_cancel_54 : decode prog_13_method_32_code 54 = .ok (.iconst 4, 1) := by decide +kernel
theorem d11_cancel_55 : decode prog_13_method_32_code 55 = .ok (.invokestatic 81, 3) := by decide +kernel
theorem d11_cancel_58 : decode prog_13_method_32_code 58 = .ok (.iaload, 1) := by decide +kernel
theorem d11_cancel_59 : decode prog_13_method_32_code 59 = .ok (.ifCond .ne 13, 3) := by decide +kernel
theorem d11_cancel_62 : decode prog_13_method_32_code 62 = .ok (.aload_n 0, 1) := by decide +kernel
theorem d11_cancel_63 : decode prog_13_method_32_code 63 = .ok (.iload_n 1, 1) := by decide +kernel
theorem d11_cancel_64 : decode prog_13_method_32_code 64 = .ok (.iload 4, 2) := by decide +kernel
theorem d11_cancel_66 : decode prog_13_method_32_code 66 = .ok (.invokevirtual 95, 3) := by decide +kernel
theorem d11_cancel_69 : decode prog_13_method_32_code 69 = .ok (.iinc 3 1, 3) := by decide +kernel
theorem d11_cancel_72 : decode prog_13_method_32_code 72 = .ok (.iinc 4 (-1), 3) := by decide +kernel
theorem d11_cancel_75 : decode prog_13_method_32_code 75 = .ok (.goto (-49), 3) := by decide +kernel
theorem d11_cancel_78 : decode prog_13_method_32_code 78 = .ok (.iload_n 3, 1) := by decide +kernel
theorem d11_cancel_79 : decode prog_13_method_32_code 79 = .ok (.ireturn, 1) := by decide +kernel
theorem d11_passes_0 : decode prog_13_method_33_code 0 = .ok (.iconst 0, 1) := by decide +kernel
theorem d11_passes_1 : decode prog_13_method_33_code 1 = .ok (.istore_n 1, 1) := by decide +kernel
theorem d11_passes_2 : decode prog_13_method_33_code 2 = .ok (.iconst 0, 1) := by decide +kernel
theorem d11_passes_3 : decode prog_13_method_33_code 3 = .ok (.istore_n 2, 1) := by decide +kernel
theorem d11_passes_4 : decode prog_13_method_33_code 4 = .ok (.iload_n 2, 1) := by decide +kernel
theorem d11_passes_5 : decode prog_13_method_33_code 5 = .ok (.aload_n 0, 1) := by decide +kernel
theorem d11_passes_6 : decode prog_13_method_33_code 6 = .ok (.getfield 7, 3) := by decide +kernel
theorem d11_passes_9 : decode prog_13_method_33_code 9 = .ok (.sipush 1028, 3) := by decide +kernel
theorem d11_passes_12 : decode prog_13_method_33_code 12 = .ok (.iaload, 1) := by decide +kernel
theorem d11_passes_13 : decode prog_13_method_33_code 13 = .ok (.if_icmp .ge 87, 3) := by decide +kernel
theorem d11_passes_16 : decode prog_13_method_33_code 16 = .ok (.aload_n 0, 1) := by decide +kernel
theorem d11_passes_17 : decode prog_13_method_33_code 17 = .ok (.getfield 7, 3) := by decide +kernel
theorem d11_passes_20 : decode prog_13_method_33_code 20 = .ok (.sipush 1029, 3) := by decide +kernel
theorem d11_passes_23 : decode prog_13_method_33_code 23 = .ok (.iconst 2, 1) := by decide +kernel
theorem d11_passes_24 : decode prog_13_method_33_code 24 = .ok (.iload_n 2, 1) := by decide +kernel
theorem d11_passes_25 : decode prog_13_method_33_code 25 = .ok (.imul, 1) := by decide +kernel
theorem d11_passes_26 : decode prog_13_method_33_code 26 = .ok (.iadd, 1) := by decide +kernel
theorem d11_passes_27 : decode prog_13_method_33_code 27 = .ok (.iaload, 1) := by decide +kernel
theorem d11_passes_28 : decode prog_13_method_33_code 28 = .ok (.aload_n 0, 1) := by decide +kernel
theorem d11_passes_29 : decode prog_13_method_33_code 29 = .ok (.getfield 7, 3) := by decide +kernel
theorem d11_passes_32 : decode prog_13_method_33_code 32 = .ok (.sipush 1024, 3) := by decide +kernel
theorem d11_passes_35 : decode prog_13_method_33_code 35 = .ok (.iaload, 1) := by decide +kernel
theorem d11_passes_36 : decode prog_13_method_33_code 36 = .ok (.if_icmp .lt 58, 3) := by decide +kernel
theorem d11_passes_39 : decode prog_13_method_33_code 39 = .ok (.aload_n 0, 1) := by decide +kernel
theorem d11_passes_40 : decode prog_13_method_33_code 40 = .ok (.getfield 7, 3) := by decide +kernel
theorem d11_passes_43 : decode prog_13_method_33_code 43 = .ok (.sipush 1029, 3) := by decide +kernel
theorem d11_passes_46 : decode prog_13_method_33_code 46 = .ok (.iconst 2, 1) := by decide +kernel
theorem d11_passes_47 : decode prog_13_method_33_code 47 = .ok (.iload_n 1, 1) := by decide +kernel
theorem d11_passes_48 : decode prog_13_method_33_code 48 = .ok (.imul, 1) := by decide +kernel
theorem d11_passes_49 : decode prog_13_method_33_code 49 = .ok (.iadd, 1) := by decide +kernel
theorem d11_passes_50 : decode prog_13_method_33_code 50 = .ok (.aload_n 0, 1) := by decide +kernel
theorem d11_passes_51 : decode prog_13_method_33_code 51 = .ok (.getfield 7, 3) := by decide +kernel
theorem d11_passes_54 : decode prog_13_method_33_code 54 = .ok (.sipush 1029, 3) := by decide +kernel
theorem d11_passes_57 : decode prog_13_method_33_code 57 = .ok (.iconst 2, 1) := by decide +kernel
theorem d11_passes_58 : decode prog_13_method_33_code 58 = .ok (.iload_n 2, 1) := by decide +kernel
theorem d11_passes_59 : decode prog_13_method_33_code 59 = .ok (.imul, 1) := by decide +kernel
theorem d11_passes_60 : decode prog_13_method_33_code 60 = .ok (.iadd, 1) := by decide +kernel
theorem d11_passes_61 : decode prog_13_method_33_code 61 = .ok (.iaload, 1) := by decide +kernel
theorem d11_passes_62 : decode prog_13_method_33_code 62 = .ok (.iastore, 1) := by decide +kernel
theorem d11_passes_63 : decode prog_13_method_33_code 63 = .ok (.aload_n 0, 1) := by decide +kernel
theorem d11_passes_64 : decode prog_13_method_33_code 64 = .ok (.getfield 7, 3) := by decide +kernel
theorem d11_passes_67 : decode prog_13_method_33_code 67 = .ok (.sipush 1029, 3) := by decide +kernel
theorem d11_passes_70 : decode prog_13_method_33_code 70 = .ok (.iconst 2, 1) := by decide +kernel
theorem d11_passes_71 : decode prog_13_method_33_code 71 = .ok (.iload_n 1, 1) := by decide +kernel
theorem d11_passes_72 : decode prog_13_method_33_code 72 = .ok (.imul, 1) := by decide +kernel
theorem d11_passes_73 : decode prog_13_method_33_code 73 = .ok (.iadd, 1) := by decide +kernel
theorem d11_passes_74 : decode prog_13_method_33_code 74 = .ok (.iconst 1, 1) := by decide +kernel
theorem d11_passes_75 : decode prog_13_method_33_code 75 = .ok (.iadd, 1) := by decide +kernel
theorem d11_passes_76 : decode prog_13_method_33_code 76 = .ok (.aload_n 0, 1) := by decide +kernel
theorem d11_passes_77 : decode prog_13_method_33_code 77 = .ok (.getfield 7, 3) := by decide +kernel
theorem d11_passes_80 : decode prog_13_method_33_code 80 = .ok (.sipush 1029, 3) := by decide +kernel
theorem d11_passes_83 : decode prog_13_method_33_code 83 = .ok (.iconst 2, 1) := by decide +kernel
theorem d11_passes_84 : decode prog_13_method_33_code 84 = .ok (.iload_n 2, 1) := by decide +kernel
theorem d11_passes_85 : decode prog_13_method_33_code 85 = .ok (.imul, 1) := by decide +kernel
theorem d11_passes_86 : decode prog_13_method_33_code 86 = .ok (.iadd, 1) := by decide +kernel
theorem d11_passes_87 : decode prog_13_method_33_code 87 = .ok (.iconst 1, 1) := by decide +kernel
theorem d11_passes_88 : decode prog_13_method_33_code 88 = .ok (.iadd, 1) := by decide +kernel
theorem d11_passes_89 : decode prog_13_method_33_code 89 = .ok (.iaload, 1) := by decide +kernel
theorem d11_passes_90 : decode prog_13_method_33_code 90 = .ok (.iastore, 1) := by decide +kernel
theorem d11_passes_91 : decode prog_13_method_33_code 91 = .ok (.iinc 1 1, 3) := by decide +kernel
theorem d11_passes_94 : decode prog_13_method_33_code 94 = .ok (.iinc 2 1, 3) := by decide +kernel
theorem d11_passes_97 : decode prog_13_method_33_code 97 = .ok (.goto (-93), 3) := by decide +kernel
theorem d11_passes_100 : decode prog_13_method_33_code 100 = .ok (.aload_n 0, 1) := by decide +kernel
theorem d11_passes_101 : decode prog_13_method_33_code 101 = .ok (.getfield 7, 3) := by decide +kernel
theorem d11_passes_104 : decode prog_13_method_33_code 104 = .ok (.sipush 1028, 3) := by decide +kernel
theorem d11_passes_107 : decode prog_13_method_33_code 107 = .ok (.iload_n 1, 1) := by decide +kernel
theorem d11_passes_108 : decode prog_13_method_33_code 108 = .ok (.iastore, 1) := by decide +kernel
theorem d11_passes_109 : decode prog_13_method_33_code 109 = .ok (.return_, 1) := by decide +kernel
theorem d11_disturb_0 : decode prog_13_method_34_code 0 = .ok (.iload_n 1, 1) := by decide +kernel
theorem d11_disturb_1 : decode prog_13_method_34_code 1 = .ok (.iconst 1, 1) := by decide +kernel
theorem d11_disturb_2 : decode prog_13_method_34_code 2 = .ok (.bipush 15, 2) := by decide +kernel
theorem d11_disturb_4 : decode prog_13_method_34_code 4 = .ok (.invokestatic 39, 3) := by decide +kernel
theorem d11_disturb_7 : decode prog_13_method_34_code 7 = .ok (.ifCond .eq 14, 3) := by decide +kernel
theorem d11_disturb_10 : decode prog_13_method_34_code 10 = .ok (.iload_n 2, 1) := by decide +kernel
theorem d11_disturb_11 : decode prog_13_method_34_code 11 = .ok (.iconst 0, 1) := by decide +kernel
theorem d11_disturb_12 : decode prog_13_method_34_code 12 = .ok (.sipush 200, 3) := by decide +kernel
theorem d11_disturb_15 : decode prog_13_method_34_code 15 = .ok (.invokestatic 39, 3) := by decide +kernel
theorem d11_disturb_18 : decode prog_13_method_34_code 18 = .ok (.ifCond .ne 6, 3) := by decide +kernel
theorem d11_disturb_21 : decode prog_13_method_34_code 21 = .ok (.bipush (-2), 2) := by decide +kernel
theorem d11_disturb_23 : decode prog_13_method_34_code 23 = .ok (.ireturn, 1) := by decide +kernel
theorem d11_disturb_24 : decode prog_13_method_34_code 24 = .ok (.aload_n 0, 1) := by decide +kernel
theorem d11_disturb_25 : decode prog_13_method_34_code 25 = .ok (.getfield 7, 3) := by decide +kernel
theorem d11_disturb_28 : decode prog_13_method_34_code 28 = .ok (.sipush 1028, 3) := by decide +kernel
theorem d11_disturb_31 : decode prog_13_method_34_code 31 = .ok (.iaload, 1) := by decide +kernel
theorem d11_disturb_32 : decode prog_13_method_34_code 32 = .ok (.bipush 8, 2) := by decide +kernel
theorem d11_disturb_34 : decode prog_13_method_34_code 34 = .ok (.if_icmp .ne 6, 3) := by decide +kernel
theorem d11_disturb_37 : decode prog_13_method_34_code 37 = .ok (.bipush (-3), 2) := by decide +kernel
theorem d11_disturb_39 : decode prog_13_method_34_code 39 = .ok (.ireturn, 1) := by decide +kernel
theorem d11_disturb_40 : decode prog_13_method_34_code 40 = .ok (.aload_n 0, 1) := by decide +kernel
theorem d11_disturb_41 : decode prog_13_method_34_code 41 = .ok (.getfield 7, 3) := by decide +kernel
theorem d11_disturb_44 : decode prog_13_method_34_code 44 = .ok (.sipush 1029, 3) := by decide +kernel
theorem d11_disturb_47 : decode prog_13_method_34_code 47 = .ok (.iconst 2, 1) := by decide +kernel
theorem d11_disturb_48 : decode prog_13_method_34_code 48 = .ok (.aload_n 0, 1) := by decide +kernel
theorem d11_disturb_49 : decode prog_13_method_34_code 49 = .ok (.getfield 7, 3) := by decide +kernel
theorem d11_disturb_52 : decode prog_13_method_34_code 52 = .ok (.sipush 1028, 3) := by decide +kernel
theorem d11_disturb_55 : decode prog_13_method_34_code 55 = .ok (.iaload, 1) := by decide +kernel
theorem d11_disturb_56 : decode prog_13_method_34_code 56 = .ok (.imul, 1) := by decide +kernel
theorem d11_disturb_57 : decode prog_13_method_34_code 57 = .ok (.iadd, 1) := by decide +kernel
theorem d11_disturb_58 : decode prog_13_method_34_code 58 = .ok (.aload_n 0, 1) := by decide +kernel
theorem d11_disturb_59 : decode prog_13_method_34_code 59 = .ok (.getfield 7, 3) := by decide +kernel
theorem d11_disturb_62 : decode prog_13_method_34_code 62 = .ok (.sipush 1024, 3) := by decide +kernel
theorem d11_disturb_65 : decode prog_13_method_34_code 65 = .ok (.iaload, 1) := by decide +kernel
theorem d11_disturb_66 : decode prog_13_method_34_code 66 = .ok (.iload_n 2, 1) := by decide +kernel
theorem d11_disturb_67 : decode prog_13_method_34_code 67 = .ok (.iadd, 1) := by decide +kernel
theorem d11_disturb_68 : decode prog_13_method_34_code 68 = .ok (.iastore, 1) := by decide +kernel
theorem d11_disturb_69 : decode prog_13_method_34_code 69 = .ok (.aload_n 0, 1) := by decide +kernel
theorem d11_disturb_70 : decode prog_13_method_34_code 70 = .ok (.getfield 7, 3) := by decide +kernel
theorem d11_disturb_73 : decode prog_13_method_34_code 73 = .ok (.sipush 1029, 3) := by decide +kernel
theorem d11_disturb_76 : decode prog_13_method_34_code 76 = .ok (.iconst 2, 1) := by decide +kernel
theorem d11_disturb_77 : decode prog_13_method_34_code 77 = .ok (.aload_n 0, 1) := by decide +kernel
theorem d11_disturb_78 : decode prog_13_method_34_code 78 = .ok (.getfield 7, 3) := by decide +kernel
theorem d11_disturb_81 : decode prog_13_method_34_code 81 = .ok (.sipush 1028, 3) := by decide +kernel
theorem d11_disturb_84 : decode prog_13_method_34_code 84 = .ok (.iaload, 1) := by decide +kernel
theorem d11_disturb_85 : decode prog_13_method_34_code 85 = .ok (.imul, 1) := by decide +kernel
theorem d11_disturb_86 : decode prog_13_method_34_code 86 = .ok (.iadd, 1) := by decide +kernel
theorem d11_disturb_87 : decode prog_13_method_34_code 87 = .ok (.iconst 1, 1) := by decide +kernel
theorem d11_disturb_88 : decode prog_13_method_34_code 88 = .ok (.iadd, 1) := by decide +kernel
theorem d11_disturb_89 : decode prog_13_method_34_code 89 = .ok (.iload_n 1, 1) := by decide +kernel
theorem d11_disturb_90 : decode prog_13_method_34_code 90 = .ok (.iastore, 1) := by decide +kernel
theorem d11_disturb_91 : decode prog_13_method_34_code 91 = .ok (.aload_n 0, 1) := by decide +kernel
theorem d11_disturb_92 : decode prog_13_method_34_code 92 = .ok (.getfield 7, 3) := by decide +kernel
theorem d11_disturb_95 : decode prog_13_method_34_code 95 = .ok (.sipush 1028, 3) := by decide +kernel
theorem d11_disturb_98 : decode prog_13_method_34_code 98 = .ok (.dup2, 1) := by decide +kernel
theorem d11_disturb_99 : decode prog_13_method_34_code 99 = .ok (.iaload, 1) := by decide +kernel
theorem d11_disturb_100 : decode prog_13_method_34_code 100 = .ok (.iconst 1, 1) := by decide +kernel
theorem d11_disturb_101 : decode prog_13_method_34_code 101 = .ok (.iadd, 1) := by decide +kernel
theorem d11_disturb_102 : decode prog_13_method_34_code 102 = .ok (.iastore, 1) := by decide +kernel
theorem d11_disturb_103 : decode prog_13_method_34_code 103 = .ok (.aload_n 0, 1) := by decide +kernel
theorem d11_disturb_104 : decode prog_13_method_34_code 104 = .ok (.getfield 7, 3) := by decide +kernel
theorem d11_disturb_107 : decode prog_13_method_34_code 107 = .ok (.sipush 1028, 3) := by decide +kernel
theorem d11_disturb_110 : decode prog_13_method_34_code 110 = .ok (.iaload, 1) := by decide +kernel
theorem d11_disturb_111 : decode prog_13_method_34_code 111 = .ok (.ireturn, 1) := by decide +kernel
theorem d11_inverted_0 : decode prog_13_method_35_code 0 = .ok (.iconst 0, 1) := by decide +kernel
theorem d11_inverted_1 : decode prog_13_method_35_code 1 = .ok (.istore_n 1, 1) := by decide +kernel
theorem d11_inverted_2 : decode prog_13_method_35_code 2 = .ok (.iconst 0, 1) := by decide +kernel
theorem d11_inverted_3 : decode prog_13_method_35_code 3 = .ok (.istore_n 2, 1) := by decide +kernel
theorem d11_inverted_4 : decode prog_13_method_35_code 4 = .ok (.iload_n 2, 1) := by decide +kernel
theorem d11_inverted_5 : decode prog_13_method_35_code 5 = .ok (.aload_n 0, 1) := by decide +kernel
theorem d11_inverted_6 : decode prog_13_method_35_code 6 = .ok (.getfield 7, 3) := by decide +kernel
theorem d11_inverted_9 : decode prog_13_method_35_code 9 = .ok (.sipush 1028, 3) := by decide +kernel
theorem d11_inverted_12 : decode prog_13_method_35_code 12 = .ok (.iaload, 1) := by decide +kernel
theorem d11_inverted_13 : decode prog_13_method_35_code 13 = .ok (.if_icmp .ge 53, 3) := by decide +kernel
theorem d11_inverted_16 : decode prog_13_method_35_code 16 = .ok (.iload_n 1, 1) := by decide +kernel
theorem d11_inverted_17 : decode prog_13_method_35_code 17 = .ok (.aload_n 0, 1) := by decide +kernel
theorem d11_inverted_18 : decode prog_13_method_35_code 18 = .ok (.getfield 7, 3) := by decide +kernel
theorem d11_inverted_21 : decode prog_13_method_35_code 21 = .ok (.sipush 1029, 3) := by decide +kernel
theorem d11_inverted_24 : decode prog_13_method_35_code 24 = .ok (.iconst 2, 1) := by decide +kernel
theorem d11_inverted_25 : decode prog_13_method_35_code 25 = .ok (.iload_n 2, 1) := by decide +kernel
theorem d11_inverted_26 : decode prog_13_method_35_code 26 = .ok (.imul, 1) := by decide +kernel
theorem d11_inverted_27 : decode prog_13_method_35_code 27 = .ok (.iadd, 1) := by decide +kernel
theorem d11_inverted_28 : decode prog_13_method_35_code 28 = .ok (.iaload, 1) := by decide +kernel
theorem d11_inverted_29 : decode prog_13_method_35_code 29 = .ok (.aload_n 0, 1) := by decide +kernel
theorem d11_inverted_30 : decode prog_13_method_35_code 30 = .ok (.getfield 7, 3) := by decide +kernel
theorem d11_inverted_33 : decode prog_13_method_35_code 33 = .ok (.sipush 1024, 3) := by decide +kernel
theorem d11_inverted_36 : decode prog_13_method_35_code 36 = .ok (.iaload, 1) := by decide +kernel
theorem d11_inverted_37 : decode prog_13_method_35_code 37 = .ok (.if_icmp .ne 20, 3) := by decide +kernel
theorem d11_inverted_40 : decode prog_13_method_35_code 40 = .ok (.aload_n 0, 1) := by decide +kernel
theorem d11_inverted_41 : decode prog_13_method_35_code 41 = .ok (.getfield 7, 3) := by decide +kernel
theorem d11_inverted_44 : decode prog_13_method_35_code 44 = .ok (.sipush 1029, 3) := by decide +kernel
theorem d11_inverted_47 : decode prog_13_method_35_code 47 = .ok (.iconst 2, 1) := by decide +kernel
theorem d11_inverted_48 : decode prog_13_method_35_code 48 = .ok (.iload_n 2, 1) := by decide +kernel
theorem d11_inverted_49 : decode prog_13_method_35_code 49 = .ok (.imul, 1) := by decide +kernel
theorem d11_inverted_50 : decode prog_13_method_35_code 50 = .ok (.iadd, 1) := by decide +kernel
theorem d11_inverted_51 : decode prog_13_method_35_code 51 = .ok (.iconst 1, 1) := by decide +kernel
theorem d11_inverted_52 : decode prog_13_method_35_code 52 = .ok (.iadd, 1) := by decide +kernel
theorem d11_inverted_53 : decode prog_13_method_35_code 53 = .ok (.iaload, 1) := by decide +kernel
theorem d11_inverted_54 : decode prog_13_method_35_code 54 = .ok (.goto 4, 3) := by decide +kernel
theorem d11_inverted_57 : decode prog_13_method_35_code 57 = .ok (.iconst 0, 1) := by decide +kernel
theorem d11_inverted_58 : decode prog_13_method_35_code 58 = .ok (.ior, 1) := by decide +kernel
theorem d11_inverted_59 : decode prog_13_method_35_code 59 = .ok (.istore_n 1, 1) := by decide +kernel
theorem d11_inverted_60 : decode prog_13_method_35_code 60 = .ok (.iinc 2 1, 3) := by decide +kernel
theorem d11_inverted_63 : decode prog_13_method_35_code 63 = .ok (.goto (-59), 3) := by decide +kernel
theorem d11_inverted_66 : decode prog_13_method_35_code 66 = .ok (.iload_n 1, 1) := by decide +kernel
theorem d11_inverted_67 : decode prog_13_method_35_code 67 = .ok (.ireturn, 1) := by decide +kernel
theorem d11_total_0 : decode prog_13_method_36_code 0 = .ok (.aload_n 0, 1) := by decide +kernel
theorem d11_total_1 : decode prog_13_method_36_code 1 = .ok (.getfield 7, 3) := by decide +kernel
theorem d11_total_4 : decode prog_13_method_36_code 4 = .ok (.iload_n 1, 1) := by decide +kernel
theorem d11_total_5 : decode prog_13_method_36_code 5 = .ok (.bipush 19, 2) := by decide +kernel
theorem d11_total_7 : decode prog_13_method_36_code 7 = .ok (.invokestatic 35, 3) := by decide +kernel
theorem d11_total_10 : decode prog_13_method_36_code 10 = .ok (.iaload, 1) := by decide +kernel
theorem d11_total_11 : decode prog_13_method_36_code 11 = .ok (.bipush 19, 2) := by decide +kernel
theorem d11_total_13 : decode prog_13_method_36_code 13 = .ok (.if_icmp .ge 7, 3) := by decide +kernel
theorem d11_total_16 : decode prog_13_method_36_code 16 = .ok (.sipush 1000, 3) := by decide +kernel
theorem d11_total_19 : decode prog_13_method_36_code 19 = .ok (.ireturn, 1) := by decide +kernel
theorem d11_total_20 : decode prog_13_method_36_code 20 = .ok (.bipush 34, 2) := by decide +kernel
theorem d11_total_22 : decode prog_13_method_36_code 22 = .ok (.aload_n 0, 1) := by decide +kernel
theorem d11_total_23 : decode prog_13_method_36_code 23 = .ok (.getfield 7, 3) := by decide +kernel
theorem d11_total_26 : decode prog_13_method_36_code 26 = .ok (.iload_n 1, 1) := by decide +kernel
theorem d11_total_27 : decode prog_13_method_36_code 27 = .ok (.bipush 102, 2) := by decide +kernel
theorem d11_total_29 : decode prog_13_method_36_code 29 = .ok (.invokestatic 35, 3) := by decide +kernel
theorem d11_total_32 : decode prog_13_method_36_code 32 = .ok (.iaload, 1) := by decide +kernel
theorem d11_total_33 : decode prog_13_method_36_code 33 = .ok (.iconst 1, 1) := by decide +kernel
theorem d11_total_34 : decode prog_13_method_36_code 34 = .ok (.if_icmp .ne 7, 3) := by decide +kernel
theorem d11_total_37 : decode prog_13_method_36_code 37 = .ok (.iconst 0, 1) := by decide +kernel
theorem d11_total_38 : decode prog_13_method_36_code 38 = .ok (.goto 11, 3) := by decide +kernel
theorem d11_total_41 : decode prog_13_method_36_code 41 = .ok (.bipush 8, 2) := by decide +kernel
theorem d11_total_43 : decode prog_13_method_36_code 43 = .ok (.aload_n 0, 1) := by decide +kernel
theorem d11_total_44 : decode prog_13_method_36_code 44 = .ok (.iload_n 1, 1) := by decide +kernel
theorem d11_total_45 : decode prog_13_method_36_code 45 = .ok (.invokevirtual 98, 3) := by decide +kernel
theorem d11_total_48 : decode prog_13_method_36_code 48 = .ok (.imul, 1) := by decide +kernel
theorem d11_total_49 : decode prog_13_method_36_code 49 = .ok (.iadd, 1) := by decide +kernel
theorem d11_total_50 : decode prog_13_method_36_code 50 = .ok (.ireturn, 1) := by decide +kernel
theorem d11_sampled_0 : decode prog_13_method_37_code 0 = .ok (.iconst 0, 1) := by decide +kernel
theorem d11_sampled_1 : decode prog_13_method_37_code 1 = .ok (.istore 4, 2) := by decide +kernel
theorem d11_sampled_3 : decode prog_13_method_37_code 3 = .ok (.iload_n 2, 1) := by decide +kernel
theorem d11_sampled_4 : decode prog_13_method_37_code 4 = .ok (.istore 5, 2) := by decide +kernel
theorem d11_sampled_6 : decode prog_13_method_37_code 6 = .ok (.iload 5, 2) := by decide +kernel
theorem d11_sampled_8 : decode prog_13_method_37_code 8 = .ok (.iload_n 2, 1) := by decide +kernel
theorem d11_sampled_9 : decode prog_13_method_37_code 9 = .ok (.iload_n 3, 1) := by decide +kernel
theorem d11_sampled_10 : decode prog_13_method_37_code 10 = .ok (.iadd, 1) := by decide +kernel
theorem d11_sampled_11 : decode prog_13_method_37_code 11 = .ok (.if_icmp .ge 30, 3) := by decide +kernel
theorem d11_sampled_14 : decode prog_13_method_37_code 14 = .ok (.iload 4, 2) := by decide +kernel
theorem d11_sampled_16 : decode prog_13_method_37_code 16 = .ok (.iconst 1, 1) := by decide +kernel
theorem d11_sampled_17 : decode prog_13_method_37_code 17 = .ok (.ishl, 1) := by decide +kernel
theorem d11_sampled_18 : decode prog_13_method_37_code 18 = .ok (.aload_n 0, 1) := by decide +kernel
theorem d11_sampled_19 : decode prog_13_method_37_code 19 = .ok (.getfield 7, 3) := by decide +kernel
theorem d11_sampled_22 : decode prog_13_method_37_code 22 = .ok (.iload_n 1, 1) := by decide +kernel
theorem d11_sampled_23 : decode prog_13_method_37_code 23 = .ok (.bipush 90, 2) := by decide +kernel
theorem d11_sampled_25 : decode prog_13_method_37_code 25 = .ok (.iload 5, 2) := by decide +kernel
theorem d11_sampled_27 : decode prog_13_method_37_code 27 = .ok (.iadd, 1) := by decide +kernel
theorem d11_sampled_28 : decode prog_13_method_37_code 28 = .ok (.invokestatic 35, 3) := by decide +kernel
theorem d11_sampled_31 : decode prog_13_method_37_code 31 = .ok (.iaload, 1) := by decide +kernel
theorem d11_sampled_32 : decode prog_13_method_37_code 32 = .ok (.ior, 1) := by decide +kernel
theorem d11_sampled_33 : decode prog_13_method_37_code 33 = .ok (.istore 4, 2) := by decide +kernel
theorem d11_sampled_35 : decode prog_13_method_37_code 35 = .ok (.iinc 5 1, 3) := by decide +kernel
theorem d11_sampled_38 : decode prog_13_method_37_code 38 = .ok (.goto (-32), 3) := by decide +kernel
theorem d11_sampled_41 : decode prog_13_method_37_code 41 = .ok (.iload 4, 2) := by decide +kernel
theorem d11_sampled_43 : decode prog_13_method_37_code 43 = .ok (.ireturn, 1) := by decide +kernel
theorem d11_sampledLength_0 : decode prog_13_method_38_code 0 = .ok (.aload_n 0, 1) := by decide +kernel
theorem d11_sampledLength_1 : decode prog_13_method_38_code 1 = .ok (.iload_n 1, 1) := by decide +kernel
theorem d11_sampledLength_2 : decode prog_13_method_38_code 2 = .ok (.bipush 15, 2) := by decide +kernel
theorem d11_sampledLength_4 : decode prog_13_method_38_code 4 = .ok (.iconst 4, 1) := by decide +kernel
theorem d11_sampledLength_5 : decode prog_13_method_38_code 5 = .ok (.invokevirtual 101, 3) := by decide +kernel
theorem d11_sampledLength_8 : decode prog_13_method_38_code 8 = .ok (.ireturn, 1) := by decide +kernel
theorem d11_isChecked_0 : decode prog_13_method_39_code 0 = .ok (.aload_n 0, 1) := by decide +kernel
theorem d11_isChecked_1 : decode prog_13_method_39_code 1 = .ok (.iload_n 1, 1) := by decide +kernel
theorem d11_isChecked_2 : decode prog_13_method_39_code 2 = .ok (.invokevirtual 104, 3) := by decide +kernel
theorem d11_isChecked_5 : decode prog_13_method_39_code 5 = .ok (.istore_n 2, 1) := by decide +kernel
theorem d11_isChecked_6 : decode prog_13_method_39_code 6 = .ok (.aload_n 0, 1) := by decide +kernel
theorem d11_isChecked_7 : decode prog_13_method_39_code 7 = .ok (.getfield 7, 3) := by decide +kernel
theorem d11_isChecked_10 : decode prog_13_method_39_code 10 = .ok (.iload_n 1, 1) := by decide +kernel
theorem d11_isChecked_11 : decode prog_13_method_39_code 11 = .ok (.bipush 90, 2) := by decide +kernel
theorem d11_isChecked_13 : decode prog_13_method_39_code 13 = .ok (.invokestatic 35, 3) := by decide +kernel
theorem d11_isChecked_16 : decode prog_13_method_39_code 16 = .ok (.iload_n 2, 1) := by decide +kernel
theorem d11_isChecked_17 : decode prog_13_method_39_code 17 = .ok (.bipush 15, 2) := by decide +kernel
theorem d11_isChecked_19 : decode prog_13_method_39_code 19 = .ok (.isub, 1) := by decide +kernel
theorem d11_isChecked_20 : decode prog_13_method_39_code 20 = .ok (.invokestatic 47, 3) := by decide +kernel
theorem d11_isChecked_23 : decode prog_13_method_39_code 23 = .ok (.aload_n 0, 1) := by decide +kernel
theorem d11_isChecked_24 : decode prog_13_method_39_code 24 = .ok (.iload_n 1, 1) := by decide +kernel
theorem d11_isChecked_25 : decode prog_13_method_39_code 25 = .ok (.iload_n 2, 1) := by decide +kernel
theorem d11_isChecked_26 : decode prog_13_method_39_code 26 = .ok (.bipush 15, 2) := by decide +kernel
theorem d11_isChecked_28 : decode prog_13_method_39_code 28 = .ok (.isub, 1) := by decide +kernel
theorem d11_isChecked_29 : decode prog_13_method_39_code 29 = .ok (.bipush 15, 2) := by decide +kernel
theorem d11_isChecked_31 : decode prog_13_method_39_code 31 = .ok (.invokevirtual 101, 3) := by decide +kernel
theorem d11_isChecked_34 : decode prog_13_method_39_code 34 = .ok (.if_icmp .ne 7, 3) := by decide +kernel
theorem d11_isChecked_37 : decode prog_13_method_39_code 37 = .ok (.iconst 1, 1) := by decide +kernel
theorem d11_isChecked_38 : decode prog_13_method_39_code 38 = .ok (.goto 4, 3) := by decide +kernel
theorem d11_isChecked_41 : decode prog_13_method_39_code 41 = .ok (.iconst 0, 1) := by decide +kernel
theorem d11_isChecked_42 : decode prog_13_method_39_code 42 = .ok (.ireturn, 1) := by decide +kernel
theorem d11_isTransmitting_0 : decode prog_13_method_40_code 0 = .ok (.aload_n 0, 1) := by decide +kernel
theorem d11_isTransmitting_1 : decode prog_13_method_40_code 1 = .ok (.getfield 7, 3) := by decide +kernel
theorem d11_isTransmitting_4 : decode prog_13_method_40_code 4 = .ok (.iload_n 1, 1) := by decide +kernel
theorem d11_isTransmitting_5 : decode prog_13_method_40_code 5 = .ok (.iconst 1, 1) := by decide +kernel
theorem d11_isTransmitting_6 : decode prog_13_method_40_code 6 = .ok (.invokestatic 35, 3) := by decide +kernel
theorem d11_isTransmitting_9 : decode prog_13_method_40_code 9 = .ok (.iaload, 1) := by decide +kernel
theorem d11_isTransmitting_10 : decode prog_13_method_40_code 10 = .ok (.iconst 1, 1) := by decide +kernel
theorem d11_isTransmitting_11 : decode prog_13_method_40_code 11 = .ok (.if_icmp .ne 7, 3) := by decide +kernel
theorem d11_isTransmitting_14 : decode prog_13_method_40_code 14 = .ok (.iconst 1, 1) := by decide +kernel
theorem d11_isTransmitting_15 : decode prog_13_method_40_code 15 = .ok (.goto 4, 3) := by decide +kernel
theorem d11_isTransmitting_18 : decode prog_13_method_40_code 18 = .ok (.iconst 0, 1) := by decide +kernel
theorem d11_isTransmitting_19 : decode prog_13_method_40_code 19 = .ok (.ireturn, 1) := by decide +kernel
theorem d11_drives_0 : decode prog_13_method_41_code 0 = .ok (.aload_n 0, 1) := by decide +kernel
theorem d11_drives_1 : decode prog_13_method_41_code 1 = .ok (.getfield 7, 3) := by decide +kernel
theorem d11_drives_4 : decode prog_13_method_41_code 4 = .ok (.iload_n 1, 1) := by decide +kernel
theorem d11_drives_5 : decode prog_13_method_41_code 5 = .ok (.iconst 0, 1) := by decide +kernel
theorem d11_drives_6 : decode prog_13_method_41_code 6 = .ok (.invokestatic 35, 3) := by decide +kernel
theorem d11_drives_9 : decode prog_13_method_41_code 9 = .ok (.iaload, 1) := by decide +kernel
theorem d11_drives_10 : decode prog_13_method_41_code 10 = .ok (.tableswitch 72 3 6 #[30, 50, 56, 70], 30) := by decide +kernel
theorem d11_drives_40 : decode prog_13_method_41_code 40 = .ok (.aload_n 0, 1) := by decide +kernel
theorem d11_drives_41 : decode prog_13_method_41_code 41 = .ok (.getfield 7, 3) := by decide +kernel
theorem d11_drives_44 : decode prog_13_method_41_code 44 = .ok (.iload_n 1, 1) := by decide +kernel
theorem d11_drives_45 : decode prog_13_method_41_code 45 = .ok (.bipush 23, 2) := by decide +kernel
theorem d11_drives_47 : decode prog_13_method_41_code 47 = .ok (.invokestatic 35, 3) := by decide +kernel
theorem d11_drives_50 : decode prog_13_method_41_code 50 = .ok (.iaload, 1) := by decide +kernel
theorem d11_drives_51 : decode prog_13_method_41_code 51 = .ok (.ifCond .le 7, 3) := by decide +kernel
theorem d11_drives_54 : decode prog_13_method_41_code 54 = .ok (.iconst 0, 1) := by decide +kernel
theorem d11_drives_55 : decode prog_13_method_41_code 55 = .ok (.goto 4, 3) := by decide +kernel
theorem d11_drives_58 : decode prog_13_method_41_code 58 = .ok (.iconst 1, 1) := by decide +kernel
theorem d11_drives_59 : decode prog_13_method_41_code 59 = .ok (.ireturn, 1) := by decide +kernel
theorem d11_drives_60 : decode prog_13_method_41_code 60 = .ok (.aload_n 0, 1) := by decide +kernel
theorem d11_drives_61 : decode prog_13_method_41_code 61 = .ok (.iload_n 1, 1) := by decide +kernel
theorem d11_drives_62 : decode prog_13_method_41_code 62 = .ok (.invokevirtual 107, 3) := by decide +kernel
theorem d11_drives_65 : decode prog_13_method_41_code 65 = .ok (.ireturn, 1) := by decide +kernel
theorem d11_drives_66 : decode prog_13_method_41_code 66 = .ok (.iconst 1, 1) := by decide +kernel
theorem d11_drives_67 : decode prog_13_method_41_code 67 = .ok (.aload_n 0, 1) := by decide +kernel
theorem d11_drives_68 : decode prog_13_method_41_code 68 = .ok (.getfield 7, 3) := by decide +kernel
theorem d11_drives_71 : decode prog_13_method_41_code 71 = .ok (.iload_n 1, 1) := by decide +kernel
theorem d11_drives_72 : decode prog_13_method_41_code 72 = .ok (.bipush 18, 2) := by decide +kernel
theorem d11_drives_74 : decode prog_13_method_41_code 74 = .ok (.invokestatic 35, 3) := by decide +kernel
theorem d11_drives_77 : decode prog_13_method_41_code 77 = .ok (.iaload, 1) := by decide +kernel
theorem d11_drives_78 : decode prog_13_method_41_code 78 = .ok (.isub, 1) := by decide +kernel
theorem d11_drives_79 : decode prog_13_method_41_code 79 = .ok (.ireturn, 1) := by decide +kernel
theorem d11_drives_80 : decode prog_13_method_41_code 80 = .ok (.iconst 0, 1) := by decide +kernel
theorem d11_drives_81 : decode prog_13_method_41_code 81 = .ok (.ireturn, 1) := by decide +kernel
theorem d11_drives_82 : decode prog_13_method_41_code 82 = .ok (.iconst 1, 1) := by decide +kernel
theorem d11_drives_83 : decode prog_13_method_41_code 83 = .ok (.ireturn, 1) := by decide +kernel
theorem d11_drivesFrame_0 : decode prog_13_method_42_code 0 = .ok (.aload_n 0, 1) := by decide +kernel
theorem d11_drivesFrame_1 : decode prog_13_method_42_code 1 = .ok (.getfield 7, 3) := by decide +kernel
theorem d11_drivesFrame_4 : decode prog_13_method_42_code 4 = .ok (.iload_n 1, 1) := by decide +kernel
theorem d11_drivesFrame_5 : decode prog_13_method_42_code 5 = .ok (.bipush 22, 2) := by decide +kernel
theorem d11_drivesFrame_7 : decode prog_13_method_42_code 7 = .ok (.invokestatic 35, 3) := by decide +kernel
theorem d11_drivesFrame_10 : decode prog_13_method_42_code 10 = .ok (.iaload, 1) := by decide +kernel
theorem d11_drivesFrame_11 : decode prog_13_method_42_code 11 = .ok (.istore_n 2, 1) := by decide +kernel
theorem d11_drivesFrame_12 : decode prog_13_method_42_code 12 = .ok (.aload_n 0, 1) := by decide +kernel
theorem d11_drivesFrame_13 : decode prog_13_method_42_code 13 = .ok (.iload_n 1, 1) := by decide +kernel
theorem d11_drivesFrame_14 : decode prog_13_method_42_code 14 = .ok (.invokevirtual 110, 3) := by decide +kernel
theorem d11_drivesFrame_17 : decode prog_13_method_42_code 17 = .ok (.ifCond .ne 22, 3) := by decide +kernel
theorem d11_drivesFrame_20 : decode prog_13_method_42_code 20 = .ok (.iload_n 2, 1) := by decide +kernel
theorem d11_drivesFrame_21 : decode prog_13_method_42_code 21 = .ok (.iconst 1, 1) := by decide +kernel
theorem d11_drivesFrame_22 : decode prog_13_method_42_code 22 = .ok (.if_icmp .ne 15, 3) := by decide +kernel
theorem d11_drivesFrame_25 : decode prog_13_method_42_code 25 = .ok (.aload_n 0, 1) := by decide +kernel
theorem d11_drivesFrame_26 : decode prog_13_method_42_code 26 = .ok (.iload_n 1, 1) := by decide +kernel
theorem d11_drivesFrame_27 : decode prog_13_method_42_code 27 = .ok (.invokevirtual 113, 3) := by decide +kernel
theorem d11_drivesFrame_30 : decode prog_13_method_42_code 30 = .ok (.ifCond .eq 7, 3) := by decide +kernel
theorem d11_drivesFrame_33 : decode prog_13_method_42_code 33 = .ok (.iconst 0, 1) := by decide +kernel
theorem d11_drivesFrame_34 : decode prog_13_method_42_code 34 = .ok (.goto 4, 3) := by decide +kernel
theorem d11_drivesFrame_37 : decode prog_13_method_42_code 37 = .ok (.iconst 1, 1) := by decide +kernel
theorem d11_drivesFrame_38 : decode prog_13_method_42_code 38 = .ok (.ireturn, 1) := by decide +kernel
theorem d11_drivesFrame_39 : decode prog_13_method_42_code 39 = .ok (.iload_n 2, 1) := by decide +kernel
theorem d11_drivesFrame_40 : decode prog_13_method_42_code 40 = .ok (.ifCond .lt 5, 3) := by decide +kernel
theorem d11_drivesFrame_43 : decode prog_13_method_42_code 43 = .ok (.iconst 1, 1) := by decide +kernel
theorem d11_drivesFrame_44 : decode prog_13_method_42_code 44 = .ok (.ireturn, 1) := by decide +kernel
theorem d11_drivesFrame_45 : decode prog_13_method_42_code 45 = .ok (.aload_n 0, 1) := by decide +kernel
theorem d11_drivesFrame_46 : decode prog_13_method_42_code 46 = .ok (.getfield 7, 3) := by decide +kernel
theorem d11_drivesFrame_49 : decode prog_13_method_42_code 49 = .ok (.iload_n 1, 1) := by decide +kernel
theorem d11_drivesFrame_50 : decode prog_13_method_42_code 50 = .ok (.bipush 20, 2) := by decide +kernel
theorem d11_drivesFrame_52 : decode prog_13_method_42_code 52 = .ok (.invokestatic 35, 3) := by decide +kernel
theorem d11_drivesFrame_55 : decode prog_13_method_42_code 55 = .ok (.iaload, 1) := by decide +kernel
theorem d11_drivesFrame_56 : decode prog_13_method_42_code 56 = .ok (.iconst 5, 1) := by decide +kernel
theorem d11_drivesFrame_57 : decode prog_13_method_42_code 57 = .ok (.if_icmp .ne 19, 3) := by decide +kernel
theorem d11_drivesFrame_60 : decode prog_13_method_42_code 60 = .ok (.iconst 1, 1) := by decide +kernel
theorem d11_drivesFrame_61 : decode prog_13_method_42_code 61 = .ok (.aload_n 0, 1) := by decide +kernel
theorem d11_drivesFrame_62 : decode prog_13_method_42_code 62 = .ok (.getfield 7, 3) := by decide +kernel
theorem d11_drivesFrame_65 : decode prog_13_method_42_code 65 = .ok (.iload_n 1, 1) := by decide +kernel
theorem d11_drivesFrame_66 : decode prog_13_method_42_code 66 = .ok (.bipush 21, 2) := by decide +kernel
theorem d11_drivesFrame_68 : decode prog_13_method_42_code 68 = .ok (.invokestatic 35, 3) := by decide +kernel
theorem d11_drivesFrame_71 : decode prog_13_method_42_code 71 = .ok (.iaload, 1) := by decide +kernel
theorem d11_drivesFrame_72 : decode prog_13_method_42_code 72 = .ok (.isub, 1) := by decide +kernel
theorem d11_drivesFrame_73 : decode prog_13_method_42_code 73 = .ok (.goto 27, 3) := by decide +kernel
theorem d11_drivesFrame_76 : decode prog_13_method_42_code 76 = .ok (.aload_n 0, 1) := by decide +kernel
theorem d11_drivesFrame_77 : decode prog_13_method_42_code 77 = .ok (.getfield 7, 3) := by decide +kernel
theorem d11_drivesFrame_80 : decode prog_13_method_42_code 80 = .ok (.iload_n 1, 1) := by decide +kernel
theorem d11_drivesFrame_81 : decode prog_13_method_42_code 81 = .ok (.sipush 160, 3) := by decide +kernel
theorem d11_drivesFrame_84 : decode prog_13_method_42_code 84 = .ok (.aload_n 0, 1) := by decide +kernel
theorem d11_drivesFrame_85 : decode prog_13_method_42_code 85 = .ok (.getfield 7, 3) := by decide +kernel
theorem d11_drivesFrame_88 : decode prog_13_method_42_code 88 = .ok (.iload_n 1, 1) := by decide +kernel
theorem d11_drivesFrame_89 : decode prog_13_method_42_code 89 = .ok (.bipush 19, 2) := by decide +kernel
theorem d11_drivesFrame_91 : decode prog_13_method_42_code 91 = .ok (.invokestatic 35, 3) := by decide +kernel
theorem d11_drivesFrame_94 : decode prog_13_method_42_code 94 = .ok (.iaload, 1) := by decide +kernel
theorem d11_drivesFrame_95 : decode prog_13_method_42_code 95 = .ok (.iadd, 1) := by decide +kernel
theorem d11_drivesFrame_96 : decode prog_13_method_42_code 96 = .ok (.invokestatic 35, 3) := by decide +kernel
theorem d11_drivesFrame_99 : decode prog_13_method_42_code 99 = .ok (.iaload, 1) := by decide +kernel
theorem d11_drivesFrame_100 : decode prog_13_method_42_code 100 = .ok (.ireturn, 1) := by decide +kernel
theorem d11_begins_0 : decode prog_13_method_43_code 0 = .ok (.aload_n 0, 1) := by decide +kernel
theorem d11_begins_1 : decode prog_13_method_43_code 1 = .ok (.iload_n 1, 1) := by decide +kernel
theorem d11_begins_2 : decode prog_13_method_43_code 2 = .ok (.iconst 4, 1) := by decide +kernel
theorem d11_begins_3 : decode prog_13_method_43_code 3 = .ok (.invokevirtual 84, 3) := by decide +kernel
theorem d11_begins_6 : decode prog_13_method_43_code 6 = .ok (.aload_n 0, 1) := by decide +kernel
theorem d11_begins_7 : decode prog_13_method_43_code 7 = .ok (.getfield 7, 3) := by decide +kernel
theorem d11_begins_10 : decode prog_13_method_43_code 10 = .ok (.iload_n 1, 1) := by decide +kernel
theorem d11_begins_11 : decode prog_13_method_43_code 11 = .ok (.iconst 1, 1) := by decide +kernel
theorem d11_begins_12 : decode prog_13_method_43_code 12 = .ok (.invokestatic 35, 3) := by decide +kernel
theorem d11_begins_15 : decode prog_13_method_43_code 15 = .ok (.iload_n 2, 1) := by decide +kernel
theorem d11_begins_16 : decode prog_13_method_43_code 16 = .ok (.ifCond .eq 7, 3) := by decide +kernel
theorem d11_begins_19 : decode prog_13_method_43_code 19 = .ok (.iconst 1, 1) := by decide +kernel
theorem d11_begins_20 : decode prog_13_method_43_code 20 = .ok (.goto 4, 3) := by decide +kernel
theorem d11_begins_23 : decode prog_13_method_43_code 23 = .ok (.iconst 0, 1) := by decide +kernel
theorem d11_begins_24 : decode prog_13_method_43_code 24 = .ok (.iastore, 1) := by decide +kernel
theorem d11_begins_25 : decode prog_13_method_43_code 25 = .ok (.aload_n 0, 1) := by decide +kernel
theorem d11_begins_26 : decode prog_13_method_43_code 26 = .ok (.getfield 7, 3) := by decide +kernel
theorem d11_begins_29 : decode prog_13_method_43_code 29 = .ok (.iload_n 1, 1) := by decide +kernel
theorem d11_begins_30 : decode prog_13_method_43_code 30 = .ok (.bipush 19, 2) := by decide +kernel
theorem d11_begins_32 : decode prog_13_method_43_code 32 = .ok (.invokestatic 35, 3) := by decide +kernel
theorem d11_begins_35 : decode prog_13_method_43_code 35 = .ok (.iconst 1, 1) := by decide +kernel
theorem d11_begins_36 : decode prog_13_method_43_code 36 = .ok (.iastore, 1) := by decide +kernel
theorem d11_begins_37 : decode prog_13_method_43_code 37 = .ok (.aload_n 0, 1) := by decide +kernel
theorem d11_begins_38 : decode prog_13_method_43_code 38 = .ok (.getfield 7, 3) := by decide +kernel
theorem d11_begins_41 : decode prog_13_method_43_code 41 = .ok (.iload_n 1, 1) := by decide +kernel
theorem d11_begins_42 : decode prog_13_method_43_code 42 = .ok (.bipush 90, 2) := by decide +kernel
theorem d11_begins_44 : decode prog_13_method_43_code 44 = .ok (.invokestatic 35, 3) := by decide +kernel
theorem d11_begins_47 : decode prog_13_method_43_code 47 = .ok (.iconst 0, 1) := by decide +kernel
theorem d11_begins_48 : decode prog_13_method_43_code 48 = .ok (.iastore, 1) := by decide +kernel
theorem d11_begins_49 : decode prog_13_method_43_code 49 = .ok (.aload_n 0, 1) := by decide +kernel
theorem d11_begins_50 : decode prog_13_method_43_code 50 = .ok (.getfield 7, 3) := by decide +kernel
theorem d11_begins_53 : decode prog_13_method_43_code 53 = .ok (.iload_n 1, 1) := by decide +kernel
theorem d11_begins_54 : decode prog_13_method_43_code 54 = .ok (.bipush 20, 2) := by decide +kernel
theorem d11_begins_56 : decode prog_13_method_43_code 56 = .ok (.invokestatic 35, 3) := by decide +kernel
theorem d11_begins_59 : decode prog_13_method_43_code 59 = .ok (.iconst 1, 1) := by decide +kernel
theorem d11_begins_60 : decode prog_13_method_43_code 60 = .ok (.iastore, 1) := by decide +kernel
theorem d11_begins_61 : decode prog_13_method_43_code 61 = .ok (.aload_n 0, 1) := by decide +kernel
theorem d11_begins_62 : decode prog_13_method_43_code 62 = .ok (.getfield 7, 3) := by decide +kernel
theorem d11_begins_65 : decode prog_13_method_43_code 65 = .ok (.iload_n 1, 1) := by decide +kernel
theorem d11_begins_66 : decode prog_13_method_43_code 66 = .ok (.bipush 21, 2) := by decide +kernel
theorem d11_begins_68 : decode prog_13_method_43_code 68 = .ok (.invokestatic 35, 3) := by decide +kernel
theorem d11_begins_71 : decode prog_13_method_43_code 71 = .ok (.iconst 0, 1) := by decide +kernel
theorem d11_begins_72 : decode prog_13_method_43_code 72 = .ok (.iastore, 1) := by decide +kernel
theorem d11_begins_73 : decode prog_13_method_43_code 73 = .ok (.aload_n 0, 1) := by decide +kernel
theorem d11_begins_74 : decode prog_13_method_43_code 74 = .ok (.getfield 7, 3) := by decide +kernel
theorem d11_begins_77 : decode prog_13_method_43_code 77 = .ok (.iload_n 1, 1) := by decide +kernel
theorem d11_begins_78 : decode prog_13_method_43_code 78 = .ok (.bipush 22, 2) := by decide +kernel
theorem d11_begins_80 : decode prog_13_method_43_code 80 = .ok (.invokestatic 35, 3) := by decide +kernel
theorem d11_begins_83 : decode prog_13_method_43_code 83 = .ok (.iconst (-1), 1) := by decide +kernel
theorem d11_begins_84 : decode prog_13_method_43_code 84 = .ok (.iastore, 1) := by decide +kernel
theorem d11_begins_85 : decode prog_13_method_43_code 85 = .ok (.aload_n 0, 1) := by decide +kernel
theorem d11_begins_86 : decode prog_13_method_43_code 86 = .ok (.iload_n 1, 1) := by decide +kernel
theorem d11_begins_87 : decode prog_13_method_43_code 87 = .ok (.invokevirtual 77, 3) := by decide +kernel
theorem d11_begins_90 : decode prog_13_method_43_code 90 = .ok (.iload_n 2, 1) := by decide +kernel
theorem d11_begins_91 : decode prog_13_method_43_code 91 = .ok (.ifCond .eq 74, 3) := by decide +kernel
theorem d11_begins_94 : decode prog_13_method_43_code 94 = .ok (.aload_n 0, 1) := by decide +kernel
theorem d11_begins_95 : decode prog_13_method_43_code 95 = .ok (.getfield 7, 3) := by decide +kernel
theorem d11_begins_98 : decode prog_13_method_43_code 98 = .ok (.iload_n 1, 1) := by decide +kernel
theorem d11_begins_99 : decode prog_13_method_43_code 99 = .ok (.iconst 0, 1) := by decide +kernel
theorem d11_begins_100 : decode prog_13_method_43_code 100 = .ok (.iconst 4, 1) := by decide +kernel
theorem d11_begins_101 : decode prog_13_method_43_code 101 = .ok (.invokestatic 81, 3) := by decide +kernel
theorem d11_begins_104 : decode prog_13_method_43_code 104 = .ok (.iconst 1, 1) := by decide +kernel
theorem d11_begins_105 : decode prog_13_method_43_code 105 = .ok (.iastore, 1) := by decide +kernel
theorem d11_begins_106 : decode prog_13_method_43_code 106 = .ok (.aload_n 0, 1) := by decide +kernel
theorem d11_begins_107 : decode prog_13_method_43_code 107 = .ok (.getfield 7, 3) := by decide +kernel
theorem d11_begins_110 : decode prog_13_method_43_code 110 = .ok (.iload_n 1, 1) := by decide +kernel
theorem d11_begins_111 : decode prog_13_method_43_code 111 = .ok (.sipush 160, 3) := by decide +kernel
theorem d11_begins_114 : decode prog_13_method_43_code 114 = .ok (.invokestatic 35, 3) := by decide +kernel
theorem d11_begins_117 : decode prog_13_method_43_code 117 = .ok (.aload_n 0, 1) := by decide +kernel
theorem d11_begins_118 : decode prog_13_method_43_code 118 = .ok (.getfield 7, 3) := by decide +kernel
theorem d11_begins_121 : decode prog_13_method_43_code 121 = .ok (.iload_n 1, 1) := by decide +kernel
theorem d11_begins_122 : decode prog_13_method_43_code 122 = .ok (.iconst 0, 1) := by decide +kernel
theorem d11_begins_123 : decode prog_13_method_43_code 123 = .ok (.iconst 0, 1) := by decide +kernel
theorem d11_begins_124 : decode prog_13_method_43_code 124 = .ok (.invokestatic 81, 3) := by decide +kernel
theorem d11_begins_127 : decode prog_13_method_43_code 127 = .ok (.iaload, 1) := by decide +kernel
theorem d11_begins_128 : decode prog_13_method_43_code 128 = .ok (.aload_n 0, 1) := by decide +kernel
theorem d11_begins_129 : decode prog_13_method_43_code 129 = .ok (.getfield 7, 3) := by decide +kernel
theorem d11_begins_132 : decode prog_13_method_43_code 132 = .ok (.iload_n 1, 1) := by decide +kernel
theorem d11_begins_133 : decode prog_13_method_43_code 133 = .ok (.iconst 0, 1) := by decide +kernel
theorem d11_begins_134 : decode prog_13_method_43_code 134 = .ok (.iconst 1, 1) := by decide +kernel
theorem d11_begins_135 : decode prog_13_method_43_code 135 = .ok (.invokestatic 81, 3) := by decide +kernel
theorem d11_begins_138 : decode prog_13_method_43_code 138 = .ok (.iaload, 1) := by decide +kernel
theorem d11_begins_139 : decode prog_13_method_43_code 139 = .ok (.aload_n 0, 1) := by decide +kernel
theorem d11_begins_140 : decode prog_13_method_43_code 140 = .ok (.getfield 7, 3) := by decide +kernel
theorem d11_begins_143 : decode prog_13_method_43_code 143 = .ok (.iload_n 1, 1) := by decide +kernel
theorem d11_begins_144 : decode prog_13_method_43_code 144 = .ok (.iconst 0, 1) := by decide +kernel
theorem d11_begins_145 : decode prog_13_method_43_code 145 = .ok (.iconst 2, 1) := by decide +kernel
theorem d11_begins_146 : decode prog_13_method_43_code 146 = .ok (.invokestatic 81, 3) := by decide +kernel
theorem d11_begins_149 : decode prog_13_method_43_code 149 = .ok (.iaload, 1) := by decide +kernel
theorem d11_begins_150 : decode prog_13_method_43_code 150 = .ok (.aload_n 0, 1) := by decide +kernel
theorem d11_begins_151 : decode prog_13_method_43_code 151 = .ok (.getfield 7, 3) := by decide +kernel
theorem d11_begins_154 : decode prog_13_method_43_code 154 = .ok (.iload_n 1, 1) := by decide +kernel
theorem d11_begins_155 : decode prog_13_method_43_code 155 = .ok (.iconst 0, 1) := by decide +kernel
theorem d11_begins_156 : decode prog_13_method_43_code 156 = .ok (.iconst 3, 1) := by decide +kernel
theorem d11_begins_157 : decode prog_13_method_43_code 157 = .ok (.invokestatic 81, 3) := by decide +kernel
theorem d11_begins_160 : decode prog_13_method_43_code 160 = .ok (.iaload, 1) := by decide +kernel
theorem d11_begins_161 : decode prog_13_method_43_code 161 = .ok (.invokestatic 55, 3) := by decide +kernel
theorem d11_begins_164 : decode prog_13_method_43_code 164 = .ok (.istore_n 3, 1) := by decide +kernel
theorem d11_begins_165 : decode prog_13_method_43_code 165 = .ok (.return_, 1) := by decide +kernel
theorem d11_isPassiveNow_0 : decode prog_13_method_44_code 0 = .ok (.aload_n 0, 1) := by decide +kernel
theorem d11_isPassiveNow_1 : decode prog_13_method_44_code 1 = .ok (.getfield 7, 3) := by decide +kernel
theorem d11_isPassiveNow_4 : decode prog_13_method_44_code 4 = .ok (.iload_n 1, 1) := by decide +kernel
theorem d11_isPassiveNow_5 : decode prog_13_method_44_code 5 = .ok (.iconst 4, 1) := by decide +kernel
theorem d11_isPassiveNow_6 : decode prog_13_method_44_code 6 = .ok (.invokestatic 35, 3) := by decide +kernel
theorem d11_isPassiveNow_9 : decode prog_13_method_44_code 9 = .ok (.iaload, 1) := by decide +kernel
theorem d11_isPassiveNow_10 : decode prog_13_method_44_code 10 = .ok (.aload_n 0, 1) := by decide +kernel
theorem d11_isPassiveNow_11 : decode prog_13_method_44_code 11 = .ok (.getfield 7, 3) := by decide +kernel
theorem d11_isPassiveNow_14 : decode prog_13_method_44_code 14 = .ok (.sipush 1025, 3) := by decide +kernel
theorem d11_isPassiveNow_17 : decode prog_13_method_44_code 17 = .ok (.iaload, 1) := by decide +kernel
theorem d11_isPassiveNow_18 : decode prog_13_method_44_code 18 = .ok (.if_icmp .ge 24, 3) := by decide +kernel
theorem d11_isPassiveNow_21 : decode prog_13_method_44_code 21 = .ok (.aload_n 0, 1) := by decide +kernel
theorem d11_isPassiveNow_22 : decode prog_13_method_44_code 22 = .ok (.getfield 7, 3) := by decide +kernel
theorem d11_isPassiveNow_25 : decode prog_13_method_44_code 25 = .ok (.iload_n 1, 1) := by decide +kernel
theorem d11_isPassiveNow_26 : decode prog_13_method_44_code 26 = .ok (.iconst 5, 1) := by decide +kernel
theorem d11_isPassiveNow_27 : decode prog_13_method_44_code 27 = .ok (.invokestatic 35, 3) := by decide +kernel
theorem d11_isPassiveNow_30 : decode prog_13_method_44_code 30 = .ok (.iaload, 1) := by decide +kernel
theorem d11_isPassiveNow_31 : decode prog_13_method_44_code 31 = .ok (.aload_n 0, 1) := by decide +kernel
theorem d11_isPassiveNow_32 : decode prog_13_method_44_code 32 = .ok (.getfield 7, 3) := by decide +kernel
theorem d11_isPassiveNow_35 : decode prog_13_method_44_code 35 = .ok (.sipush 1025, 3) := by decide +kernel
theorem d11_isPassiveNow_38 : decode prog_13_method_44_code 38 = .ok (.iaload, 1) := by decide +kernel
theorem d11_isPassiveNow_39 : decode prog_13_method_44_code 39 = .ok (.if_icmp .lt 7, 3) := by decide +kernel
theorem d11_isPassiveNow_42 : decode prog_13_method_44_code 42 = .ok (.iconst 1, 1) := by decide +kernel
theorem d11_isPassiveNow_43 : decode prog_13_method_44_code 43 = .ok (.goto 4, 3) := by decide +kernel
theorem d11_isPassiveNow_46 : decode prog_13_method_44_code 46 = .ok (.iconst 0, 1) := by decide +kernel
theorem d11_isPassiveNow_47 : decode prog_13_method_44_code 47 = .ok (.ireturn, 1) := by decide +kernel
theorem d11_receives_0 : decode prog_13_method_45_code 0 = .ok (.aload_n 0, 1) := by decide +kernel
theorem d11_receives_1 : decode prog_13_method_45_code 1 = .ok (.getfield 7, 3) := by decide +kernel
theorem d11_receives_4 : decode prog_13_method_45_code 4 = .ok (.iload_n 1, 1) := by decide +kernel
theorem d11_receives_5 : decode prog_13_method_45_code 5 = .ok (.iconst 5, 1) := by decide +kernel
theorem d11_receives_6 : decode prog_13_method_45_code 6 = .ok (.invokestatic 35, 3) := by decide +kernel
theorem d11_receives_9 : decode prog_13_method_45_code 9 = .ok (.iaload, 1) := by decide +kernel
theorem d11_receives_10 : decode prog_13_method_45_code 10 = .ok (.iload_n 2, 1) := by decide +kernel
theorem d11_receives_11 : decode prog_13_method_45_code 11 = .ok (.iadd, 1) := by decide +kernel
theorem d11_receives_12 : decode prog_13_method_45_code 12 = .ok (.istore_n 3, 1) := by decide +kernel
theorem d11_receives_13 : decode prog_13_method_45_code 13 = .ok (.aload_n 0, 1) := by decide +kernel
theorem d11_receives_14 : decode prog_13_method_45_code 14 = .ok (.getfield 7, 3) := by decide +kernel
theorem d11_receives_17 : decode prog_13_method_45_code 17 = .ok (.iload_n 1, 1) := by decide +kernel
theorem d11_receives_18 : decode prog_13_method_45_code 18 = .ok (.iconst 5, 1) := by decide +kernel
theorem d11_receives_19 : decode prog_13_method_45_code 19 = .ok (.invokestatic 35, 3) := by decide +kernel
theorem d11_receives_22 : decode prog_13_method_45_code 22 = .ok (.iload_n 3, 1) := by decide +kernel
theorem d11_receives_23 : decode prog_13_method_45_code 23 = .ok (.sipush 255, 3) := by decide +kernel
theorem d11_receives_26 : decode prog_13_method_45_code 26 = .ok (.if_icmp .le 9, 3) := by decide +kernel
theorem d11_receives_29 : decode prog_13_method_45_code 29 = .ok (.sipush 255, 3) := by decide +kernel
theorem d11_receives_32 : decode prog_13_method_45_code 32 = .ok (.goto 4, 3) := by decide +kernel
theorem d11_receives_35 : decode prog_13_method_45_code 35 = .ok (.iload_n 3, 1) := by decide +kernel
theorem d11_receives_36 : decode prog_13_method_45_code 36 = .ok (.iastore, 1) := by decide +kernel
theorem d11_receives_37 : decode prog_13_method_45_code 37 = .ok (.return_, 1) := by decide +kernel
theorem d11_errs_0 : decode prog_13_method_46_code 0 = .ok (.aload_n 0, 1) := by decide +kernel
theorem d11_errs_1 : decode prog_13_method_46_code 1 = .ok (.getfield 7, 3) := by decide +kernel
theorem d11_errs_4 : decode prog_13_method_46_code 4 = .ok (.iload_n 1, 1) := by decide +kernel
theorem d11_errs_5 : decode prog_13_method_46_code 5 = .ok (.iconst 5, 1) := by decide +kernel
theorem d11_errs_6 : decode prog_13_method_46_code 6 = .ok (.iload_n 2, 1) := by decide +kernel
theorem d11_errs_7 : decode prog_13_method_46_code 7 = .ok (.iadd, 1) := by decide +kernel
theorem d11_errs_8 : decode prog_13_method_46_code 8 = .ok (.invokestatic 35, 3) := by decide +kernel
theorem d11_errs_11 : decode prog_13_method_46_code 11 = .ok (.dup2, 1) := by decide +kernel
theorem d11_errs_12 : decode prog_13_method_46_code 12 = .ok (.iaload, 1) := by decide +kernel
theorem d11_errs_13 : decode prog_13_method_46_code 13 = .ok (.iconst 1, 1) := by decide +kernel
theorem d11_errs_14 : decode prog_13_method_46_code 14 = .ok (.iadd, 1) := by decide +kernel
theorem d11_errs_15 : decode prog_13_method_46_code 15 = .ok (.iastore, 1) := by decide +kernel
theorem d11_errs_16 : decode prog_13_method_46_code 16 = .ok (.aload_n 0, 1) := by decide +kernel
theorem d11_errs_17 : decode prog_13_method_46_code 17 = .ok (.getfield 7, 3) := by decide +kernel
theorem d11_errs_20 : decode prog_13_method_46_code 20 = .ok (.iload_n 1, 1) := by decide +kernel
theorem d11_errs_21 : decode prog_13_method_46_code 21 = .ok (.bipush 11, 2) := by decide +kernel
theorem d11_errs_23 : decode prog_13_method_46_code 23 = .ok (.invokestatic 35, 3) := by decide +kernel
theorem d11_errs_26 : decode prog_13_method_46_code 26 = .ok (.iload_n 2, 1) := by decide +kernel
theorem d11_errs_27 : decode prog_13_method_46_code 27 = .ok (.iastore, 1) := by decide +kernel
theorem d11_errs_28 : decode prog_13_method_46_code 28 = .ok (.aload_n 0, 1) := by decide +kernel
theorem d11_errs_29 : decode prog_13_method_46_code 29 = .ok (.iload_n 1, 1) := by decide +kernel
theorem d11_errs_30 : decode prog_13_method_46_code 30 = .ok (.invokevirtual 110, 3) := by decide +kernel
theorem d11_errs_33 : decode prog_13_method_46_code 33 = .ok (.ifCond .ne 12, 3) := by decide +kernel
theorem d11_errs_36 : decode prog_13_method_46_code 36 = .ok (.aload_n 0, 1) := by decide +kernel
theorem d11_errs_37 : decode prog_13_method_46_code 37 = .ok (.iload_n 1, 1) := by decide +kernel
theorem d11_errs_38 : decode prog_13_method_46_code 38 = .ok (.iconst 1, 1) := by decide +kernel
theorem d11_errs_39 : decode prog_13_method_46_code 39 = .ok (.invokevirtual 116, 3) := by decide +kernel
theorem d11_errs_42 : decode prog_13_method_46_code 42 = .ok (.goto 31, 3) := by decide +kernel
theorem d11_errs_45 : decode prog_13_method_46_code 45 = .ok (.iload_n 2, 1) := by decide +kernel
theorem d11_errs_46 : decode prog_13_method_46_code 46 = .ok (.iconst 5, 1) := by decide +kernel
theorem d11_errs_47 : decode prog_13_method_46_code 47 = .ok (.if_icmp .ne 11, 3) := by decide +kernel
theorem d11_errs_50 : decode prog_13_method_46_code 50 = .ok (.aload_n 0, 1) := by decide +kernel
theorem d11_errs_51 : decode prog_13_method_46_code 51 = .ok (.iload_n 1, 1) := by decide +kernel
theorem d11_errs_52 : decode prog_13_method_46_code 52 = .ok (.invokevirtual 119, 3) := by decide +kernel
theorem d11_errs_55 : decode prog_13_method_46_code 55 = .ok (.ifCond .ne 18, 3) := by decide +kernel
theorem d11_errs_58 : decode prog_13_method_46_code 58 = .ok (.aload_n 0, 1) := by decide +kernel
theorem d11_errs_59 : decode prog_13_method_46_code 59 = .ok (.getfield 7, 3) := by decide +kernel
theorem d11_errs_62 : decode prog_13_method_46_code 62 = .ok (.iload_n 1, 1) := by decide +kernel
theorem d11_errs_63 : decode prog_13_method_46_code 63 = .ok (.iconst 4, 1) := by decide +kernel
theorem d11_errs_64 : decode prog_13_method_46_code 64 = .ok (.invokestatic 35, 3) := by decide +kernel
theorem d11_errs_67 : decode prog_13_method_46_code 67 = .ok (.dup2, 1) := by decide +kernel
theorem d11_errs_68 : decode prog_13_method_46_code 68 = .ok (.iaload, 1) := by decide +kernel
theorem d11_errs_69 : decode prog_13_method_46_code 69 = .ok (.bipush 8, 2) := by decide +kernel
theorem d11_errs_71 : decode prog_13_method_46_code 71 = .ok (.iadd, 1) := by decide +kernel
theorem d11_errs_72 : decode prog_13_method_46_code 72 = .ok (.iastore, 1) := by decide +kernel
theorem d11_errs_73 : decode prog_13_method_46_code 73 = .ok (.aload_n 0, 1) := by decide +kernel
theorem d11_errs_74 : decode prog_13_method_46_code 74 = .ok (.getfield 7, 3) := by decide +kernel
theorem d11_errs_77 : decode prog_13_method_46_code 77 = .ok (.iload_n 1, 1) := by decide +kernel
theorem d11_errs_78 : decode prog_13_method_46_code 78 = .ok (.iconst 4, 1) := by decide +kernel
theorem d11_errs_79 : decode prog_13_method_46_code 79 = .ok (.invokestatic 35, 3) := by decide +kernel
theorem d11_errs_82 : decode prog_13_method_46_code 82 = .ok (.iaload, 1) := by decide +kernel
theorem d11_errs_83 : decode prog_13_method_46_code 83 = .ok (.aload_n 0, 1) := by decide +kernel
theorem d11_errs_84 : decode prog_13_method_46_code 84 = .ok (.getfield 7, 3) := by decide +kernel
theorem d11_errs_87 : decode prog_13_method_46_code 87 = .ok (.sipush 1026, 3) := by decide +kernel
theorem d11_errs_90 : decode prog_13_method_46_code 90 = .ok (.iaload, 1) := by decide +kernel
theorem d11_errs_91 : decode prog_13_method_46_code 91 = .ok (.if_icmp .lt 12, 3) := by decide +kernel
theorem d11_errs_94 : decode prog_13_method_46_code 94 = .ok (.aload_n 0, 1) := by decide +kernel
theorem d11_errs_95 : decode prog_13_method_46_code 95 = .ok (.iload_n 1, 1) := by decide +kernel
theorem d11_errs_96 : decode prog_13_method_46_code 96 = .ok (.iconst 1, 1) := by decide +kernel
theorem d11_errs_97 : decode prog_13_method_46_code 97 = .ok (.invokevirtual 84, 3) := by decide +kernel
theorem d11_errs_100 : decode prog_13_method_46_code 100 = .ok (.goto 33, 3) := by decide +kernel
theorem d11_errs_103 : decode prog_13_method_46_code 103 = .ok (.aload_n 0, 1) := by decide +kernel
theorem d11_errs_104 : decode prog_13_method_46_code 104 = .ok (.iload_n 1, 1) := by decide +kernel
theorem d11_errs_105 : decode prog_13_method_46_code 105 = .ok (.iconst 5, 1) := by decide +kernel
theorem d11_errs_106 : decode prog_13_method_46_code 106 = .ok (.invokevirtual 84, 3) := by decide +kernel
theorem d11_errs_109 : decode prog_13_method_46_code 109 = .ok (.aload_n 0, 1) := by decide +kernel
theorem d11_errs_110 : decode prog_13_method_46_code 110 = .ok (.getfield 7, 3) := by decide +kernel
theorem d11_errs_113 : decode prog_13_method_46_code 113 = .ok (.iload_n 1, 1) := by decide +kernel
theorem d11_errs_114 : decode prog_13_method_46_code 114 = .ok (.bipush 18, 2) := by decide +kernel
theorem d11_errs_116 : decode prog_13_method_46_code 116 = .ok (.invokestatic 35, 3) := by decide +kernel
theorem d11_errs_119 : decode prog_13_method_46_code 119 = .ok (.aload_n 0, 1) := by decide +kernel
theorem d11_errs_120 : decode prog_13_method_46_code 120 = .ok (.iload_n 1, 1) := by decide +kernel
theorem d11_errs_121 : decode prog_13_method_46_code 121 = .ok (.invokevirtual 119, 3) := by decide +kernel
theorem d11_errs_124 : decode prog_13_method_46_code 124 = .ok (.ifCond .eq 7, 3) := by decide +kernel
theorem d11_errs_127 : decode prog_13_method_46_code 127 = .ok (.iconst 0, 1) := by decide +kernel
theorem d11_errs_128 : decode prog_13_method_46_code 128 = .ok (.goto 4, 3) := by decide +kernel
theorem d11_errs_131 : decode prog_13_method_46_code 131 = .ok (.iconst 1, 1) := by decide +kernel
theorem d11_errs_132 : decode prog_13_method_46_code 132 = .ok (.iastore, 1) := by decide +kernel
theorem d11_errs_133 : decode prog_13_method_46_code 133 = .ok (.return_, 1) := by decide +kernel
theorem d11_acts_0 : decode prog_13_method_47_code 0 = .ok (.aload_n 0, 1) := by decide +kernel
theorem d11_acts_1 : decode prog_13_method_47_code 1 = .ok (.getfield 7, 3) := by decide +kernel
theorem d11_acts_4 : decode prog_13_method_47_code 4 = .ok (.iload_n 1, 1) := by decide +kernel
theorem d11_acts_5 : decode prog_13_method_47_code 5 = .ok (.iconst 0, 1) := by decide +kernel
theorem d11_acts_6 : decode prog_13_method_47_code 6 = .ok (.invokestatic 35, 3) := by decide +kernel
theorem d11_acts_9 : decode prog_13_method_47_code 9 = .ok (.iaload, 1) := by decide +kernel
theorem d11_acts_10 : decode prog_13_method_47_code 10 = .ok (.tableswitch 190 1 9 #[181, 126, 50, 59, 91, 91, 99, 108, 117], 50) := by decide +kernel
theorem d11_acts_60 : decode prog_13_method_47_code 60 = .ok (.aload_n 0, 1) := by decide +kernel
theorem d11_acts_61 : decode prog_13_method_47_code 61 = .ok (.iload_n 1, 1) := by decide +kernel
theorem d11_acts_62 : decode prog_13_method_47_code 62 = .ok (.iload_n 2, 1) := by decide +kernel
theorem d11_acts_63 : decode prog_13_method_47_code 63 = .ok (.invokevirtual 122, 3) := by decide +kernel
theorem d11_acts_66 : decode prog_13_method_47_code 66 = .ok (.goto 134, 3) := by decide +kernel
theorem d11_acts_69 : decode prog_13_method_47_code 69 = .ok (.aload_n 0, 1) := by decide +kernel
theorem d11_acts_70 : decode prog_13_method_47_code 70 = .ok (.getfield 7, 3) := by decide +kernel
theorem d11_acts_73 : decode prog_13_method_47_code 73 = .ok (.iload_n 1, 1) := by decide +kernel
theorem d11_acts_74 : decode prog_13_method_47_code 74 = .ok (.bipush 22, 2) := by decide +kernel
theorem d11_acts_76 : decode prog_13_method_47_code 76 = .ok (.invokestatic 35, 3) := by decide +kernel
theorem d11_acts_79 : decode prog_13_method_47_code 79 = .ok (.iaload, 1) := by decide +kernel
theorem d11_acts_80 : decode prog_13_method_47_code 80 = .ok (.ifCond .ge 12, 3) := by decide +kernel
theorem d11_acts_83 : decode prog_13_method_47_code 83 = .ok (.aload_n 0, 1) := by decide +kernel
theorem d11_acts_84 : decode prog_13_method_47_code 84 = .ok (.iload_n 1, 1) := by decide +kernel
theorem d11_acts_85 : decode prog_13_method_47_code 85 = .ok (.iload_n 2, 1) := by decide +kernel
theorem d11_acts_86 : decode prog_13_method_47_code 86 = .ok (.invokevirtual 125, 3) := by decide +kernel
theorem d11_acts_89 : decode prog_13_method_47_code 89 = .ok (.goto 111, 3) := by decide +kernel
theorem d11_acts_92 : decode prog_13_method_47_code 92 = .ok (.aload_n 0, 1) := by decide +kernel
theorem d11_acts_93 : decode prog_13_method_47_code 93 = .ok (.iload_n 1, 1) := by decide +kernel
theorem d11_acts_94 : decode prog_13_method_47_code 94 = .ok (.iload_n 2, 1) := by decide +kernel
theorem d11_acts_95 : decode prog_13_method_47_code 95 = .ok (.invokevirtual 128, 3) := by decide +kernel
theorem d11_acts_98 : decode prog_13_method_47_code 98 = .ok (.goto 102, 3) := by decide +kernel
theorem d11_acts_101 : decode prog_13_method_47_code 101 = .ok (.aload_n 0, 1) := by decide +kernel
theorem d11_acts_102 : decode prog_13_method_47_code 102 = .ok (.iload_n 1, 1) := by decide +kernel
theorem d11_acts_103 : decode prog_13_method_47_code 103 = .ok (.invokevirtual 131, 3) := by decide +kernel
theorem d11_acts_106 : decode prog_13_method_47_code 106 = .ok (.goto 94, 3) := by decide +kernel
theorem d11_acts_109 : decode prog_13_method_47_code 109 = .ok (.aload_n 0, 1) := by decide +kernel
theorem d11_acts_110 : decode prog_13_method_47_code 110 = .ok (.iload_n 1, 1) := by decide +kernel
theorem d11_acts_111 : decode prog_13_method_47_code 111 = .ok (.iload_n 2, 1) := by decide +kernel
theorem d11_acts_112 : decode prog_13_method_47_code 112 = .ok (.invokevirtual 134, 3) := by decide +kernel
theorem d11_acts_115 : decode prog_13_method_47_code 115 = .ok (.goto 85, 3) := by decide +kernel
theorem d11_acts_118 : decode prog_13_method_47_code 118 = .ok (.aload_n 0, 1) := by decide +kernel
theorem d11_acts_119 : decode prog_13_method_47_code 119 = .ok (.iload_n 1, 1) := by decide +kernel
theorem d11_acts_120 : decode prog_13_method_47_code 120 = .ok (.iload_n 2, 1) := by decide +kernel
theorem d11_acts_121 : decode prog_13_method_47_code 121 = .ok (.invokevirtual 137, 3) := by decide +kernel
theorem d11_acts_124 : decode prog_13_method_47_code 124 = .ok (.goto 76, 3) := by decide +kernel
theorem d11_acts_127 : decode prog_13_method_47_code 127 = .ok (.aload_n 0, 1) := by decide +kernel
theorem d11_acts_128 : decode prog_13_method_47_code 128 = .ok (.iload_n 1, 1) := by decide +kernel
theorem d11_acts_129 : decode prog_13_method_47_code 129 = .ok (.iload_n 2, 1) := by decide +kernel
theorem d11_acts_130 : decode prog_13_method_47_code 130 = .ok (.invokevirtual 140, 3) := by decide +kernel
theorem d11_acts_133 : decode prog_13_method_47_code 133 = .ok (.goto 67, 3) := by decide +kernel
theorem d11_acts_136 : decode prog_13_method_47_code 136 = .ok (.aload_n 0, 1) := by decide +kernel
theorem d11_acts_137 : decode prog_13_method_47_code 137 = .ok (.getfield 7, 3) := by decide +kernel
theorem d11_acts_140 : decode prog_13_method_47_code 140 = .ok (.iload_n 1, 1) := by decide +kernel
theorem d11_acts_141 : decode prog_13_method_47_code 141 = .ok (.iconst 2, 1) := by decide +kernel
theorem d11_acts_142 : decode prog_13_method_47_code 142 = .ok (.invokestatic 35, 3) := by decide +kernel
theorem d11_acts_145 : decode prog_13_method_47_code 145 = .ok (.iload_n 2, 1) := by decide +kernel
theorem d11_acts_146 : decode prog_13_method_47_code 146 = .ok (.iconst 1, 1) := by decide +kernel
theorem d11_acts_147 : decode prog_13_method_47_code 147 = .ok (.if_icmp .ne 18, 3) := by decide +kernel
theorem d11_acts_150 : decode prog_13_method_47_code 150 = .ok (.aload_n 0, 1) := by decide +kernel
theorem d11_acts_151 : decode prog_13_method_47_code 151 = .ok (.getfield 7, 3) := by decide +kernel
theorem d11_acts_154 : decode prog_13_method_47_code 154 = .ok (.iload_n 1, 1) := by decide +kernel
theorem d11_acts_155 : decode prog_13_method_47_code 155 = .ok (.iconst 2, 1) := by decide +kernel
theorem d11_acts_156 : decode prog_13_method_47_code 156 = .ok (.invokestatic 35, 3) := by decide +kernel
theorem d11_acts_159 : decode prog_13_method_47_code 159 = .ok (.iaload, 1) := by decide +kernel
theorem d11_acts_160 : decode prog_13_method_47_code 160 = .ok (.iconst 1, 1) := by decide +kernel
theorem d11_acts_161 : decode prog_13_method_47_code 161 = .ok (.iadd, 1) := by decide +kernel
theorem d11_acts_162 : decode prog_13_method_47_code 162 = .ok (.goto 4, 3) := by decide +kernel
theorem d11_acts_165 : decode prog_13_method_47_code 165 = .ok (.iconst 0, 1) := by decide +kernel
theorem d11_acts_166 : decode prog_13_method_47_code 166 = .ok (.iastore, 1) := by decide +kernel
theorem d11_acts_167 : decode prog_13_method_47_code 167 = .ok (.aload_n 0, 1) := by decide +kernel
theorem d11_acts_168 : decode prog_13_method_47_code 168 = .ok (.getfield 7, 3) := by decide +kernel
theorem d11_acts_171 : decode prog_13_method_47_code 171 = .ok (.iload_n 1, 1) := by decide +kernel
theorem d11_acts_172 : decode prog_13_method_47_code 172 = .ok (.iconst 2, 1) := by decide +kernel
theorem d11_acts_173 : decode prog_13_method_47_code 173 = .ok (.invokestatic 35, 3) := by decide +kernel
theorem d11_acts_176 : decode prog_13_method_47_code 176 = .ok (.iaload, 1) := by decide +kernel
theorem d11_acts_177 : decode prog_13_method_47_code 177 = .ok (.bipush 11, 2) := by decide +kernel
theorem d11_acts_179 : decode prog_13_method_47_code 179 = .ok (.if_icmp .ne 21, 3) := by decide +kernel
theorem d11_acts_182 : decode prog_13_method_47_code 182 = .ok (.aload_n 0, 1) := by decide +kernel
theorem d11_acts_183 : decode prog_13_method_47_code 183 = .ok (.iload_n 1, 1) := by decide +kernel
theorem d11_acts_184 : decode prog_13_method_47_code 184 = .ok (.iconst 3, 1) := by decide +kernel
theorem d11_acts_185 : decode prog_13_method_47_code 185 = .ok (.invokevirtual 84, 3) := by decide +kernel
theorem d11_acts_188 : decode prog_13_method_47_code 188 = .ok (.goto 12, 3) := by decide +kernel
theorem d11_acts_191 : decode prog_13_method_47_code 191 = .ok (.aload_n 0, 1) := by decide +kernel
theorem d11_acts_192 : decode prog_13_method_47_code 192 = .ok (.iload_n 1, 1) := by decide +kernel
theorem d11_acts_193 : decode prog_13_method_47_code 193 = .ok (.iload_n 2, 1) := by decide +kernel
theorem d11_acts_194 : decode prog_13_method_47_code 194 = .ok (.invokevirtual 143, 3) := by decide +kernel
theorem d11_acts_197 : decode prog_13_method_47_code 197 = .ok (.goto 3, 3) := by decide +kernel
theorem d11_acts_200 : decode prog_13_method_47_code 200 = .ok (.return_, 1) := by decide +kernel
theorem d11_idles_0 : decode prog_13_method_48_code 0 = .ok (.aload_n 0, 1) := by decide +kernel
theorem d11_idles_1 : decode prog_13_method_48_code 1 = .ok (.getfield 7, 3) := by decide +kernel
theorem d11_idles_4 : decode prog_13_method_48_code 4 = .ok (.iload_n 1, 1) := by decide +kernel
theorem d11_idles_5 : decode prog_13_method_48_code 5 = .ok (.bipush 26, 2) := by decide +kernel
theorem d11_idles_7 : decode prog_13_method_48_code 7 = .ok (.invokestatic 35, 3) := by decide +kernel
theorem d11_idles_10 : decode prog_13_method_48_code 10 = .ok (.iaload, 1) := by decide +kernel
theorem d11_idles_11 : decode prog_13_method_48_code 11 = .ok (.ifCond .ne 7, 3) := by decide +kernel
theorem d11_idles_14 : decode prog_13_method_48_code 14 = .ok (.iconst 1, 1) := by decide +kernel
theorem d11_idles_15 : decode prog_13_method_48_code 15 = .ok (.goto 4, 3) := by decide +kernel
theorem d11_idles_18 : decode prog_13_method_48_code 18 = .ok (.iconst 0, 1) := by decide +kernel
theorem d11_idles_19 : decode prog_13_method_48_code 19 = .ok (.istore_n 3, 1) := by decide +kernel
theorem d11_idles_20 : decode prog_13_method_48_code 20 = .ok (.iload_n 2, 1) := by decide +kernel
theorem d11_idles_21 : decode prog_13_method_48_code 21 = .ok (.ifCond .ne 12, 3) := by decide +kernel
theorem d11_idles_24 : decode prog_13_method_48_code 24 = .ok (.aload_n 0, 1) := by decide +kernel
theorem d11_idles_25 : decode prog_13_method_48_code 25 = .ok (.iload_n 1, 1) := by decide +kernel
theorem d11_idles_26 : decode prog_13_method_48_code 26 = .ok (.iload_n 3, 1) := by decide +kernel
theorem d11_idles_27 : decode prog_13_method_48_code 27 = .ok (.invokevirtual 146, 3) := by decide +kernel
theorem d11_idles_30 : decode prog_13_method_48_code 30 = .ok (.goto 24, 3) := by decide +kernel
theorem d11_idles_33 : decode prog_13_method_48_code 33 = .ok (.iload_n 3, 1) := by decide +kernel
theorem d11_idles_34 : decode prog_13_method_48_code 34 = .ok (.ifCond .eq 20, 3) := by decide +kernel
theorem d11_idles_37 : decode prog_13_method_48_code 37 = .ok (.aload_n 0, 1) := by decide +kernel
theorem d11_idles_38 : decode prog_13_method_48_code 38 = .ok (.getfield 7, 3) := by decide +kernel
theorem d11_idles_41 : decode prog_13_method_48_code 41 = .ok (.iload_n 1, 1) := by decide +kernel
theorem d11_idles_42 : decode prog_13_method_48_code 42 = .ok (.iconst 1, 1) := by decide +kernel
theorem d11_idles_43 : decode prog_13_method_48_code 43 = .ok (.invokestatic 35, 3) := by decide +kernel
theorem d11_idles_46 : decode prog_13_method_48_code 46 = .ok (.iconst 1, 1) := by decide +kernel
theorem d11_idles_47 : decode prog_13_method_48_code 47 = .ok (.iastore, 1) := by decide +kernel
theorem d11_idles_48 : decode prog_13_method_48_code 48 = .ok (.aload_n 0, 1) := by decide +kernel
theorem d11_idles_49 : decode prog_13_method_48_code 49 = .ok (.iload_n 1, 1) := by decide +kernel
theorem d11_idles_50 : decode prog_13_method_48_code 50 = .ok (.iconst 1, 1) := by decide +kernel
theorem d11_idles_51 : decode prog_13_method_48_code 51 = .ok (.invokevirtual 150, 3) := by decide +kernel
theorem d11_idles_54 : decode prog_13_method_48_code 54 = .ok (.return_, 1) := by decide +kernel
theorem d11_stuffed_0 : decode prog_13_method_49_code 0 = .ok (.aload_n 0, 1) := by decide +kernel
theorem d11_stuffed_1 : decode prog_13_method_49_code 1 = .ok (.getfield 7, 3) := by decide +kernel
theorem d11_stuffed_4 : decode prog_13_method_49_code 4 = .ok (.iload_n 1, 1) := by decide +kernel
theorem d11_stuffed_5 : decode prog_13_method_49_code 5 = .ok (.bipush 20, 2) := by decide +kernel
theorem d11_stuffed_7 : decode prog_13_method_49_code 7 = .ok (.invokestatic 35, 3) := by decide +kernel
theorem d11_stuffed_10 : decode prog_13_method_49_code 10 = .ok (.iaload, 1) := by decide +kernel
theorem d11_stuffed_11 : decode prog_13_method_49_code 11 = .ok (.iconst 5, 1) := by decide +kernel
theorem d11_stuffed_12 : decode prog_13_method_49_code 12 = .ok (.if_icmp .ne 7, 3) := by decide +kernel
theorem d11_stuffed_15 : decode prog_13_method_49_code 15 = .ok (.iconst 1, 1) := by decide +kernel
theorem d11_stuffed_16 : decode prog_13_method_49_code 16 = .ok (.goto 4, 3) := by decide +kernel
theorem d11_stuffed_19 : decode prog_13_method_49_code 19 = .ok (.iconst 0, 1) := by decide +kernel
theorem d11_stuffed_20 : decode prog_13_method_49_code 20 = .ok (.istore_n 3, 1) := by decide +kernel
theorem d11_stuffed_21 : decode prog_13_method_49_code 21 = .ok (.iload_n 2, 1) := by decide +kernel
theorem d11_stuffed_22 : decode prog_13_method_49_code 22 = .ok (.aload_n 0, 1) := by decide +kernel
theorem d11_stuffed_23 : decode prog_13_method_49_code 23 = .ok (.getfield 7, 3) := by decide +kernel
theorem d11_stuffed_26 : decode prog_13_method_49_code 26 = .ok (.iload_n 1, 1) := by decide +kernel
theorem d11_stuffed_27 : decode prog_13_method_49_code 27 = .ok (.bipush 26, 2) := by decide +kernel
theorem d11_stuffed_29 : decode prog_13_method_49_code 29 = .ok (.invokestatic 35, 3) := by decide +kernel
theorem d11_stuffed_32 : decode prog_13_method_49_code 32 = .ok (.iaload, 1) := by decide +kernel
theorem d11_stuffed_33 : decode prog_13_method_49_code 33 = .ok (.if_icmp .eq 7, 3) := by decide +kernel
theorem d11_stuffed_36 : decode prog_13_method_49_code 36 = .ok (.iconst 1, 1) := by decide +kernel
theorem d11_stuffed_37 : decode prog_13_method_49_code 37 = .ok (.goto 4, 3) := by decide +kernel
theorem d11_stuffed_40 : decode prog_13_method_49_code 40 = .ok (.iconst 0, 1) := by decide +kernel
theorem d11_stuffed_41 : decode prog_13_method_49_code 41 = .ok (.istore 4, 2) := by decide +kernel
theorem d11_stuffed_43 : decode prog_13_method_49_code 43 = .ok (.aload_n 0, 1) := by decide +kernel
theorem d11_stuffed_44 : decode prog_13_method_49_code 44 = .ok (.getfield 7, 3) := by decide +kernel
theorem d11_stuffed_47 : decode prog_13_method_49_code 47 = .ok (.iload_n 1, 1) := by decide +kernel
theorem d11_stuffed_48 : decode prog_13_method_49_code 48 = .ok (.bipush 21, 2) := by decide +kernel
theorem d11_stuffed_50 : decode prog_13_method_49_code 50 = .ok (.invokestatic 35, 3) := by decide +kernel
theorem d11_stuffed_53 : decode prog_13_method_49_code 53 = .ok (.iaload, 1) := by decide +kernel
theorem d11_stuffed_54 : decode prog_13_method_49_code 54 = .ok (.istore 5, 2) := by decide +kernel
theorem d11_stuffed_56 : decode prog_13_method_49_code 56 = .ok (.iload_n 3, 1) := by decide +kernel
theorem d11_stuffed_57 : decode prog_13_method_49_code 57 = .ok (.ifCond .eq 44, 3) := by decide +kernel
theorem d11_stuffed_60 : decode prog_13_method_49_code 60 = .ok (.aload_n 0, 1) := by decide +kernel
theorem d11_stuffed_61 : decode prog_13_method_49_code 61 = .ok (.iload_n 1, 1) := by decide +kernel
theorem d11_stuffed_62 : decode prog_13_method_49_code 62 = .ok (.invokevirtual 110, 3) := by decide +kernel
theorem d11_stuffed_65 : decode prog_13_method_49_code 65 = .ok (.ifCond .eq 15, 3) := by decide +kernel
theorem d11_stuffed_68 : decode prog_13_method_49_code 68 = .ok (.iload 4, 2) := by decide +kernel
theorem d11_stuffed_70 : decode prog_13_method_49_code 70 = .ok (.ifCond .eq 10, 3) := by decide +kernel
theorem d11_stuffed_73 : decode prog_13_method_49_code 73 = .ok (.aload_n 0, 1) := by decide +kernel
theorem d11_stuffed_74 : decode prog_13_method_49_code 74 = .ok (.iload_n 1, 1) := by decide +kernel
theorem d11_stuffed_75 : decode prog_13_method_49_code 75 = .ok (.iconst 1, 1) := by decide +kernel
theorem d11_stuffed_76 : decode prog_13_method_49_code 76 = .ok (.invokevirtual 150, 3) := by decide +kernel
theorem d11_stuffed_79 : decode prog_13_method_49_code 79 = .ok (.return_, 1) := by decide +kernel
theorem d11_stuffed_80 : decode prog_13_method_49_code 80 = .ok (.aload_n 0, 1) := by decide +kernel
theorem d11_stuffed_81 : decode prog_13_method_49_code 81 = .ok (.iload_n 1, 1) := by decide +kernel
theorem d11_stuffed_82 : decode prog_13_method_49_code 82 = .ok (.invokevirtual 110, 3) := by decide +kernel
theorem d11_stuffed_85 : decode prog_13_method_49_code 85 = .ok (.ifCond .ne 181, 3) := by decide +kernel
theorem d11_stuffed_88 : decode prog_13_method_49_code 88 = .ok (.iload_n 2, 1) := by decide +kernel
theorem d11_stuffed_89 : decode prog_13_method_49_code 89 = .ok (.iload 5, 2) := by decide +kernel
theorem d11_stuffed_91 : decode prog_13_method_49_code 91 = .ok (.if_icmp .ne 175, 3) := by decide +kernel
theorem d11_stuffed_94 : decode prog_13_method_49_code 94 = .ok (.aload_n 0, 1) := by decide +kernel
theorem d11_stuffed_95 : decode prog_13_method_49_code 95 = .ok (.iload_n 1, 1) := by decide +kernel
theorem d11_stuffed_96 : decode prog_13_method_49_code 96 = .ok (.iconst 2, 1) := by decide +kernel
theorem d11_stuffed_97 : decode prog_13_method_49_code 97 = .ok (.invokevirtual 150, 3) := by decide +kernel
theorem d11_stuffed_100 : decode prog_13_method_49_code 100 = .ok (.return_, 1) := by decide +kernel
theorem d11_stuffed_101 : decode prog_13_method_49_code 101 = .ok (.aload_n 0, 1) := by decide +kernel
theorem d11_stuffed_102 : decode prog_13_method_49_code 102 = .ok (.getfield 7, 3) := by decide +kernel
theorem d11_stuffed_105 : decode prog_13_method_49_code 105 = .ok (.iload_n 1, 1) := by decide +kernel
theorem d11_stuffed_106 : decode prog_13_method_49_code 106 = .ok (.bipush 19, 2) := by decide +kernel
theorem d11_stuffed_108 : decode prog_13_method_49_code 108 = .ok (.invokestatic 35, 3) := by decide +kernel
theorem d11_stuffed_111 : decode prog_13_method_49_code 111 = .ok (.iaload, 1) := by decide +kernel
theorem d11_stuffed_112 : decode prog_13_method_49_code 112 = .ok (.istore 6, 2) := by decide +kernel
theorem d11_stuffed_114 : decode prog_13_method_49_code 114 = .ok (.aload_n 0, 1) := by decide +kernel
theorem d11_stuffed_115 : decode prog_13_method_49_code 115 = .ok (.iload_n 1, 1) := by decide +kernel
theorem d11_stuffed_116 : decode prog_13_method_49_code 116 = .ok (.invokevirtual 110, 3) := by decide +kernel
theorem d11_stuffed_119 : decode prog_13_method_49_code 119 = .ok (.ifCond .eq 62, 3) := by decide +kernel
theorem d11_stuffed_122 : decode prog_13_method_49_code 122 = .ok (.iload 4, 2) := by decide +kernel
theorem d11_stuffed_124 : decode prog_13_method_49_code 124 = .ok (.ifCond .eq 57, 3) := by decide +kernel
theorem d11_stuffed_127 : decode prog_13_method_49_code 127 = .ok (.iload_n 2, 1) := by decide +kernel
theorem d11_stuffed_128 : decode prog_13_method_49_code 128 = .ok (.iconst 1, 1) := by decide +kernel
theorem d11_stuffed_129 : decode prog_13_method_49_code 129 = .ok (.if_icmp .eq 14, 3) := by decide +kernel
theorem d11_stuffed_132 : decode prog_13_method_49_code 132 = .ok (.iload 6, 2) := by decide +kernel
theorem d11_stuffed_134 : decode prog_13_method_49_code 134 = .ok (.iconst 1, 1) := by decide +kernel
theorem d11_stuffed_135 : decode prog_13_method_49_code 135 = .ok (.bipush 12, 2) := by decide +kernel
theorem d11_stuffed_137 : decode prog_13_method_49_code 137 = .ok (.invokestatic 39, 3) := by decide +kernel
theorem d11_stuffed_140 : decode prog_13_method_49_code 140 = .ok (.ifCond .ne 10, 3) := by decide +kernel
theorem d11_stuffed_143 : decode prog_13_method_49_code 143 = .ok (.aload_n 0, 1) := by decide +kernel
theorem d11_stuffed_144 : decode prog_13_method_49_code 144 = .ok (.iload_n 1, 1) := by decide +kernel
theorem d11_stuffed_145 : decode prog_13_method_49_code 145 = .ok (.iconst 1, 1) := by decide +kernel
theorem d11_stuffed_146 : decode prog_13_method_49_code 146 = .ok (.invokevirtual 150, 3) := by decide +kernel
theorem d11_stuffed_149 : decode prog_13_method_49_code 149 = .ok (.return_, 1) := by decide +kernel
theorem d11_stuffed_150 : decode prog_13_method_49_code 150 = .ok (.aload_n 0, 1) := by decide +kernel
theorem d11_stuffed_151 : decode prog_13_method_49_code 151 = .ok (.getfield 7, 3) := by decide +kernel
theorem d11_stuffed_154 : decode prog_13_method_49_code 154 = .ok (.iload_n 1, 1) := by decide +kernel
theorem d11_stuffed_155 : decode prog_13_method_49_code 155 = .ok (.iconst 1, 1) := by decide +kernel
theorem d11_stuffed_156 : decode prog_13_method_49_code 156 = .ok (.invokestatic 35, 3) := by decide +kernel
theorem d11_stuffed_159 : decode prog_13_method_49_code 159 = .ok (.iconst 0, 1) := by decide +kernel
theorem d11_stuffed_160 : decode prog_13_method_49_code 160 = .ok (.iastore, 1) := by decide +kernel
theorem d11_stuffed_161 : decode prog_13_method_49_code 161 = .ok (.aload_n 0, 1) := by decide +kernel
theorem d11_stuffed_162 : decode prog_13_method_49_code 162 = .ok (.getfield 7, 3) := by decide +kernel
theorem d11_stuffed_165 : decode prog_13_method_49_code 165 = .ok (.iload_n 1, 1) := by decide +kernel
theorem d11_stuffed_166 : decode prog_13_method_49_code 166 = .ok (.bipush 12, 2) := by decide +kernel
theorem d11_stuffed_168 : decode prog_13_method_49_code 168 = .ok (.invokestatic 35, 3) := by decide +kernel
theorem d11_stuffed_171 : decode prog_13_method_49_code 171 = .ok (.dup2, 1) := by decide +kernel
theorem d11_stuffed_172 : decode prog_13_method_49_code 172 = .ok (.iaload, 1) := by decide +kernel
theorem d11_stuffed_173 : decode prog_13_method_49_code 173 = .ok (.iconst 1, 1) := by decide +kernel
theorem d11_stuffed_174 : decode prog_13_method_49_code 174 = .ok (.iadd, 1) := by decide +kernel
theorem d11_stuffed_175 : decode prog_13_method_49_code 175 = .ok (.iastore, 1) := by decide +kernel
theorem d11_stuffed_176 : decode prog_13_method_49_code 176 = .ok (.aload_n 0, 1) := by decide +kernel
theorem d11_stuffed_177 : decode prog_13_method_49_code 177 = .ok (.iload_n 1, 1) := by decide +kernel
theorem d11_stuffed_178 : decode prog_13_method_49_code 178 = .ok (.invokevirtual 77, 3) := by decide +kernel
theorem d11_stuffed_181 : decode prog_13_method_49_code 181 = .ok (.aload_n 0, 1) := by decide +kernel
theorem d11_stuffed_182 : decode prog_13_method_49_code 182 = .ok (.getfield 7, 3) := by decide +kernel
theorem d11_stuffed_185 : decode prog_13_method_49_code 185 = .ok (.iload_n 1, 1) := by decide +kernel
theorem d11_stuffed_186 : decode prog_13_method_49_code 186 = .ok (.bipush 90, 2) := by decide +kernel
theorem d11_stuffed_188 : decode prog_13_method_49_code 188 = .ok (.iload 6, 2) := by decide +kernel
theorem d11_stuffed_190 : decode prog_13_method_49_code 190 = .ok (.iadd, 1) := by decide +kernel
theorem d11_stuffed_191 : decode prog_13_method_49_code 191 = .ok (.invokestatic 35, 3) := by decide +kernel
theorem d11_stuffed_194 : decode prog_13_method_49_code 194 = .ok (.iload_n 2, 1) := by decide +kernel
theorem d11_stuffed_195 : decode prog_13_method_49_code 195 = .ok (.iastore, 1) := by decide +kernel
theorem d11_stuffed_196 : decode prog_13_method_49_code 196 = .ok (.aload_n 0, 1) := by decide +kernel
theorem d11_stuffed_197 : decode prog_13_method_49_code 197 = .ok (.getfield 7, 3) := by decide +kernel
theorem d11_stuffed_200 : decode prog_13_method_49_code 200 = .ok (.iload_n 1, 1) := by decide +kernel
theorem d11_stuffed_201 : decode prog_13_method_49_code 201 = .ok (.bipush 19, 2) := by decide +kernel
theorem d11_stuffed_203 : decode prog_13_method_49_code 203 = .ok (.invokestatic 35, 3) := by decide +kernel
theorem d11_stuffed_206 : decode prog_13_method_49_code 206 = .ok (.dup2, 1) := by decide +kernel
theorem d11_stuffed_207 : decode prog_13_method_49_code 207 = .ok (.iaload, 1) := by decide +kernel
theorem d11_stuffed_208 : decode prog_13_method_49_code 208 = .ok (.iconst 1, 1) := by decide +kernel
theorem d11_stuffed_209 : decode prog_13_method_49_code 209 = .ok (.iadd, 1) := by decide +kernel
theorem d11_stuffed_210 : decode prog_13_method_49_code 210 = .ok (.iastore, 1) := by decide +kernel
theorem d11_stuffed_211 : decode prog_13_method_49_code 211 = .ok (.iload 6, 2) := by decide +kernel
theorem d11_stuffed_213 : decode prog_13_method_49_code 213 = .ok (.bipush 13, 2) := by decide +kernel
theorem d11_stuffed_215 : decode prog_13_method_49_code 215 = .ok (.if_icmp .ne 8, 3) := by decide +kernel
theorem d11_stuffed_218 : decode prog_13_method_49_code 218 = .ok (.iload_n 2, 1) := by decide +kernel
theorem d11_stuffed_219 : decode prog_13_method_49_code 219 = .ok (.iconst 1, 1) := by decide +kernel
theorem d11_stuffed_220 : decode prog_13_method_49_code 220 = .ok (.if_icmp .eq 19, 3) := by decide +kernel
theorem d11_stuffed_223 : decode prog_13_method_49_code 223 = .ok (.iload 6, 2) := by decide +kernel
theorem d11_stuffed_225 : decode prog_13_method_49_code 225 = .ok (.bipush 18, 2) := by decide +kernel
theorem d11_stuffed_227 : decode prog_13_method_49_code 227 = .ok (.if_icmp .ne 16, 3) := by decide +kernel
theorem d11_stuffed_230 : decode prog_13_method_49_code 230 = .ok (.aload_n 0, 1) := by decide +kernel
theorem d11_stuffed_231 : decode prog_13_method_49_code 231 = .ok (.iload_n 1, 1) := by decide +kernel
theorem d11_stuffed_232 : decode prog_13_method_49_code 232 = .ok (.invokevirtual 98, 3) := by decide +kernel
theorem d11_stuffed_235 : decode prog_13_method_49_code 235 = .ok (.iconst 4, 1) := by decide +kernel
theorem d11_stuffed_236 : decode prog_13_method_49_code 236 = .ok (.if_icmp .le 7, 3) := by decide +kernel
theorem d11_stuffed_239 : decode prog_13_method_49_code 239 = .ok (.iconst 1, 1) := by decide +kernel
theorem d11_stuffed_240 : decode prog_13_method_49_code 240 = .ok (.goto 4, 3) := by decide +kernel
theorem d11_stuffed_243 : decode prog_13_method_49_code 243 = .ok (.iconst 0, 1) := by decide +kernel
theorem d11_stuffed_244 : decode prog_13_method_49_code 244 = .ok (.istore 7, 2) := by decide +kernel
theorem d11_stuffed_246 : decode prog_13_method_49_code 246 = .ok (.aload_n 0, 1) := by decide +kernel
theorem d11_stuffed_247 : decode prog_13_method_49_code 247 = .ok (.iload_n 1, 1) := by decide +kernel
theorem d11_stuffed_248 : decode prog_13_method_49_code 248 = .ok (.invokevirtual 110, 3) := by decide +kernel
theorem d11_stuffed_251 : decode prog_13_method_49_code 251 = .ok (.ifCond .ne 15, 3) := by decide +kernel
theorem d11_stuffed_254 : decode prog_13_method_49_code 254 = .ok (.iload 7, 2) := by decide +kernel
theorem d11_stuffed_256 : decode prog_13_method_49_code 256 = .ok (.ifCond .eq 10, 3) := by decide +kernel
theorem d11_stuffed_259 : decode prog_13_method_49_code 259 = .ok (.aload_n 0, 1) := by decide +kernel
theorem d11_stuffed_260 : decode prog_13_method_49_code 260 = .ok (.iload_n 1, 1) := by decide +kernel
theorem d11_stuffed_261 : decode prog_13_method_49_code 261 = .ok (.iconst 4, 1) := by decide +kernel
theorem d11_stuffed_262 : decode prog_13_method_49_code 262 = .ok (.invokevirtual 150, 3) := by decide +kernel
theorem d11_stuffed_265 : decode prog_13_method_49_code 265 = .ok (.return_, 1) := by decide +kernel
theorem d11_stuffed_266 : decode prog_13_method_49_code 266 = .ok (.aload_n 0, 1) := by decide +kernel
theorem d11_stuffed_267 : decode prog_13_method_49_code 267 = .ok (.getfield 7, 3) := by decide +kernel
theorem d11_stuffed_270 : decode prog_13_method_49_code 270 = .ok (.iload_n 1, 1) := by decide +kernel
theorem d11_stuffed_271 : decode prog_13_method_49_code 271 = .ok (.bipush 20, 2) := by decide +kernel
theorem d11_stuffed_273 : decode prog_13_method_49_code 273 = .ok (.invokestatic 35, 3) := by decide +kernel
theorem d11_stuffed_276 : decode prog_13_method_49_code 276 = .ok (.iload_n 3, 1) := by decide +kernel
theorem d11_stuffed_277 : decode prog_13_method_49_code 277 = .ok (.ifCond .ne 25, 3) := by decide +kernel
theorem d11_stuffed_280 : decode prog_13_method_49_code 280 = .ok (.iload_n 2, 1) := by decide +kernel
theorem d11_stuffed_281 : decode prog_13_method_49_code 281 = .ok (.iload 5, 2) := by decide +kernel
theorem d11_stuffed_283 : decode prog_13_method_49_code 283 = .ok (.if_icmp .ne 19, 3) := by decide +kernel
theorem d11_stuffed_286 : decode prog_13_method_49_code 286 = .ok (.aload_n 0, 1) := by decide +kernel
theorem d11_stuffed_287 : decode prog_13_method_49_code 287 = .ok (.getfield 7, 3) := by decide +kernel
theorem d11_stuffed_290 : decode prog_13_method_49_code 290 = .ok (.iload_n 1, 1) := by decide +kernel
theorem d11_stuffed_291 : decode prog_13_method_49_code 291 = .ok (.bipush 20, 2) := by decide +kernel
theorem d11_stuffed_293 : decode prog_13_method_49_code 293 = .ok (.invokestatic 35, 3) := by decide +kernel
theorem d11_stuffed_296 : decode prog_13_method_49_code 296 = .ok (.iaload, 1) := by decide +kernel
theorem d11_stuffed_297 : decode prog_13_method_49_code 297 = .ok (.iconst 1, 1) := by decide +kernel
theorem d11_stuffed_298 : decode prog_13_method_49_code 298 = .ok (.iadd, 1) := by decide +kernel
theorem d11_stuffed_299 : decode prog_13_method_49_code 299 = .ok (.goto 4, 3) := by decide +kernel
theorem d11_stuffed_302 : decode prog_13_method_49_code 302 = .ok (.iconst 1, 1) := by decide +kernel
theorem d11_stuffed_303 : decode prog_13_method_49_code 303 = .ok (.iastore, 1) := by decide +kernel
theorem d11_stuffed_304 : decode prog_13_method_49_code 304 = .ok (.aload_n 0, 1) := by decide +kernel
theorem d11_stuffed_305 : decode prog_13_method_49_code 305 = .ok (.getfield 7, 3) := by decide +kernel
theorem d11_stuffed_308 : decode prog_13_method_49_code 308 = .ok (.iload_n 1, 1) := by decide +kernel
theorem d11_stuffed_309 : decode prog_13_method_49_code 309 = .ok (.bipush 21, 2) := by decide +kernel
theorem d11_stuffed_311 : decode prog_13_method_49_code 311 = .ok (.invokestatic 35, 3) := by decide +kernel
theorem d11_stuffed_314 : decode prog_13_method_49_code 314 = .ok (.iload_n 2, 1) := by decide +kernel
theorem d11_stuffed_315 : decode prog_13_method_49_code 315 = .ok (.iastore, 1) := by decide +kernel
theorem d11_stuffed_316 : decode prog_13_method_49_code 316 = .ok (.aload_n 0, 1) := by decide +kernel
theorem d11_stuffed_317 : decode prog_13_method_49_code 317 = .ok (.getfield 7, 3) := by decide +kernel
theorem d11_stuffed_320 : decode prog_13_method_49_code 320 = .ok (.iload_n 1, 1) := by decide +kernel
theorem d11_stuffed_321 : decode prog_13_method_49_code 321 = .ok (.bipush 19, 2) := by decide +kernel
theorem d11_stuffed_323 : decode prog_13_method_49_code 323 = .ok (.invokestatic 35, 3) := by decide +kernel
theorem d11_stuffed_326 : decode prog_13_method_49_code 326 = .ok (.iaload, 1) := by decide +kernel
theorem d11_stuffed_327 : decode prog_13_method_49_code 327 = .ok (.aload_n 0, 1) := by decide +kernel
theorem d11_stuffed_328 : decode prog_13_method_49_code 328 = .ok (.iload_n 1, 1) := by decide +kernel
theorem d11_stuffed_329 : decode prog_13_method_49_code 329 = .ok (.invokevirtual 104, 3) := by decide +kernel
theorem d11_stuffed_332 : decode prog_13_method_49_code 332 = .ok (.if_icmp .ne 30, 3) := by decide +kernel
theorem d11_stuffed_335 : decode prog_13_method_49_code 335 = .ok (.aload_n 0, 1) := by decide +kernel
theorem d11_stuffed_336 : decode prog_13_method_49_code 336 = .ok (.getfield 7, 3) := by decide +kernel
theorem d11_stuffed_339 : decode prog_13_method_49_code 339 = .ok (.iload_n 1, 1) := by decide +kernel
theorem d11_stuffed_340 : decode prog_13_method_49_code 340 = .ok (.bipush 20, 2) := by decide +kernel
theorem d11_stuffed_342 : decode prog_13_method_49_code 342 = .ok (.invokestatic 35, 3) := by decide +kernel
theorem d11_stuffed_345 : decode prog_13_method_49_code 345 = .ok (.iaload, 1) := by decide +kernel
theorem d11_stuffed_346 : decode prog_13_method_49_code 346 = .ok (.iconst 5, 1) := by decide +kernel
theorem d11_stuffed_347 : decode prog_13_method_49_code 347 = .ok (.if_icmp .ge 15, 3) := by decide +kernel
theorem d11_stuffed_350 : decode prog_13_method_49_code 350 = .ok (.aload_n 0, 1) := by decide +kernel
theorem d11_stuffed_351 : decode prog_13_method_49_code 351 = .ok (.getfield 7, 3) := by decide +kernel
theorem d11_stuffed_354 : decode prog_13_method_49_code 354 = .ok (.iload_n 1, 1) := by decide +kernel
theorem d11_stuffed_355 : decode prog_13_method_49_code 355 = .ok (.bipush 22, 2) := by decide +kernel
theorem d11_stuffed_357 : decode prog_13_method_49_code 357 = .ok (.invokestatic 35, 3) := by decide +kernel
theorem d11_stuffed_360 : decode prog_13_method_49_code 360 = .ok (.iconst 0, 1) := by decide +kernel
theorem d11_stuffed_361 : decode prog_13_method_49_code 361 = .ok (.iastore, 1) := by decide +kernel
theorem d11_stuffed_362 : decode prog_13_method_49_code 362 = .ok (.return_, 1) := by decide +kernel
theorem d11_tails_0 : decode prog_13_method_50_code 0 = .ok (.aload_n 0, 1) := by decide +kernel
theorem d11_tails_1 : decode prog_13_method_50_code 1 = .ok (.getfield 7, 3) := by decide +kernel
theorem d11_tails_4 : decode prog_13_method_50_code 4 = .ok (.iload_n 1, 1) := by decide +kernel
theorem d11_tails_5 : decode prog_13_method_50_code 5 = .ok (.bipush 22, 2) := by decide +kernel
theorem d11_tails_7 : decode prog_13_method_50_code 7 = .ok (.invokestatic 35, 3) := by decide +kernel
theorem d11_tails_10 : decode prog_13_method_50_code 10 = .ok (.iaload, 1) := by decide +kernel
theorem d11_tails_11 : decode prog_13_method_50_code 11 = .ok (.istore_n 3, 1) := by decide +kernel
theorem d11_tails_12 : decode prog_13_method_50_code 12 = .ok (.aload_n 0, 1) := by decide +kernel
theorem d11_tails_13 : decode prog_13_method_50_code 13 = .ok (.iload_n 1, 1) := by decide +kernel
theorem d11_tails_14 : decode prog_13_method_50_code 14 = .ok (.invokevirtual 110, 3) := by decide +kernel
theorem d11_tails_17 : decode prog_13_method_50_code 17 = .ok (.istore 4, 2) := by decide +kernel
theorem d11_tails_19 : decode prog_13_method_50_code 19 = .ok (.aload_n 0, 1) := by decide +kernel
theorem d11_tails_20 : decode prog_13_method_50_code 20 = .ok (.getfield 7, 3) := by decide +kernel
theorem d11_tails_23 : decode prog_13_method_50_code 23 = .ok (.iload_n 1, 1) := by decide +kernel
theorem d11_tails_24 : decode prog_13_method_50_code 24 = .ok (.bipush 22, 2) := by decide +kernel
theorem d11_tails_26 : decode prog_13_method_50_code 26 = .ok (.invokestatic 35, 3) := by decide +kernel
theorem d11_tails_29 : decode prog_13_method_50_code 29 = .ok (.dup2, 1) := by decide +kernel
theorem d11_tails_30 : decode prog_13_method_50_code 30 = .ok (.iaload, 1) := by decide +kernel
theorem d11_tails_31 : decode prog_13_method_50_code 31 = .ok (.iconst 1, 1) := by decide +kernel
theorem d11_tails_32 : decode prog_13_method_50_code 32 = .ok (.iadd, 1) := by decide +kernel
theorem d11_tails_33 : decode prog_13_method_50_code 33 = .ok (.iastore, 1) := by decide +kernel
theorem d11_tails_34 : decode prog_13_method_50_code 34 = .ok (.iload_n 3, 1) := by decide +kernel
theorem d11_tails_35 : decode prog_13_method_50_code 35 = .ok (.iconst 1, 1) := by decide +kernel
theorem d11_tails_36 : decode prog_13_method_50_code 36 = .ok (.if_icmp .ne 22, 3) := by decide +kernel
theorem d11_tails_39 : decode prog_13_method_50_code 39 = .ok (.iload_n 2, 1) := by decide +kernel
theorem d11_tails_40 : decode prog_13_method_50_code 40 = .ok (.iconst 1, 1) := by decide +kernel
theorem d11_tails_41 : decode prog_13_method_50_code 41 = .ok (.if_icmp .ne 97, 3) := by decide +kernel
theorem d11_tails_44 : decode prog_13_method_50_code 44 = .ok (.iload 4, 2) := by decide +kernel
theorem d11_tails_46 : decode prog_13_method_50_code 46 = .ok (.ifCond .eq 92, 3) := by decide +kernel
theorem d11_tails_49 : decode prog_13_method_50_code 49 = .ok (.aload_n 0, 1) := by decide +kernel
theorem d11_tails_50 : decode prog_13_method_50_code 50 = .ok (.iload_n 1, 1) := by decide +kernel
theorem d11_tails_51 : decode prog_13_method_50_code 51 = .ok (.iconst 5, 1) := by decide +kernel
theorem d11_tails_52 : decode prog_13_method_50_code 52 = .ok (.invokevirtual 150, 3) := by decide +kernel
theorem d11_tails_55 : decode prog_13_method_50_code 55 = .ok (.goto 83, 3) := by decide +kernel
theorem d11_tails_58 : decode prog_13_method_50_code 58 = .ok (.iload_n 3, 1) := by decide +kernel
theorem d11_tails_59 : decode prog_13_method_50_code 59 = .ok (.bipush 9, 2) := by decide +kernel
theorem d11_tails_61 : decode prog_13_method_50_code 61 = .ok (.if_icmp .ne 12, 3) := by decide +kernel
theorem d11_tails_64 : decode prog_13_method_50_code 64 = .ok (.aload_n 0, 1) := by decide +kernel
theorem d11_tails_65 : decode prog_13_method_50_code 65 = .ok (.iload_n 1, 1) := by decide +kernel
theorem d11_tails_66 : decode prog_13_method_50_code 66 = .ok (.iload_n 2, 1) := by decide +kernel
theorem d11_tails_67 : decode prog_13_method_50_code 67 = .ok (.invokevirtual 153, 3) := by decide +kernel
theorem d11_tails_70 : decode prog_13_method_50_code 70 = .ok (.goto 68, 3) := by decide +kernel
theorem d11_tails_73 : decode prog_13_method_50_code 73 = .ok (.iload_n 2, 1) := by decide +kernel
theorem d11_tails_74 : decode prog_13_method_50_code 74 = .ok (.ifCond .ne 21, 3) := by decide +kernel
theorem d11_tails_77 : decode prog_13_method_50_code 77 = .ok (.aload_n 0, 1) := by decide +kernel
theorem d11_tails_78 : decode prog_13_method_50_code 78 = .ok (.iload_n 1, 1) := by decide +kernel
theorem d11_tails_79 : decode prog_13_method_50_code 79 = .ok (.iload 4, 2) := by decide +kernel
theorem d11_tails_81 : decode prog_13_method_50_code 81 = .ok (.ifCond .eq 7, 3) := by decide +kernel
theorem d11_tails_84 : decode prog_13_method_50_code 84 = .ok (.iconst 1, 1) := by decide +kernel
theorem d11_tails_85 : decode prog_13_method_50_code 85 = .ok (.goto 4, 3) := by decide +kernel
theorem d11_tails_88 : decode prog_13_method_50_code 88 = .ok (.iconst 4, 1) := by decide +kernel
theorem d11_tails_89 : decode prog_13_method_50_code 89 = .ok (.invokevirtual 150, 3) := by decide +kernel
theorem d11_tails_92 : decode prog_13_method_50_code 92 = .ok (.goto 46, 3) := by decide +kernel
theorem d11_tails_95 : decode prog_13_method_50_code 95 = .ok (.iload_n 3, 1) := by decide +kernel
theorem d11_tails_96 : decode prog_13_method_50_code 96 = .ok (.iconst 2, 1) := by decide +kernel
theorem d11_tails_97 : decode prog_13_method_50_code 97 = .ok (.if_icmp .ne 25, 3) := by decide +kernel
theorem d11_tails_100 : decode prog_13_method_50_code 100 = .ok (.iload 4, 2) := by decide +kernel
theorem d11_tails_102 : decode prog_13_method_50_code 102 = .ok (.ifCond .ne 20, 3) := by decide +kernel
theorem d11_tails_105 : decode prog_13_method_50_code 105 = .ok (.aload_n 0, 1) := by decide +kernel
theorem d11_tails_106 : decode prog_13_method_50_code 106 = .ok (.iload_n 1, 1) := by decide +kernel
theorem d11_tails_107 : decode prog_13_method_50_code 107 = .ok (.invokevirtual 113, 3) := by decide +kernel
theorem d11_tails_110 : decode prog_13_method_50_code 110 = .ok (.ifCond .ne 12, 3) := by decide +kernel
theorem d11_tails_113 : decode prog_13_method_50_code 113 = .ok (.aload_n 0, 1) := by decide +kernel
theorem d11_tails_114 : decode prog_13_method_50_code 114 = .ok (.iload_n 1, 1) := by decide +kernel
theorem d11_tails_115 : decode prog_13_method_50_code 115 = .ok (.iconst 3, 1) := by decide +kernel
theorem d11_tails_116 : decode prog_13_method_50_code 116 = .ok (.invokevirtual 150, 3) := by decide +kernel
theorem d11_tails_119 : decode prog_13_method_50_code 119 = .ok (.goto 19, 3) := by decide +kernel
theorem d11_tails_122 : decode prog_13_method_50_code 122 = .ok (.iload_n 3, 1) := by decide +kernel
theorem d11_tails_123 : decode prog_13_method_50_code 123 = .ok (.bipush 8, 2) := by decide +kernel
theorem d11_tails_125 : decode prog_13_method_50_code 125 = .ok (.if_icmp .ne 13, 3) := by decide +kernel
theorem d11_tails_128 : decode prog_13_method_50_code 128 = .ok (.iload 4, 2) := by decide +kernel
theorem d11_tails_130 : decode prog_13_method_50_code 130 = .ok (.ifCond .ne 8, 3) := by decide +kernel
theorem d11_tails_133 : decode prog_13_method_50_code 133 = .ok (.aload_n 0, 1) := by decide +kernel
theorem d11_tails_134 : decode prog_13_method_50_code 134 = .ok (.iload_n 1, 1) := by decide +kernel
theorem d11_tails_135 : decode prog_13_method_50_code 135 = .ok (.invokevirtual 156, 3) := by decide +kernel
theorem d11_tails_138 : decode prog_13_method_50_code 138 = .ok (.return_, 1) := by decide +kernel
theorem d11_ends_0 : decode prog_13_method_51_code 0 = .ok (.iload_n 2, 1) := by decide +kernel
theorem d11_ends_1 : decode prog_13_method_51_code 1 = .ok (.ifCond .ne 28, 3) := by decide +kernel
theorem d11_ends_4 : decode prog_13_method_51_code 4 = .ok (.aload_n 0, 1) := by decide +kernel
theorem d11_ends_5 : decode prog_13_method_51_code 5 = .ok (.iload_n 1, 1) := by decide +kernel
theorem d11_ends_6 : decode prog_13_method_51_code 6 = .ok (.invokevirtual 110, 3) := by decide +kernel
theorem d11_ends_9 : decode prog_13_method_51_code 9 = .ok (.ifCond .eq 12, 3) := by decide +kernel
theorem d11_ends_12 : decode prog_13_method_51_code 12 = .ok (.aload_n 0, 1) := by decide +kernel
theorem d11_ends_13 : decode prog_13_method_51_code 13 = .ok (.iload_n 1, 1) := by decide +kernel
theorem d11_ends_14 : decode prog_13_method_51_code 14 = .ok (.iconst 1, 1) := by decide +kernel
theorem d11_ends_15 : decode prog_13_method_51_code 15 = .ok (.invokevirtual 150, 3) := by decide +kernel
theorem d11_ends_18 : decode prog_13_method_51_code 18 = .ok (.goto 10, 3) := by decide +kernel
theorem d11_ends_21 : decode prog_13_method_51_code 21 = .ok (.aload_n 0, 1) := by decide +kernel
theorem d11_ends_22 : decode prog_13_method_51_code 22 = .ok (.iload_n 1, 1) := by decide +kernel
theorem d11_ends_23 : decode prog_13_method_51_code 23 = .ok (.bipush 6, 2) := by decide +kernel
theorem d11_ends_25 : decode prog_13_method_51_code 25 = .ok (.invokevirtual 84, 3) := by decide +kernel
theorem d11_ends_28 : decode prog_13_method_51_code 28 = .ok (.return_, 1) := by decide +kernel
theorem d11_ends_29 : decode prog_13_method_51_code 29 = .ok (.aload_n 0, 1) := by decide +kernel
theorem d11_ends_30 : decode prog_13_method_51_code 30 = .ok (.iload_n 1, 1) := by decide +kernel
theorem d11_ends_31 : decode prog_13_method_51_code 31 = .ok (.invokevirtual 110, 3) := by decide +kernel
theorem d11_ends_34 : decode prog_13_method_51_code 34 = .ok (.ifCond .eq 77, 3) := by decide +kernel
theorem d11_ends_37 : decode prog_13_method_51_code 37 = .ok (.iconst 0, 1) := by decide +kernel
theorem d11_ends_38 : decode prog_13_method_51_code 38 = .ok (.istore_n 3, 1) := by decide +kernel
theorem d11_ends_39 : decode prog_13_method_51_code 39 = .ok (.aload_n 0, 1) := by decide +kernel
theorem d11_ends_40 : decode prog_13_method_51_code 40 = .ok (.getfield 7, 3) := by decide +kernel
theorem d11_ends_43 : decode prog_13_method_51_code 43 = .ok (.iload_n 1, 1) := by decide +kernel
theorem d11_ends_44 : decode prog_13_method_51_code 44 = .ok (.iload_n 3, 1) := by decide +kernel
theorem d11_ends_45 : decode prog_13_method_51_code 45 = .ok (.iconst 4, 1) := by decide +kernel
theorem d11_ends_46 : decode prog_13_method_51_code 46 = .ok (.invokestatic 81, 3) := by decide +kernel
theorem d11_ends_49 : decode prog_13_method_51_code 49 = .ok (.iaload, 1) := by decide +kernel
theorem d11_ends_50 : decode prog_13_method_51_code 50 = .ok (.ifCond .ne 9, 3) := by decide +kernel
theorem d11_ends_53 : decode prog_13_method_51_code 53 = .ok (.iinc 3 1, 3) := by decide +kernel
theorem d11_ends_56 : decode prog_13_method_51_code 56 = .ok (.goto (-17), 3) := by decide +kernel
theorem d11_ends_59 : decode prog_13_method_51_code 59 = .ok (.aload_n 0, 1) := by decide +kernel
theorem d11_ends_60 : decode prog_13_method_51_code 60 = .ok (.iload_n 1, 1) := by decide +kernel
theorem d11_ends_61 : decode prog_13_method_51_code 61 = .ok (.iload_n 3, 1) := by decide +kernel
theorem d11_ends_62 : decode prog_13_method_51_code 62 = .ok (.invokevirtual 95, 3) := by decide +kernel
theorem d11_ends_65 : decode prog_13_method_51_code 65 = .ok (.aload_n 0, 1) := by decide +kernel
theorem d11_ends_66 : decode prog_13_method_51_code 66 = .ok (.getfield 7, 3) := by decide +kernel
theorem d11_ends_69 : decode prog_13_method_51_code 69 = .ok (.iload_n 1, 1) := by decide +kernel
theorem d11_ends_70 : decode prog_13_method_51_code 70 = .ok (.bipush 14, 2) := by decide +kernel
theorem d11_ends_72 : decode prog_13_method_51_code 72 = .ok (.invokestatic 35, 3) := by decide +kernel
theorem d11_ends_75 : decode prog_13_method_51_code 75 = .ok (.dup2, 1) := by decide +kernel
theorem d11_ends_76 : decode prog_13_method_51_code 76 = .ok (.iaload, 1) := by decide +kernel
theorem d11_ends_77 : decode prog_13_method_51_code 77 = .ok (.iconst 1, 1) := by decide +kernel
theorem d11_ends_78 : decode prog_13_method_51_code 78 = .ok (.iadd, 1) := by decide +kernel
theorem d11_ends_79 : decode prog_13_method_51_code 79 = .ok (.iastore, 1) := by decide +kernel
theorem d11_ends_80 : decode prog_13_method_51_code 80 = .ok (.aload_n 0, 1) := by decide +kernel
theorem d11_ends_81 : decode prog_13_method_51_code 81 = .ok (.getfield 7, 3) := by decide +kernel
theorem d11_ends_84 : decode prog_13_method_51_code 84 = .ok (.iload_n 1, 1) := by decide +kernel
theorem d11_ends_85 : decode prog_13_method_51_code 85 = .ok (.iconst 4, 1) := by decide +kernel
theorem d11_ends_86 : decode prog_13_method_51_code 86 = .ok (.invokestatic 35, 3) := by decide +kernel
theorem d11_ends_89 : decode prog_13_method_51_code 89 = .ok (.dup2, 1) := by decide +kernel
theorem d11_ends_90 : decode prog_13_method_51_code 90 = .ok (.iaload, 1) := by decide +kernel
theorem d11_ends_91 : decode prog_13_method_51_code 91 = .ok (.aload_n 0, 1) := by decide +kernel
theorem d11_ends_92 : decode prog_13_method_51_code 92 = .ok (.getfield 7, 3) := by decide +kernel
theorem d11_ends_95 : decode prog_13_method_51_code 95 = .ok (.iload_n 1, 1) := by decide +kernel
theorem d11_ends_96 : decode prog_13_method_51_code 96 = .ok (.iconst 4, 1) := by decide +kernel
theorem d11_ends_97 : decode prog_13_method_51_code 97 = .ok (.invokestatic 35, 3) := by decide +kernel
theorem d11_ends_100 : decode prog_13_method_51_code 100 = .ok (.iaload, 1) := by decide +kernel
theorem d11_ends_101 : decode prog_13_method_51_code 101 = .ok (.ifCond .le 7, 3) := by decide +kernel
theorem d11_ends_104 : decode prog_13_method_51_code 104 = .ok (.iconst 1, 1) := by decide +kernel
theorem d11_ends_105 : decode prog_13_method_51_code 105 = .ok (.goto 4, 3) := by decide +kernel
theorem d11_ends_108 : decode prog_13_method_51_code 108 = .ok (.iconst 0, 1) := by decide +kernel
theorem d11_ends_109 : decode prog_13_method_51_code 109 = .ok (.isub, 1) := by decide +kernel
theorem d11_ends_110 : decode prog_13_method_51_code 110 = .ok (.iastore, 1) := by decide +kernel
theorem d11_ends_111 : decode prog_13_method_51_code 111 = .ok (.aload_n 0, 1) := by decide +kernel
theorem d11_ends_112 : decode prog_13_method_51_code 112 = .ok (.iload_n 1, 1) := by decide +kernel
theorem d11_ends_113 : decode prog_13_method_51_code 113 = .ok (.bipush 8, 2) := by decide +kernel
theorem d11_ends_115 : decode prog_13_method_51_code 115 = .ok (.invokevirtual 84, 3) := by decide +kernel
theorem d11_ends_118 : decode prog_13_method_51_code 118 = .ok (.return_, 1) := by decide +kernel
theorem d11_accepts_0 : decode prog_13_method_52_code 0 = .ok (.aload_n 0, 1) := by decide +kernel
theorem d11_accepts_1 : decode prog_13_method_52_code 1 = .ok (.getfield 7, 3) := by decide +kernel
theorem d11_accepts_4 : decode prog_13_method_52_code 4 = .ok (.iload_n 1, 1) := by decide +kernel
theorem d11_accepts_5 : decode prog_13_method_52_code 5 = .ok (.iconst 5, 1) := by decide +kernel
theorem d11_accepts_6 : decode prog_13_method_52_code 6 = .ok (.invokestatic 35, 3) := by decide +kernel
theorem d11_accepts_9 : decode prog_13_method_52_code 9 = .ok (.iaload, 1) := by decide +kernel
theorem d11_accepts_10 : decode prog_13_method_52_code 10 = .ok (.istore_n 2, 1) := by decide +kernel
theorem d11_accepts_11 : decode prog_13_method_52_code 11 = .ok (.aload_n 0, 1) := by decide +kernel
theorem d11_accepts_12 : decode prog_13_method_52_code 12 = .ok (.getfield 7, 3) := by decide +kernel
theorem d11_accepts_15 : decode prog_13_method_52_code 15 = .ok (.iload_n 1, 1) := by decide +kernel
theorem d11_accepts_16 : decode prog_13_method_52_code 16 = .ok (.iconst 5, 1) := by decide +kernel
theorem d11_accepts_17 : decode prog_13_method_52_code 17 = .ok (.invokestatic 35, 3) := by decide +kernel
theorem d11_accepts_20 : decode prog_13_method_52_code 20 = .ok (.iload_n 2, 1) := by decide +kernel
theorem d11_accepts_21 : decode prog_13_method_52_code 21 = .ok (.aload_n 0, 1) := by decide +kernel
theorem d11_accepts_22 : decode prog_13_method_52_code 22 = .ok (.getfield 7, 3) := by decide +kernel
theorem d11_accepts_25 : decode prog_13_method_52_code 25 = .ok (.sipush 1025, 3) := by decide +kernel
theorem d11_accepts_28 : decode prog_13_method_52_code 28 = .ok (.iaload, 1) := by decide +kernel
theorem d11_accepts_29 : decode prog_13_method_52_code 29 = .ok (.if_icmp .lt 17, 3) := by decide +kernel
theorem d11_accepts_32 : decode prog_13_method_52_code 32 = .ok (.aload_n 0, 1) := by decide +kernel
theorem d11_accepts_33 : decode prog_13_method_52_code 33 = .ok (.getfield 7, 3) := by decide +kernel
theorem d11_accepts_36 : decode prog_13_method_52_code 36 = .ok (.sipush 1025, 3) := by decide +kernel
theorem d11_accepts_39 : decode prog_13_method_52_code 39 = .ok (.iaload, 1) := by decide +kernel
theorem d11_accepts_40 : decode prog_13_method_52_code 40 = .ok (.bipush 8, 2) := by decide +kernel
theorem d11_accepts_42 : decode prog_13_method_52_code 42 = .ok (.isub, 1) := by decide +kernel
theorem d11_accepts_43 : decode prog_13_method_52_code 43 = .ok (.goto 14, 3) := by decide +kernel
theorem d11_accepts_46 : decode prog_13_method_52_code 46 = .ok (.iload_n 2, 1) := by decide +kernel
theorem d11_accepts_47 : decode prog_13_method_52_code 47 = .ok (.ifCond .le 9, 3) := by decide +kernel
theorem d11_accepts_50 : decode prog_13_method_52_code 50 = .ok (.iload_n 2, 1) := by decide +kernel
theorem d11_accepts_51 : decode prog_13_method_52_code 51 = .ok (.iconst 1, 1) := by decide +kernel
theorem d11_accepts_52 : decode prog_13_method_52_code 52 = .ok (.isub, 1) := by decide +kernel
theorem d11_accepts_53 : decode prog_13_method_52_code 53 = .ok (.goto 4, 3) := by decide +kernel
theorem d11_accepts_56 : decode prog_13_method_52_code 56 = .ok (.iconst 0, 1) := by decide +kernel
theorem d11_accepts_57 : decode prog_13_method_52_code 57 = .ok (.iastore, 1) := by decide +kernel
theorem d11_accepts_58 : decode prog_13_method_52_code 58 = .ok (.aload_n 0, 1) := by decide +kernel
theorem d11_accepts_59 : decode prog_13_method_52_code 59 = .ok (.iload_n 1, 1) := by decide +kernel
theorem d11_accepts_60 : decode prog_13_method_52_code 60 = .ok (.iconst 1, 1) := by decide +kernel
theorem d11_accepts_61 : decode prog_13_method_52_code 61 = .ok (.bipush 11, 2) := by decide +kernel
theorem d11_accepts_63 : decode prog_13_method_52_code 63 = .ok (.invokevirtual 101, 3) := by decide +kernel
theorem d11_accepts_66 : decode prog_13_method_52_code 66 = .ok (.istore_n 3, 1) := by decide +kernel
theorem d11_accepts_67 : decode prog_13_method_52_code 67 = .ok (.iload_n 3, 1) := by decide +kernel
theorem d11_accepts_68 : decode prog_13_method_52_code 68 = .ok (.aload_n 0, 1) := by decide +kernel
theorem d11_accepts_69 : decode prog_13_method_52_code 69 = .ok (.getfield 7, 3) := by decide +kernel
theorem d11_accepts_72 : decode prog_13_method_52_code 72 = .ok (.iload_n 1, 1) := by decide +kernel
theorem d11_accepts_73 : decode prog_13_method_52_code 73 = .ok (.bipush 17, 2) := by decide +kernel
theorem d11_accepts_75 : decode prog_13_method_52_code 75 = .ok (.invokestatic 35, 3) := by decide +kernel
theorem d11_accepts_78 : decode prog_13_method_52_code 78 = .ok (.iaload, 1) := by decide +kernel
theorem d11_accepts_79 : decode prog_13_method_52_code 79 = .ok (.ixor, 1) := by decide +kernel
theorem d11_accepts_80 : decode prog_13_method_52_code 80 = .ok (.aload_n 0, 1) := by decide +kernel
theorem d11_accepts_81 : decode prog_13_method_52_code 81 = .ok (.getfield 7, 3) := by decide +kernel
theorem d11_accepts_84 : decode prog_13_method_52_code 84 = .ok (.iload_n 1, 1) := by decide +kernel
theorem d11_accepts_85 : decode prog_13_method_52_code 85 = .ok (.bipush 16, 2) := by decide +kernel
theorem d11_accepts_87 : decode prog_13_method_52_code 87 = .ok (.invokestatic 35, 3) := by decide +kernel
theorem d11_accepts_90 : decode prog_13_method_52_code 90 = .ok (.iaload, 1) := by decide +kernel
theorem d11_accepts_91 : decode prog_13_method_52_code 91 = .ok (.iand, 1) := by decide +kernel
theorem d11_accepts_92 : decode prog_13_method_52_code 92 = .ok (.ifCond .eq 4, 3) := by decide +kernel
theorem d11_accepts_95 : decode prog_13_method_52_code 95 = .ok (.return_, 1) := by decide +kernel
theorem d11_accepts_96 : decode prog_13_method_52_code 96 = .ok (.aload_n 0, 1) := by decide +kernel
theorem d11_accepts_97 : decode prog_13_method_52_code 97 = .ok (.getfield 7, 3) := by decide +kernel
theorem d11_accepts_100 : decode prog_13_method_52_code 100 = .ok (.iload_n 1, 1) := by decide +kernel
theorem d11_accepts_101 : decode prog_13_method_52_code 101 = .ok (.bipush 102, 2) := by decide +kernel
theorem d11_accepts_103 : decode prog_13_method_52_code 103 = .ok (.invokestatic 35, 3) := by decide +kernel
theorem d11_accepts_106 : decode prog_13_method_52_code 106 = .ok (.iaload, 1) := by decide +kernel
theorem d11_accepts_107 : decode prog_13_method_52_code 107 = .ok (.istore 4, 2) := by decide +kernel
theorem d11_accepts_109 : decode prog_13_method_52_code 109 = .ok (.iload 4, 2) := by decide +kernel
theorem d11_accepts_111 : decode prog_13_method_52_code 111 = .ok (.iconst 1, 1) := by decide +kernel
theorem d11_accepts_112 : decode prog_13_method_52_code 112 = .ok (.if_icmp .ne 12, 3) := by decide +kernel
theorem d11_accepts_115 : decode prog_13_method_52_code 115 = .ok (.aload_n 0, 1) := by decide +kernel
theorem d11_accepts_116 : decode prog_13_method_52_code 116 = .ok (.iload_n 1, 1) := by decide +kernel
theorem d11_accepts_117 : decode prog_13_method_52_code 117 = .ok (.iload_n 3, 1) := by decide +kernel
theorem d11_accepts_118 : decode prog_13_method_52_code 118 = .ok (.invokevirtual 74, 3) := by decide +kernel
theorem d11_accepts_121 : decode prog_13_method_52_code 121 = .ok (.goto 4, 3) := by decide +kernel
theorem d11_accepts_124 : decode prog_13_method_52_code 124 = .ok (.iconst (-1), 1) := by decide +kernel
theorem d11_accepts_125 : decode prog_13_method_52_code 125 = .ok (.istore 5, 2) := by decide +kernel
theorem d11_accepts_127 : decode prog_13_method_52_code 127 = .ok (.iload 5, 2) := by decide +kernel
theorem d11_accepts_129 : decode prog_13_method_52_code 129 = .ok (.ifCond .lt 43, 3) := by decide +kernel
theorem d11_accepts_132 : decode prog_13_method_52_code 132 = .ok (.aload_n 0, 1) := by decide +kernel
theorem d11_accepts_133 : decode prog_13_method_52_code 133 = .ok (.iload_n 1, 1) := by decide +kernel
theorem d11_accepts_134 : decode prog_13_method_52_code 134 = .ok (.invokevirtual 88, 3) := by decide +kernel
theorem d11_accepts_137 : decode prog_13_method_52_code 137 = .ok (.ifCond .eq 34, 3) := by decide +kernel
theorem d11_accepts_140 : decode prog_13_method_52_code 140 = .ok (.aload_n 0, 1) := by decide +kernel
theorem d11_accepts_141 : decode prog_13_method_52_code 141 = .ok (.iload_n 1, 1) := by decide +kernel
theorem d11_accepts_142 : decode prog_13_method_52_code 142 = .ok (.iload_n 3, 1) := by decide +kernel
theorem d11_accepts_143 : decode prog_13_method_52_code 143 = .ok (.iconst 0, 1) := by decide +kernel
theorem d11_accepts_144 : decode prog_13_method_52_code 144 = .ok (.aload_n 0, 1) := by decide +kernel
theorem d11_accepts_145 : decode prog_13_method_52_code 145 = .ok (.getfield 7, 3) := by decide +kernel
theorem d11_accepts_148 : decode prog_13_method_52_code 148 = .ok (.iload_n 1, 1) := by decide +kernel
theorem d11_accepts_149 : decode prog_13_method_52_code 149 = .ok (.iload 5, 2) := by decide +kernel
theorem d11_accepts_151 : decode prog_13_method_52_code 151 = .ok (.iconst 1, 1) := by decide +kernel
theorem d11_accepts_152 : decode prog_13_method_52_code 152 = .ok (.invokestatic 70, 3) := by decide +kernel
theorem d11_accepts_155 : decode prog_13_method_52_code 155 = .ok (.iaload, 1) := by decide +kernel
theorem d11_accepts_156 : decode prog_13_method_52_code 156 = .ok (.aload_n 0, 1) := by decide +kernel
theorem d11_accepts_157 : decode prog_13_method_52_code 157 = .ok (.getfield 7, 3) := by decide +kernel
theorem d11_accepts_160 : decode prog_13_method_52_code 160 = .ok (.iload_n 1, 1) := by decide +kernel
theorem d11_accepts_161 : decode prog_13_method_52_code 161 = .ok (.iload 5, 2) := by decide +kernel
theorem d11_accepts_163 : decode prog_13_method_52_code 163 = .ok (.iconst 2, 1) := by decide +kernel
theorem d11_accepts_164 : decode prog_13_method_52_code 164 = .ok (.invokestatic 70, 3) := by decide +kernel
theorem d11_accepts_167 : decode prog_13_method_52_code 167 = .ok (.iaload, 1) := by decide +kernel
theorem d11_accepts_168 : decode prog_13_method_52_code 168 = .ok (.invokevirtual 91, 3) := by decide +kernel
theorem d11_accepts_171 : decode prog_13_method_52_code 171 = .ok (.return_, 1) := by decide +kernel
theorem d11_accepts_172 : decode prog_13_method_52_code 172 = .ok (.aload_n 0, 1) := by decide +kernel
theorem d11_accepts_173 : decode prog_13_method_52_code 173 = .ok (.getfield 7, 3) := by decide +kernel
theorem d11_accepts_176 : decode prog_13_method_52_code 176 = .ok (.iload_n 1, 1) := by decide +kernel
theorem d11_accepts_177 : decode prog_13_method_52_code 177 = .ok (.bipush 24, 2) := by decide +kernel
theorem d11_accepts_179 : decode prog_13_method_52_code 179 = .ok (.invokestatic 35, 3) := by decide +kernel
theorem d11_accepts_182 : decode prog_13_method_52_code 182 = .ok (.iaload, 1) := by decide +kernel
theorem d11_accepts_183 : decode prog_13_method_52_code 183 = .ok (.istore 6, 2) := by decide +kernel
theorem d11_accepts_185 : decode prog_13_method_52_code 185 = .ok (.iload 6, 2) := by decide +kernel
theorem d11_accepts_187 : decode prog_13_method_52_code 187 = .ok (.bipush 6, 2) := by decide +kernel
theorem d11_accepts_189 : decode prog_13_method_52_code 189 = .ok (.if_icmp .ne 19, 3) := by decide +kernel
theorem d11_accepts_192 : decode prog_13_method_52_code 192 = .ok (.aload_n 0, 1) := by decide +kernel
theorem d11_accepts_193 : decode prog_13_method_52_code 193 = .ok (.getfield 7, 3) := by decide +kernel
theorem d11_accepts_196 : decode prog_13_method_52_code 196 = .ok (.iload_n 1, 1) := by decide +kernel
theorem d11_accepts_197 : decode prog_13_method_52_code 197 = .ok (.bipush 15, 2) := by decide +kernel
theorem d11_accepts_199 : decode prog_13_method_52_code 199 = .ok (.invokestatic 35, 3) := by decide +kernel
theorem d11_accepts_202 : decode prog_13_method_52_code 202 = .ok (.dup2, 1) := by decide +kernel
theorem d11_accepts_203 : decode prog_13_method_52_code 203 = .ok (.iaload, 1) := by decide +kernel
theorem d11_accepts_204 : decode prog_13_method_52_code 204 = .ok (.iconst 1, 1) := by decide +kernel
theorem d11_accepts_205 : decode prog_13_method_52_code 205 = .ok (.iadd, 1) := by decide +kernel
theorem d11_accepts_206 : decode prog_13_method_52_code 206 = .ok (.iastore, 1) := by decide +kernel
theorem d11_accepts_207 : decode prog_13_method_52_code 207 = .ok (.return_, 1) := by decide +kernel
theorem d11_accepts_208 : decode prog_13_method_52_code 208 = .ok (.aload_n 0, 1) := by decide +kernel
theorem d11_accepts_209 : decode prog_13_method_52_code 209 = .ok (.getfield 7, 3) := by decide +kernel
theorem d11_accepts_212 : decode prog_13_method_52_code 212 = .ok (.iload_n 1, 1) := by decide +kernel
theorem d11_accepts_213 : decode prog_13_method_52_code 213 = .ok (.iload 6, 2) := by decide +kernel
theorem d11_accepts_215 : decode prog_13_method_52_code 215 = .ok (.iconst 0, 1) := by decide +kernel
theorem d11_accepts_216 : decode prog_13_method_52_code 216 = .ok (.invokestatic 159, 3) := by decide +kernel
theorem d11_accepts_219 : decode prog_13_method_52_code 219 = .ok (.iload_n 3, 1) := by decide +kernel
theorem d11_accepts_220 : decode prog_13_method_52_code 220 = .ok (.iastore, 1) := by decide +kernel
theorem d11_accepts_221 : decode prog_13_method_52_code 221 = .ok (.aload_n 0, 1) := by decide +kernel
theorem d11_accepts_222 : decode prog_13_method_52_code 222 = .ok (.getfield 7, 3) := by decide +kernel
theorem d11_accepts_225 : decode prog_13_method_52_code 225 = .ok (.iload_n 1, 1) := by decide +kernel
theorem d11_accepts_226 : decode prog_13_method_52_code 226 = .ok (.iload 6, 2) := by decide +kernel
theorem d11_accepts_228 : decode prog_13_method_52_code 228 = .ok (.iconst 1, 1) := by decide +kernel
theorem d11_accepts_229 : decode prog_13_method_52_code 229 = .ok (.invokestatic 159, 3) := by decide +kernel
theorem d11_accepts_232 : decode prog_13_method_52_code 232 = .ok (.iload 4, 2) := by decide +kernel
theorem d11_accepts_234 : decode prog_13_method_52_code 234 = .ok (.iastore, 1) := by decide +kernel
theorem d11_accepts_235 : decode prog_13_method_52_code 235 = .ok (.aload_n 0, 1) := by decide +kernel
theorem d11_accepts_236 : decode prog_13_method_52_code 236 = .ok (.getfield 7, 3) := by decide +kernel
theorem d11_accepts_239 : decode prog_13_method_52_code 239 = .ok (.iload_n 1, 1) := by decide +kernel
theorem d11_accepts_240 : decode prog_13_method_52_code 240 = .ok (.iload 6, 2) := by decide +kernel
theorem d11_accepts_242 : decode prog_13_method_52_code 242 = .ok (.iconst 2, 1) := by decide +kernel
theorem d11_accepts_243 : decode prog_13_method_52_code 243 = .ok (.invokestatic 159, 3) := by decide +kernel
theorem d11_accepts_246 : decode prog_13_method_52_code 246 = .ok (.aload_n 0, 1) := by decide +kernel
theorem d11_accepts_247 : decode prog_13_method_52_code 247 = .ok (.iload_n 1, 1) := by decide +kernel
theorem d11_accepts_248 : decode prog_13_method_52_code 248 = .ok (.invokevirtual 98, 3) := by decide +kernel
theorem d11_accepts_251 : decode prog_13_method_52_code 251 = .ok (.iastore, 1) := by decide +kernel
theorem d11_accepts_252 : decode prog_13_method_52_code 252 = .ok (.aload_n 0, 1) := by decide +kernel
theorem d11_accepts_253 : decode prog_13_method_52_code 253 = .ok (.getfield 7, 3) := by decide +kernel
theorem d11_accepts_256 : decode prog_13_method_52_code 256 = .ok (.iload_n 1, 1) := by decide +kernel
theorem d11_accepts_257 : decode prog_13_method_52_code 257 = .ok (.iload 6, 2) := by decide +kernel
theorem d11_accepts_259 : decode prog_13_method_52_code 259 = .ok (.iconst 3, 1) := by decide +kernel
theorem d11_accepts_260 : decode prog_13_method_52_code 260 = .ok (.invokestatic 159, 3) := by decide +kernel
theorem d11_accepts_263 : decode prog_13_method_52_code 263 = .ok (.iload 4, 2) := by decide +kernel
theorem d11_accepts_265 : decode prog_13_method_52_code 265 = .ok (.iconst 1, 1) := by decide +kernel
theorem d11_accepts_266 : decode prog_13_method_52_code 266 = .ok (.if_icmp .ne 7, 3) := by decide +kernel
theorem d11_accepts_269 : decode prog_13_method_52_code 269 = .ok (.iconst 0, 1) := by decide +kernel
theorem d11_accepts_270 : decode prog_13_method_52_code 270 = .ok (.goto 18, 3) := by decide +kernel
theorem d11_accepts_273 : decode prog_13_method_52_code 273 = .ok (.aload_n 0, 1) := by decide +kernel
theorem d11_accepts_274 : decode prog_13_method_52_code 274 = .ok (.iload_n 1, 1) := by decide +kernel
theorem d11_accepts_275 : decode prog_13_method_52_code 275 = .ok (.bipush 19, 2) := by decide +kernel
theorem d11_accepts_277 : decode prog_13_method_52_code 277 = .ok (.bipush 8, 2) := by decide +kernel
theorem d11_accepts_279 : decode prog_13_method_52_code 279 = .ok (.aload_n 0, 1) := by decide +kernel
theorem d11_accepts_280 : decode prog_13_method_52_code 280 = .ok (.iload_n 1, 1) := by decide +kernel
theorem d11_accepts_281 : decode prog_13_method_52_code 281 = .ok (.invokevirtual 98, 3) := by decide +kernel
theorem d11_accepts_284 : decode prog_13_method_52_code 284 = .ok (.imul, 1) := by decide +kernel
theorem d11_accepts_285 : decode prog_13_method_52_code 285 = .ok (.invokevirtual 101, 3) := by decide +kernel
theorem d11_accepts_288 : decode prog_13_method_52_code 288 = .ok (.iastore, 1) := by decide +kernel
theorem d11_accepts_289 : decode prog_13_method_52_code 289 = .ok (.aload_n 0, 1) := by decide +kernel
theorem d11_accepts_290 : decode prog_13_method_52_code 290 = .ok (.getfield 7, 3) := by decide +kernel
theorem d11_accepts_293 : decode prog_13_method_52_code 293 = .ok (.iload_n 1, 1) := by decide +kernel
theorem d11_accepts_294 : decode prog_13_method_52_code 294 = .ok (.bipush 24, 2) := by decide +kernel
theorem d11_accepts_296 : decode prog_13_method_52_code 296 = .ok (.invokestatic 35, 3) := by decide +kernel
theorem d11_accepts_299 : decode prog_13_method_52_code 299 = .ok (.dup2, 1) := by decide +kernel
theorem d11_accepts_300 : decode prog_13_method_52_code 300 = .ok (.iaload, 1) := by decide +kernel
theorem d11_accepts_301 : decode prog_13_method_52_code 301 = .ok (.iconst 1, 1) := by decide +kernel
theorem d11_accepts_302 : decode prog_13_method_52_code 302 = .ok (.iadd, 1) := by decide +kernel
theorem d11_accepts_303 : decode prog_13_method_52_code 303 = .ok (.iastore, 1) := by decide +kernel
theorem d11_accepts_304 : decode prog_13_method_52_code 304 = .ok (.return_, 1) := by decide +kernel
theorem d11_flags_0 : decode prog_13_method_53_code 0 = .ok (.aload_n 0, 1) := by decide +kernel
theorem d11_flags_1 : decode prog_13_method_53_code 1 = .ok (.getfield 7, 3) := by decide +kernel
theorem d11_flags_4 : decode prog_13_method_53_code 4 = .ok (.iload_n 1, 1) := by decide +kernel
theorem d11_flags_5 : decode prog_13_method_53_code 5 = .ok (.iconst 2, 1) := by decide +kernel
theorem d11_flags_6 : decode prog_13_method_53_code 6 = .ok (.invokestatic 35, 3) := by decide +kernel
theorem d11_flags_9 : decode prog_13_method_53_code 9 = .ok (.dup2, 1) := by decide +kernel
theorem d11_flags_10 : decode prog_13_method_53_code 10 = .ok (.iaload, 1) := by decide +kernel
theorem d11_flags_11 : decode prog_13_method_53_code 11 = .ok (.iconst 1, 1) := by decide +kernel
theorem d11_flags_12 : decode prog_13_method_53_code 12 = .ok (.iadd, 1) := by decide +kernel
theorem d11_flags_13 : decode prog_13_method_53_code 13 = .ok (.iastore, 1) := by decide +kernel
theorem d11_flags_14 : decode prog_13_method_53_code 14 = .ok (.aload_n 0, 1) := by decide +kernel
theorem d11_flags_15 : decode prog_13_method_53_code 15 = .ok (.getfield 7, 3) := by decide +kernel
theorem d11_flags_18 : decode prog_13_method_53_code 18 = .ok (.iload_n 1, 1) := by decide +kernel
theorem d11_flags_19 : decode prog_13_method_53_code 19 = .ok (.iconst 2, 1) := by decide +kernel
theorem d11_flags_20 : decode prog_13_method_53_code 20 = .ok (.invokestatic 35, 3) := by decide +kernel
theorem d11_flags_23 : decode prog_13_method_53_code 23 = .ok (.iaload, 1) := by decide +kernel
theorem d11_flags_24 : decode prog_13_method_53_code 24 = .ok (.bipush 6, 2) := by decide +kernel
theorem d11_flags_26 : decode prog_13_method_53_code 26 = .ok (.if_icmp .ne 41, 3) := by decide +kernel
theorem d11_flags_29 : decode prog_13_method_53_code 29 = .ok (.aload_n 0, 1) := by decide +kernel
theorem d11_flags_30 : decode prog_13_method_53_code 30 = .ok (.getfield 7, 3) := by decide +kernel
theorem d11_flags_33 : decode prog_13_method_53_code 33 = .ok (.iload_n 1, 1) := by decide +kernel
theorem d11_flags_34 : decode prog_13_method_53_code 34 = .ok (.iconst 0, 1) := by decide +kernel
theorem d11_flags_35 : decode prog_13_method_53_code 35 = .ok (.invokestatic 35, 3) := by decide +kernel
theorem d11_flags_38 : decode prog_13_method_53_code 38 = .ok (.iaload, 1) := by decide +kernel
theorem d11_flags_39 : decode prog_13_method_53_code 39 = .ok (.iconst 5, 1) := by decide +kernel
theorem d11_flags_40 : decode prog_13_method_53_code 40 = .ok (.if_icmp .ne 7, 3) := by decide +kernel
theorem d11_flags_43 : decode prog_13_method_53_code 43 = .ok (.iconst 1, 1) := by decide +kernel
theorem d11_flags_44 : decode prog_13_method_53_code 44 = .ok (.goto 4, 3) := by decide +kernel
theorem d11_flags_47 : decode prog_13_method_53_code 47 = .ok (.iconst 0, 1) := by decide +kernel
theorem d11_flags_48 : decode prog_13_method_53_code 48 = .ok (.istore_n 2, 1) := by decide +kernel
theorem d11_flags_49 : decode prog_13_method_53_code 49 = .ok (.aload_n 0, 1) := by decide +kernel
theorem d11_flags_50 : decode prog_13_method_53_code 50 = .ok (.iload_n 1, 1) := by decide +kernel
theorem d11_flags_51 : decode prog_13_method_53_code 51 = .ok (.bipush 7, 2) := by decide +kernel
theorem d11_flags_53 : decode prog_13_method_53_code 53 = .ok (.invokevirtual 84, 3) := by decide +kernel
theorem d11_flags_56 : decode prog_13_method_53_code 56 = .ok (.aload_n 0, 1) := by decide +kernel
theorem d11_flags_57 : decode prog_13_method_53_code 57 = .ok (.getfield 7, 3) := by decide +kernel
theorem d11_flags_60 : decode prog_13_method_53_code 60 = .ok (.iload_n 1, 1) := by decide +kernel
theorem d11_flags_61 : decode prog_13_method_53_code 61 = .ok (.iconst 3, 1) := by decide +kernel
theorem d11_flags_62 : decode prog_13_method_53_code 62 = .ok (.invokestatic 35, 3) := by decide +kernel
theorem d11_flags_65 : decode prog_13_method_53_code 65 = .ok (.iload_n 2, 1) := by decide +kernel
theorem d11_flags_66 : decode prog_13_method_53_code 66 = .ok (.iastore, 1) := by decide +kernel
theorem d11_flags_67 : decode prog_13_method_53_code 67 = .ok (.return_, 1) := by decide +kernel
theorem d11_delimits_0 : decode prog_13_method_54_code 0 = .ok (.aload_n 0, 1) := by decide +kernel
theorem d11_delimits_1 : decode prog_13_method_54_code 1 = .ok (.getfield 7, 3) := by decide +kernel
theorem d11_delimits_4 : decode prog_13_method_54_code 4 = .ok (.iload_n 1, 1) := by decide +kernel
theorem d11_delimits_5 : decode prog_13_method_54_code 5 = .ok (.iconst 2, 1) := by decide +kernel
theorem d11_delimits_6 : decode prog_13_method_54_code 6 = .ok (.invokestatic 35, 3) := by decide +kernel
theorem d11_delimits_9 : decode prog_13_method_54_code 9 = .ok (.iaload, 1) := by decide +kernel
theorem d11_delimits_10 : decode prog_13_method_54_code 10 = .ok (.istore_n 3, 1) := by decide +kernel
theorem d11_delimits_11 : decode prog_13_method_54_code 11 = .ok (.aload_n 0, 1) := by decide +kernel
theorem d11_delimits_12 : decode prog_13_method_54_code 12 = .ok (.getfield 7, 3) := by decide +kernel
theorem d11_delimits_15 : decode prog_13_method_54_code 15 = .ok (.iload_n 1, 1) := by decide +kernel
theorem d11_delimits_16 : decode prog_13_method_54_code 16 = .ok (.iconst 3, 1) := by decide +kernel
theorem d11_delimits_17 : decode prog_13_method_54_code 17 = .ok (.invokestatic 35, 3) := by decide +kernel
theorem d11_delimits_20 : decode prog_13_method_54_code 20 = .ok (.iaload, 1) := by decide +kernel
theorem d11_delimits_21 : decode prog_13_method_54_code 21 = .ok (.iconst 1, 1) := by decide +kernel
theorem d11_delimits_22 : decode prog_13_method_54_code 22 = .ok (.if_icmp .ne 7, 3) := by decide +kernel
theorem d11_delimits_25 : decode prog_13_method_54_code 25 = .ok (.iconst 1, 1) := by decide +kernel
theorem d11_delimits_26 : decode prog_13_method_54_code 26 = .ok (.goto 4, 3) := by decide +kernel
theorem d11_delimits_29 : decode prog_13_method_54_code 29 = .ok (.iconst 0, 1) := by decide +kernel
theorem d11_delimits_30 : decode prog_13_method_54_code 30 = .ok (.istore 4, 2) := by decide +kernel
theorem d11_delimits_32 : decode prog_13_method_54_code 32 = .ok (.aload_n 0, 1) := by decide +kernel
theorem d11_delimits_33 : decode prog_13_method_54_code 33 = .ok (.getfield 7, 3) := by decide +kernel
theorem d11_delimits_36 : decode prog_13_method_54_code 36 = .ok (.iload_n 1, 1) := by decide +kernel
theorem d11_delimits_37 : decode prog_13_method_54_code 37 = .ok (.iconst 3, 1) := by decide +kernel
theorem d11_delimits_38 : decode prog_13_method_54_code 38 = .ok (.invokestatic 35, 3) := by decide +kernel
theorem d11_delimits_41 : decode prog_13_method_54_code 41 = .ok (.iconst 0, 1) := by decide +kernel
theorem d11_delimits_42 : decode prog_13_method_54_code 42 = .ok (.iastore, 1) := by decide +kernel
theorem d11_delimits_43 : decode prog_13_method_54_code 43 = .ok (.iload_n 2, 1) := by decide +kernel
theorem d11_delimits_44 : decode prog_13_method_54_code 44 = .ok (.iconst 1, 1) := by decide +kernel
theorem d11_delimits_45 : decode prog_13_method_54_code 45 = .ok (.if_icmp .ne 33, 3) := by decide +kernel
theorem d11_delimits_48 : decode prog_13_method_54_code 48 = .ok (.aload_n 0, 1) := by decide +kernel
theorem d11_delimits_49 : decode prog_13_method_54_code 49 = .ok (.getfield 7, 3) := by decide +kernel
theorem d11_delimits_52 : decode prog_13_method_54_code 52 = .ok (.iload_n 1, 1) := by decide +kernel
theorem d11_delimits_53 : decode prog_13_method_54_code 53 = .ok (.iconst 2, 1) := by decide +kernel
theorem d11_delimits_54 : decode prog_13_method_54_code 54 = .ok (.invokestatic 35, 3) := by decide +kernel
theorem d11_delimits_57 : decode prog_13_method_54_code 57 = .ok (.dup2, 1) := by decide +kernel
theorem d11_delimits_58 : decode prog_13_method_54_code 58 = .ok (.iaload, 1) := by decide +kernel
theorem d11_delimits_59 : decode prog_13_method_54_code 59 = .ok (.iconst 1, 1) := by decide +kernel
theorem d11_delimits_60 : decode prog_13_method_54_code 60 = .ok (.iadd, 1) := by decide +kernel
theorem d11_delimits_61 : decode prog_13_method_54_code 61 = .ok (.iastore, 1) := by decide +kernel
theorem d11_delimits_62 : decode prog_13_method_54_code 62 = .ok (.iload_n 3, 1) := by decide +kernel
theorem d11_delimits_63 : decode prog_13_method_54_code 63 = .ok (.bipush 7, 2) := by decide +kernel
theorem d11_delimits_65 : decode prog_13_method_54_code 65 = .ok (.if_icmp .ne 62, 3) := by decide +kernel
theorem d11_delimits_68 : decode prog_13_method_54_code 68 = .ok (.aload_n 0, 1) := by decide +kernel
theorem d11_delimits_69 : decode prog_13_method_54_code 69 = .ok (.iload_n 1, 1) := by decide +kernel
theorem d11_delimits_70 : decode prog_13_method_54_code 70 = .ok (.bipush 8, 2) := by decide +kernel
theorem d11_delimits_72 : decode prog_13_method_54_code 72 = .ok (.invokevirtual 84, 3) := by decide +kernel
theorem d11_delimits_75 : decode prog_13_method_54_code 75 = .ok (.goto 52, 3) := by decide +kernel
theorem d11_delimits_78 : decode prog_13_method_54_code 78 = .ok (.iload_n 3, 1) := by decide +kernel
theorem d11_delimits_79 : decode prog_13_method_54_code 79 = .ok (.ifCond .ne 26, 3) := by decide +kernel
theorem d11_delimits_82 : decode prog_13_method_54_code 82 = .ok (.iload 4, 2) := by decide +kernel
theorem d11_delimits_84 : decode prog_13_method_54_code 84 = .ok (.ifCond .eq 43, 3) := by decide +kernel
theorem d11_delimits_87 : decode prog_13_method_54_code 87 = .ok (.aload_n 0, 1) := by decide +kernel
theorem d11_delimits_88 : decode prog_13_method_54_code 88 = .ok (.iload_n 1, 1) := by decide +kernel
theorem d11_delimits_89 : decode prog_13_method_54_code 89 = .ok (.invokevirtual 110, 3) := by decide +kernel
theorem d11_delimits_92 : decode prog_13_method_54_code 92 = .ok (.ifCond .ne 35, 3) := by decide +kernel
theorem d11_delimits_95 : decode prog_13_method_54_code 95 = .ok (.aload_n 0, 1) := by decide +kernel
theorem d11_delimits_96 : decode prog_13_method_54_code 96 = .ok (.iload_n 1, 1) := by decide +kernel
theorem d11_delimits_97 : decode prog_13_method_54_code 97 = .ok (.bipush 8, 2) := by decide +kernel
theorem d11_delimits_99 : decode prog_13_method_54_code 99 = .ok (.invokevirtual 116, 3) := by decide +kernel
theorem d11_delimits_102 : decode prog_13_method_54_code 102 = .ok (.goto 25, 3) := by decide +kernel
theorem d11_delimits_105 : decode prog_13_method_54_code 105 = .ok (.iload_n 3, 1) := by decide +kernel
theorem d11_delimits_106 : decode prog_13_method_54_code 106 = .ok (.bipush 7, 2) := by decide +kernel
theorem d11_delimits_108 : decode prog_13_method_54_code 108 = .ok (.if_icmp .ge 12, 3) := by decide +kernel
theorem d11_delimits_111 : decode prog_13_method_54_code 111 = .ok (.aload_n 0, 1) := by decide +kernel
theorem d11_delimits_112 : decode prog_13_method_54_code 112 = .ok (.iload_n 1, 1) := by decide +kernel
theorem d11_delimits_113 : decode prog_13_method_54_code 113 = .ok (.iconst 4, 1) := by decide +kernel
theorem d11_delimits_114 : decode prog_13_method_54_code 114 = .ok (.invokevirtual 150, 3) := by decide +kernel
theorem d11_delimits_117 : decode prog_13_method_54_code 117 = .ok (.goto 10, 3) := by decide +kernel
theorem d11_delimits_120 : decode prog_13_method_54_code 120 = .ok (.aload_n 0, 1) := by decide +kernel
theorem d11_delimits_121 : decode prog_13_method_54_code 121 = .ok (.iload_n 1, 1) := by decide +kernel
theorem d11_delimits_122 : decode prog_13_method_54_code 122 = .ok (.bipush 6, 2) := by decide +kernel
theorem d11_delimits_124 : decode prog_13_method_54_code 124 = .ok (.invokevirtual 84, 3) := by decide +kernel
theorem d11_delimits_127 : decode prog_13_method_54_code 127 = .ok (.return_, 1) := by decide +kernel

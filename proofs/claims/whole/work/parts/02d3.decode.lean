theorem d_Model_init_0 : decode b_Model_init 0 = .ok (.aload_n 0, 1) := by decide +kernel
theorem d_Model_init_1 : decode b_Model_init 1 = .ok (.invokespecial 1, 3) := by decide +kernel
theorem d_Model_init_4 : decode b_Model_init 4 = .ok (.aload_n 0, 1) := by decide +kernel
theorem d_Model_init_5 : decode b_Model_init 5 = .ok (.sipush 300, 3) := by decide +kernel
theorem d_Model_init_8 : decode b_Model_init 8 = .ok (.newarray .byte, 2) := by decide +kernel
theorem d_Model_init_10 : decode b_Model_init 10 = .ok (.putfield 7, 3) := by decide +kernel
theorem d_Model_init_13 : decode b_Model_init 13 = .ok (.aload_n 0, 1) := by decide +kernel
theorem d_Model_init_14 : decode b_Model_init 14 = .ok (.sipush 2048, 3) := by decide +kernel
theorem d_Model_init_17 : decode b_Model_init 17 = .ok (.newarray .byte, 2) := by decide +kernel
theorem d_Model_init_19 : decode b_Model_init 19 = .ok (.putfield 13, 3) := by decide +kernel
theorem d_Model_init_22 : decode b_Model_init 22 = .ok (.aload_n 0, 1) := by decide +kernel
theorem d_Model_init_23 : decode b_Model_init 23 = .ok (.bipush 8, 2) := by decide +kernel
theorem d_Model_init_25 : decode b_Model_init 25 = .ok (.newarray .int, 2) := by decide +kernel
theorem d_Model_init_27 : decode b_Model_init 27 = .ok (.putfield 16, 3) := by decide +kernel
theorem d_Model_init_30 : decode b_Model_init 30 = .ok (.aload_n 0, 1) := by decide +kernel
theorem d_Model_init_31 : decode b_Model_init 31 = .ok (.sipush 2048, 3) := by decide +kernel
theorem d_Model_init_34 : decode b_Model_init 34 = .ok (.newarray .int, 2) := by decide +kernel
theorem d_Model_init_36 : decode b_Model_init 36 = .ok (.putfield 20, 3) := by decide +kernel
theorem d_Model_init_39 : decode b_Model_init 39 = .ok (.aload_n 0, 1) := by decide +kernel
theorem d_Model_init_40 : decode b_Model_init 40 = .ok (.sipush 128, 3) := by decide +kernel
theorem d_Model_init_43 : decode b_Model_init 43 = .ok (.newarray .int, 2) := by decide +kernel
theorem d_Model_init_45 : decode b_Model_init 45 = .ok (.putfield 23, 3) := by decide +kernel
theorem d_Model_init_48 : decode b_Model_init 48 = .ok (.aload_n 0, 1) := by decide +kernel
theorem d_Model_init_49 : decode b_Model_init 49 = .ok (.sipush 128, 3) := by decide +kernel
theorem d_Model_init_52 : decode b_Model_init 52 = .ok (.newarray .int, 2) := by decide +kernel
theorem d_Model_init_54 : decode b_Model_init 54 = .ok (.putfield 26, 3) := by decide +kernel
theorem d_Model_init_57 : decode b_Model_init 57 = .ok (.aload_n 0, 1) := by decide +kernel
theorem d_Model_init_58 : decode b_Model_init 58 = .ok (.sipush 301, 3) := by decide +kernel
theorem d_Model_init_61 : decode b_Model_init 61 = .ok (.newarray .boolean, 2) := by decide +kernel
theorem d_Model_init_63 : decode b_Model_init 63 = .ok (.putfield 29, 3) := by decide +kernel
theorem d_Model_init_66 : decode b_Model_init 66 = .ok (.aload_n 0, 1) := by decide +kernel
theorem d_Model_init_67 : decode b_Model_init 67 = .ok (.sipush 301, 3) := by decide +kernel
theorem d_Model_init_70 : decode b_Model_init 70 = .ok (.newarray .int, 2) := by decide +kernel
theorem d_Model_init_72 : decode b_Model_init 72 = .ok (.putfield 33, 3) := by decide +kernel
theorem d_Model_init_75 : decode b_Model_init 75 = .ok (.aload_n 0, 1) := by decide +kernel
theorem d_Model_init_76 : decode b_Model_init 76 = .ok (.sipush 301, 3) := by decide +kernel
theorem d_Model_init_79 : decode b_Model_init 79 = .ok (.newarray .boolean, 2) := by decide +kernel
theorem d_Model_init_81 : decode b_Model_init 81 = .ok (.putfield 36, 3) := by decide +kernel
theorem d_Model_init_84 : decode b_Model_init 84 = .ok (.aload_n 0, 1) := by decide +kernel
theorem d_Model_init_85 : decode b_Model_init 85 = .ok (.bipush 8, 2) := by decide +kernel
theorem d_Model_init_87 : decode b_Model_init 87 = .ok (.newarray .int, 2) := by decide +kernel
theorem d_Model_init_89 : decode b_Model_init 89 = .ok (.putfield 39, 3) := by decide +kernel
theorem d_Model_init_92 : decode b_Model_init 92 = .ok (.aload_n 0, 1) := by decide +kernel
theorem d_Model_init_93 : decode b_Model_init 93 = .ok (.bipush 8, 2) := by decide +kernel
theorem d_Model_init_95 : decode b_Model_init 95 = .ok (.newarray .int, 2) := by decide +kernel
theorem d_Model_init_97 : decode b_Model_init 97 = .ok (.putfield 42, 3) := by decide +kernel
theorem d_Model_init_100 : decode b_Model_init 100 = .ok (.aload_n 0, 1) := by decide +kernel
theorem d_Model_init_101 : decode b_Model_init 101 = .ok (.bipush 8, 2) := by decide +kernel
theorem d_Model_init_103 : decode b_Model_init 103 = .ok (.newarray .int, 2) := by decide +kernel
theorem d_Model_init_105 : decode b_Model_init 105 = .ok (.putfield 45, 3) := by decide +kernel
theorem d_Model_init_108 : decode b_Model_init 108 = .ok (.aload_n 0, 1) := by decide +kernel
theorem d_Model_init_109 : decode b_Model_init 109 = .ok (.bipush 64, 2) := by decide +kernel
theorem d_Model_init_111 : decode b_Model_init 111 = .ok (.newarray .int, 2) := by decide +kernel
theorem d_Model_init_113 : decode b_Model_init 113 = .ok (.putfield 48, 3) := by decide +kernel
theorem d_Model_init_116 : decode b_Model_init 116 = .ok (.aload_n 0, 1) := by decide +kernel
theorem d_Model_init_117 : decode b_Model_init 117 = .ok (.bipush 64, 2) := by decide +kernel
theorem d_Model_init_119 : decode b_Model_init 119 = .ok (.newarray .int, 2) := by decide +kernel
theorem d_Model_init_121 : decode b_Model_init 121 = .ok (.putfield 51, 3) := by decide +kernel
theorem d_Model_init_124 : decode b_Model_init 124 = .ok (.aload_n 0, 1) := by decide +kernel
theorem d_Model_init_125 : decode b_Model_init 125 = .ok (.sipush 300, 3) := by decide +kernel
theorem d_Model_init_128 : decode b_Model_init 128 = .ok (.newarray .byte, 2) := by decide +kernel
theorem d_Model_init_130 : decode b_Model_init 130 = .ok (.putfield 54, 3) := by decide +kernel
theorem d_Model_init_133 : decode b_Model_init 133 = .ok (.aload_n 0, 1) := by decide +kernel
theorem d_Model_init_134 : decode b_Model_init 134 = .ok (.bipush 64, 2) := by decide +kernel
theorem d_Model_init_136 : decode b_Model_init 136 = .ok (.newarray .byte, 2) := by decide +kernel
theorem d_Model_init_138 : decode b_Model_init 138 = .ok (.putfield 57, 3) := by decide +kernel
theorem d_Model_init_141 : decode b_Model_init 141 = .ok (.return_, 1) := by decide +kernel
theorem d_Model_putFour_0 : decode b_Model_putFour 0 = .ok (.bipush 24, 2) := by decide +kernel
theorem d_Model_putFour_2 : decode b_Model_putFour 2 = .ok (.istore_n 2, 1) := by decide +kernel
theorem d_Model_putFour_3 : decode b_Model_putFour 3 = .ok (.iload_n 2, 1) := by decide +kernel
theorem d_Model_putFour_4 : decode b_Model_putFour 4 = .ok (.ifCond .lt 32, 3) := by decide +kernel
theorem d_Model_putFour_7 : decode b_Model_putFour 7 = .ok (.aload_n 0, 1) := by decide +kernel
theorem d_Model_putFour_8 : decode b_Model_putFour 8 = .ok (.getfield 7, 3) := by decide +kernel
theorem d_Model_putFour_11 : decode b_Model_putFour 11 = .ok (.aload_n 0, 1) := by decide +kernel
theorem d_Model_putFour_12 : decode b_Model_putFour 12 = .ok (.getfield 60, 3) := by decide +kernel
theorem d_Model_putFour_15 : decode b_Model_putFour 15 = .ok (.iload_n 1, 1) := by decide +kernel
theorem d_Model_putFour_16 : decode b_Model_putFour 16 = .ok (.iload_n 2, 1) := by decide +kernel
theorem d_Model_putFour_17 : decode b_Model_putFour 17 = .ok (.ishr, 1) := by decide +kernel
theorem d_Model_putFour_18 : decode b_Model_putFour 18 = .ok (.i2b, 1) := by decide +kernel
theorem d_Model_putFour_19 : decode b_Model_putFour 19 = .ok (.bastore, 1) := by decide +kernel
theorem d_Model_putFour_20 : decode b_Model_putFour 20 = .ok (.aload_n 0, 1) := by decide +kernel
theorem d_Model_putFour_21 : decode b_Model_putFour 21 = .ok (.dup, 1) := by decide +kernel
theorem d_Model_putFour_22 : decode b_Model_putFour 22 = .ok (.getfield 60, 3) := by decide +kernel
theorem d_Model_putFour_25 : decode b_Model_putFour 25 = .ok (.iconst 1, 1) := by decide +kernel
theorem d_Model_putFour_26 : decode b_Model_putFour 26 = .ok (.iadd, 1) := by decide +kernel
theorem d_Model_putFour_27 : decode b_Model_putFour 27 = .ok (.putfield 60, 3) := by decide +kernel
theorem d_Model_putFour_30 : decode b_Model_putFour 30 = .ok (.iinc 2 (-8), 3) := by decide +kernel
theorem d_Model_putFour_33 : decode b_Model_putFour 33 = .ok (.goto (-30), 3) := by decide +kernel
theorem d_Model_putFour_36 : decode b_Model_putFour 36 = .ok (.return_, 1) := by decide +kernel
theorem d_Model_feed_0 : decode b_Model_feed 0 = .ok (.aload_n 0, 1) := by decide +kernel
theorem d_Model_feed_1 : decode b_Model_feed 1 = .ok (.getfield 60, 3) := by decide +kernel
theorem d_Model_feed_4 : decode b_Model_feed 4 = .ok (.bipush 20, 2) := by decide +kernel
theorem d_Model_feed_6 : decode b_Model_feed 6 = .ok (.iadd, 1) := by decide +kernel
theorem d_Model_feed_7 : decode b_Model_feed 7 = .ok (.sipush 300, 3) := by decide +kernel
theorem d_Model_feed_10 : decode b_Model_feed 10 = .ok (.if_icmp .le 5, 3) := by decide +kernel
theorem d_Model_feed_13 : decode b_Model_feed 13 = .ok (.iconst (-1), 1) := by decide +kernel
theorem d_Model_feed_14 : decode b_Model_feed 14 = .ok (.ireturn, 1) := by decide +kernel
theorem d_Model_feed_15 : decode b_Model_feed 15 = .ok (.aload_n 0, 1) := by decide +kernel
theorem d_Model_feed_16 : decode b_Model_feed 16 = .ok (.iload_n 1, 1) := by decide +kernel
theorem d_Model_feed_17 : decode b_Model_feed 17 = .ok (.invokevirtual 64, 3) := by decide +kernel
theorem d_Model_feed_20 : decode b_Model_feed 20 = .ok (.aload_n 0, 1) := by decide +kernel
theorem d_Model_feed_21 : decode b_Model_feed 21 = .ok (.iload_n 2, 1) := by decide +kernel
theorem d_Model_feed_22 : decode b_Model_feed 22 = .ok (.invokevirtual 64, 3) := by decide +kernel
theorem d_Model_feed_25 : decode b_Model_feed 25 = .ok (.aload_n 0, 1) := by decide +kernel
theorem d_Model_feed_26 : decode b_Model_feed 26 = .ok (.iload_n 3, 1) := by decide +kernel
theorem d_Model_feed_27 : decode b_Model_feed 27 = .ok (.invokevirtual 64, 3) := by decide +kernel
theorem d_Model_feed_30 : decode b_Model_feed 30 = .ok (.aload_n 0, 1) := by decide +kernel
theorem d_Model_feed_31 : decode b_Model_feed 31 = .ok (.iload 4, 2) := by decide +kernel
theorem d_Model_feed_33 : decode b_Model_feed 33 = .ok (.invokevirtual 64, 3) := by decide +kernel
theorem d_Model_feed_36 : decode b_Model_feed 36 = .ok (.aload_n 0, 1) := by decide +kernel
theorem d_Model_feed_37 : decode b_Model_feed 37 = .ok (.iload 5, 2) := by decide +kernel
theorem d_Model_feed_39 : decode b_Model_feed 39 = .ok (.invokevirtual 64, 3) := by decide +kernel
theorem d_Model_feed_42 : decode b_Model_feed 42 = .ok (.aload_n 0, 1) := by decide +kernel
theorem d_Model_feed_43 : decode b_Model_feed 43 = .ok (.getfield 60, 3) := by decide +kernel
theorem d_Model_feed_46 : decode b_Model_feed 46 = .ok (.ireturn, 1) := by decide +kernel
theorem d_Model_end_0 : decode b_Model_end 0 = .ok (.iload_n 1, 1) := by decide +kernel
theorem d_Model_end_1 : decode b_Model_end 1 = .ok (.ifCond .lt 11, 3) := by decide +kernel
theorem d_Model_end_4 : decode b_Model_end 4 = .ok (.iload_n 1, 1) := by decide +kernel
theorem d_Model_end_5 : decode b_Model_end 5 = .ok (.aload_n 0, 1) := by decide +kernel
theorem d_Model_end_6 : decode b_Model_end 6 = .ok (.getfield 60, 3) := by decide +kernel
theorem d_Model_end_9 : decode b_Model_end 9 = .ok (.if_icmp .le 5, 3) := by decide +kernel
theorem d_Model_end_12 : decode b_Model_end 12 = .ok (.iconst (-1), 1) := by decide +kernel
theorem d_Model_end_13 : decode b_Model_end 13 = .ok (.ireturn, 1) := by decide +kernel
theorem d_Model_end_14 : decode b_Model_end 14 = .ok (.aload_n 0, 1) := by decide +kernel
theorem d_Model_end_15 : decode b_Model_end 15 = .ok (.iload_n 1, 1) := by decide +kernel
theorem d_Model_end_16 : decode b_Model_end 16 = .ok (.putfield 60, 3) := by decide +kernel
theorem d_Model_end_19 : decode b_Model_end 19 = .ok (.iload_n 1, 1) := by decide +kernel
theorem d_Model_end_20 : decode b_Model_end 20 = .ok (.ireturn, 1) := by decide +kernel
theorem d_Model_poke_0 : decode b_Model_poke 0 = .ok (.iload_n 1, 1) := by decide +kernel
theorem d_Model_poke_1 : decode b_Model_poke 1 = .ok (.ifCond .lt 11, 3) := by decide +kernel
theorem d_Model_poke_4 : decode b_Model_poke 4 = .ok (.iload_n 1, 1) := by decide +kernel
theorem d_Model_poke_5 : decode b_Model_poke 5 = .ok (.aload_n 0, 1) := by decide +kernel
theorem d_Model_poke_6 : decode b_Model_poke 6 = .ok (.getfield 60, 3) := by decide +kernel
theorem d_Model_poke_9 : decode b_Model_poke 9 = .ok (.if_icmp .lt 5, 3) := by decide +kernel
theorem d_Model_poke_12 : decode b_Model_poke 12 = .ok (.iconst (-1), 1) := by decide +kernel
theorem d_Model_poke_13 : decode b_Model_poke 13 = .ok (.ireturn, 1) := by decide +kernel
theorem d_Model_poke_14 : decode b_Model_poke 14 = .ok (.aload_n 0, 1) := by decide +kernel
theorem d_Model_poke_15 : decode b_Model_poke 15 = .ok (.getfield 7, 3) := by decide +kernel
theorem d_Model_poke_18 : decode b_Model_poke 18 = .ok (.iload_n 1, 1) := by decide +kernel
theorem d_Model_poke_19 : decode b_Model_poke 19 = .ok (.baload, 1) := by decide +kernel
theorem d_Model_poke_20 : decode b_Model_poke 20 = .ok (.sipush 255, 3) := by decide +kernel
theorem d_Model_poke_23 : decode b_Model_poke 23 = .ok (.iand, 1) := by decide +kernel
theorem d_Model_poke_24 : decode b_Model_poke 24 = .ok (.istore_n 3, 1) := by decide +kernel
theorem d_Model_poke_25 : decode b_Model_poke 25 = .ok (.aload_n 0, 1) := by decide +kernel
theorem d_Model_poke_26 : decode b_Model_poke 26 = .ok (.getfield 7, 3) := by decide +kernel
theorem d_Model_poke_29 : decode b_Model_poke 29 = .ok (.iload_n 1, 1) := by decide +kernel
theorem d_Model_poke_30 : decode b_Model_poke 30 = .ok (.iload_n 2, 1) := by decide +kernel
theorem d_Model_poke_31 : decode b_Model_poke 31 = .ok (.i2b, 1) := by decide +kernel
theorem d_Model_poke_32 : decode b_Model_poke 32 = .ok (.bastore, 1) := by decide +kernel
theorem d_Model_poke_33 : decode b_Model_poke 33 = .ok (.iload_n 3, 1) := by decide +kernel
theorem d_Model_poke_34 : decode b_Model_poke 34 = .ok (.ireturn, 1) := by decide +kernel
theorem d_Model_at_0 : decode b_Model_at 0 = .ok (.aload_n 0, 1) := by decide +kernel
theorem d_Model_at_1 : decode b_Model_at 1 = .ok (.getfield 7, 3) := by decide +kernel
theorem d_Model_at_4 : decode b_Model_at 4 = .ok (.iload_n 1, 1) := by decide +kernel
theorem d_Model_at_5 : decode b_Model_at 5 = .ok (.baload, 1) := by decide +kernel
theorem d_Model_at_6 : decode b_Model_at 6 = .ok (.sipush 255, 3) := by decide +kernel
theorem d_Model_at_9 : decode b_Model_at 9 = .ok (.iand, 1) := by decide +kernel
theorem d_Model_at_10 : decode b_Model_at 10 = .ok (.ireturn, 1) := by decide +kernel
theorem d_Model_bad_0 : decode b_Model_bad 0 = .ok (.aload_n 0, 1) := by decide +kernel
theorem d_Model_bad_1 : decode b_Model_bad 1 = .ok (.getfield 68, 3) := by decide +kernel
theorem d_Model_bad_4 : decode b_Model_bad 4 = .ok (.ifCond .le 4, 3) := by decide +kernel
theorem d_Model_bad_7 : decode b_Model_bad 7 = .ok (.return_, 1) := by decide +kernel
theorem d_Model_bad_8 : decode b_Model_bad 8 = .ok (.aload_n 0, 1) := by decide +kernel
theorem d_Model_bad_9 : decode b_Model_bad 9 = .ok (.iload_n 1, 1) := by decide +kernel
theorem d_Model_bad_10 : decode b_Model_bad 10 = .ok (.putfield 68, 3) := by decide +kernel
theorem d_Model_bad_13 : decode b_Model_bad 13 = .ok (.aload_n 0, 1) := by decide +kernel
theorem d_Model_bad_14 : decode b_Model_bad 14 = .ok (.iload_n 2, 1) := by decide +kernel
theorem d_Model_bad_15 : decode b_Model_bad 15 = .ok (.putfield 71, 3) := by decide +kernel
theorem d_Model_bad_18 : decode b_Model_bad 18 = .ok (.return_, 1) := by decide +kernel
theorem d_Model_hasOperand_0 : decode b_Model_hasOperand 0 = .ok (.iload_n 0, 1) := by decide +kernel
theorem d_Model_hasOperand_1 : decode b_Model_hasOperand 1 = .ok (.iconst 4, 1) := by decide +kernel
theorem d_Model_hasOperand_2 : decode b_Model_hasOperand 2 = .ok (.if_icmp .le 21, 3) := by decide +kernel
theorem d_Model_hasOperand_5 : decode b_Model_hasOperand 5 = .ok (.iload_n 0, 1) := by decide +kernel
theorem d_Model_hasOperand_6 : decode b_Model_hasOperand 6 = .ok (.bipush 16, 2) := by decide +kernel
theorem d_Model_hasOperand_8 : decode b_Model_hasOperand 8 = .ok (.if_icmp .lt 9, 3) := by decide +kernel
theorem d_Model_hasOperand_11 : decode b_Model_hasOperand 11 = .ok (.iload_n 0, 1) := by decide +kernel
theorem d_Model_hasOperand_12 : decode b_Model_hasOperand 12 = .ok (.bipush 18, 2) := by decide +kernel
theorem d_Model_hasOperand_14 : decode b_Model_hasOperand 14 = .ok (.if_icmp .le 9, 3) := by decide +kernel
theorem d_Model_hasOperand_17 : decode b_Model_hasOperand 17 = .ok (.iload_n 0, 1) := by decide +kernel
theorem d_Model_hasOperand_18 : decode b_Model_hasOperand 18 = .ok (.bipush 27, 2) := by decide +kernel
theorem d_Model_hasOperand_20 : decode b_Model_hasOperand 20 = .ok (.if_icmp .ne 7, 3) := by decide +kernel
theorem d_Model_hasOperand_23 : decode b_Model_hasOperand 23 = .ok (.iconst 1, 1) := by decide +kernel
theorem d_Model_hasOperand_24 : decode b_Model_hasOperand 24 = .ok (.goto 4, 3) := by decide +kernel
theorem d_Model_hasOperand_27 : decode b_Model_hasOperand 27 = .ok (.iconst 0, 1) := by decide +kernel
theorem d_Model_hasOperand_28 : decode b_Model_hasOperand 28 = .ok (.ireturn, 1) := by decide +kernel
theorem d_Model_takes_0 : decode b_Model_takes 0 = .ok (.iload_n 0, 1) := by decide +kernel
theorem d_Model_takes_1 : decode b_Model_takes 1 = .ok (.tableswitch 131 0 27 #[127, 127, 129, 127, 129, 131, 131, 131, 131, 131, 131, 131, 131, 129, 129, 131, 127, 129, 131, 129, 127, 129, 129, 127, 127, 131, 131, 127], 127) := by decide +kernel
theorem d_Model_takes_128 : decode b_Model_takes 128 = .ok (.iconst 0, 1) := by decide +kernel
theorem d_Model_takes_129 : decode b_Model_takes 129 = .ok (.ireturn, 1) := by decide +kernel
theorem d_Model_takes_130 : decode b_Model_takes 130 = .ok (.iconst 1, 1) := by decide +kernel
theorem d_Model_takes_131 : decode b_Model_takes 131 = .ok (.ireturn, 1) := by decide +kernel
theorem d_Model_takes_132 : decode b_Model_takes 132 = .ok (.iconst 2, 1) := by decide +kernel
theorem d_Model_takes_133 : decode b_Model_takes 133 = .ok (.ireturn, 1) := by decide +kernel
theorem d_Model_gives_0 : decode b_Model_gives 0 = .ok (.iload_n 0, 1) := by decide +kernel
theorem d_Model_gives_1 : decode b_Model_gives 1 = .ok (.tableswitch 111 2 24 #[107, 111, 107, 111, 111, 111, 111, 111, 111, 111, 111, 109, 107, 109, 107, 107, 107, 111, 111, 107, 107, 107, 107], 107) := by decide +kernel
theorem d_Model_gives_108 : decode b_Model_gives 108 = .ok (.iconst 0, 1) := by decide +kernel
theorem d_Model_gives_109 : decode b_Model_gives 109 = .ok (.ireturn, 1) := by decide +kernel
theorem d_Model_gives_110 : decode b_Model_gives 110 = .ok (.iconst 2, 1) := by decide +kernel
theorem d_Model_gives_111 : decode b_Model_gives 111 = .ok (.ireturn, 1) := by decide +kernel
theorem d_Model_gives_112 : decode b_Model_gives 112 = .ok (.iconst 1, 1) := by decide +kernel
theorem d_Model_gives_113 : decode b_Model_gives 113 = .ok (.ireturn, 1) := by decide +kernel
theorem d_Model_isOperand_0 : decode b_Model_isOperand 0 = .ok (.iload_n 0, 1) := by decide +kernel
theorem d_Model_isOperand_1 : decode b_Model_isOperand 1 = .ok (.iconst 1, 1) := by decide +kernel
theorem d_Model_isOperand_2 : decode b_Model_isOperand 2 = .ok (.if_icmp .eq 8, 3) := by decide +kernel
theorem d_Model_isOperand_5 : decode b_Model_isOperand 5 = .ok (.iload_n 0, 1) := by decide +kernel
theorem d_Model_isOperand_6 : decode b_Model_isOperand 6 = .ok (.iconst 2, 1) := by decide +kernel
theorem d_Model_isOperand_7 : decode b_Model_isOperand 7 = .ok (.if_icmp .ne 15, 3) := by decide +kernel
theorem d_Model_isOperand_10 : decode b_Model_isOperand 10 = .ok (.iload_n 1, 1) := by decide +kernel
theorem d_Model_isOperand_11 : decode b_Model_isOperand 11 = .ok (.bipush 16, 2) := by decide +kernel
theorem d_Model_isOperand_13 : decode b_Model_isOperand 13 = .ok (.if_icmp .ge 7, 3) := by decide +kernel
theorem d_Model_isOperand_16 : decode b_Model_isOperand 16 = .ok (.iconst 1, 1) := by decide +kernel
theorem d_Model_isOperand_17 : decode b_Model_isOperand 17 = .ok (.goto 4, 3) := by decide +kernel
theorem d_Model_isOperand_20 : decode b_Model_isOperand 20 = .ok (.iconst 0, 1) := by decide +kernel
theorem d_Model_isOperand_21 : decode b_Model_isOperand 21 = .ok (.ireturn, 1) := by decide +kernel
theorem d_Model_isOperand_22 : decode b_Model_isOperand 22 = .ok (.iload_n 0, 1) := by decide +kernel
theorem d_Model_isOperand_23 : decode b_Model_isOperand 23 = .ok (.iconst 3, 1) := by decide +kernel
theorem d_Model_isOperand_24 : decode b_Model_isOperand 24 = .ok (.if_icmp .eq 8, 3) := by decide +kernel
theorem d_Model_isOperand_27 : decode b_Model_isOperand 27 = .ok (.iload_n 0, 1) := by decide +kernel
theorem d_Model_isOperand_28 : decode b_Model_isOperand 28 = .ok (.iconst 4, 1) := by decide +kernel
theorem d_Model_isOperand_29 : decode b_Model_isOperand 29 = .ok (.if_icmp .ne 15, 3) := by decide +kernel
theorem d_Model_isOperand_32 : decode b_Model_isOperand 32 = .ok (.iload_n 1, 1) := by decide +kernel
theorem d_Model_isOperand_33 : decode b_Model_isOperand 33 = .ok (.bipush 8, 2) := by decide +kernel
theorem d_Model_isOperand_35 : decode b_Model_isOperand 35 = .ok (.if_icmp .ge 7, 3) := by decide +kernel
theorem d_Model_isOperand_38 : decode b_Model_isOperand 38 = .ok (.iconst 1, 1) := by decide +kernel
theorem d_Model_isOperand_39 : decode b_Model_isOperand 39 = .ok (.goto 4, 3) := by decide +kernel
theorem d_Model_isOperand_42 : decode b_Model_isOperand 42 = .ok (.iconst 0, 1) := by decide +kernel
theorem d_Model_isOperand_43 : decode b_Model_isOperand 43 = .ok (.ireturn, 1) := by decide +kernel
theorem d_Model_isOperand_44 : decode b_Model_isOperand 44 = .ok (.iload_n 0, 1) := by decide +kernel
theorem d_Model_isOperand_45 : decode b_Model_isOperand 45 = .ok (.bipush 27, 2) := by decide +kernel
theorem d_Model_isOperand_47 : decode b_Model_isOperand 47 = .ok (.if_icmp .ne 9, 3) := by decide +kernel
theorem d_Model_isOperand_50 : decode b_Model_isOperand 50 = .ok (.iload_n 1, 1) := by decide +kernel
theorem d_Model_isOperand_51 : decode b_Model_isOperand 51 = .ok (.bipush 24, 2) := by decide +kernel
theorem d_Model_isOperand_53 : decode b_Model_isOperand 53 = .ok (.if_icmp .ge 7, 3) := by decide +kernel
theorem d_Model_isOperand_56 : decode b_Model_isOperand 56 = .ok (.iconst 1, 1) := by decide +kernel
theorem d_Model_isOperand_57 : decode b_Model_isOperand 57 = .ok (.goto 4, 3) := by decide +kernel
theorem d_Model_isOperand_60 : decode b_Model_isOperand 60 = .ok (.iconst 0, 1) := by decide +kernel
theorem d_Model_isOperand_61 : decode b_Model_isOperand 61 = .ok (.ireturn, 1) := by decide +kernel
theorem d_Model_look_0 : decode b_Model_look 0 = .ok (.aload_n 0, 1) := by decide +kernel
theorem d_Model_look_1 : decode b_Model_look 1 = .ok (.iconst 0, 1) := by decide +kernel
theorem d_Model_look_2 : decode b_Model_look 2 = .ok (.putfield 68, 3) := by decide +kernel
theorem d_Model_look_5 : decode b_Model_look 5 = .ok (.aload_n 0, 1) := by decide +kernel
theorem d_Model_look_6 : decode b_Model_look 6 = .ok (.aload_n 0, 1) := by decide +kernel
theorem d_Model_look_7 : decode b_Model_look 7 = .ok (.getfield 60, 3) := by decide +kernel
theorem d_Model_look_10 : decode b_Model_look 10 = .ok (.putfield 74, 3) := by decide +kernel
theorem d_Model_look_13 : decode b_Model_look 13 = .ok (.aload_n 0, 1) := by decide +kernel
theorem d_Model_look_14 : decode b_Model_look 14 = .ok (.getfield 74, 3) := by decide +kernel
theorem d_Model_look_17 : decode b_Model_look 17 = .ok (.iconst 4, 1) := by decide +kernel
theorem d_Model_look_18 : decode b_Model_look 18 = .ok (.if_icmp .lt 13, 3) := by decide +kernel
theorem d_Model_look_21 : decode b_Model_look 21 = .ok (.aload_n 0, 1) := by decide +kernel
theorem d_Model_look_22 : decode b_Model_look 22 = .ok (.getfield 74, 3) := by decide +kernel
theorem d_Model_look_25 : decode b_Model_look 25 = .ok (.sipush 256, 3) := by decide +kernel
theorem d_Model_look_28 : decode b_Model_look 28 = .ok (.if_icmp .le 14, 3) := by decide +kernel
theorem d_Model_look_31 : decode b_Model_look 31 = .ok (.aload_n 0, 1) := by decide +kernel
theorem d_Model_look_32 : decode b_Model_look 32 = .ok (.iconst 1, 1) := by decide +kernel
theorem d_Model_look_33 : decode b_Model_look 33 = .ok (.aload_n 0, 1) := by decide +kernel
theorem d_Model_look_34 : decode b_Model_look 34 = .ok (.getfield 74, 3) := by decide +kernel
theorem d_Model_look_37 : decode b_Model_look 37 = .ok (.invokevirtual 77, 3) := by decide +kernel
theorem d_Model_look_40 : decode b_Model_look 40 = .ok (.iconst 0, 1) := by decide +kernel
theorem d_Model_look_41 : decode b_Model_look 41 = .ok (.ireturn, 1) := by decide +kernel
theorem d_Model_look_42 : decode b_Model_look 42 = .ok (.iconst 0, 1) := by decide +kernel
theorem d_Model_look_43 : decode b_Model_look 43 = .ok (.istore_n 1, 1) := by decide +kernel
theorem d_Model_look_44 : decode b_Model_look 44 = .ok (.iload_n 1, 1) := by decide +kernel
theorem d_Model_look_45 : decode b_Model_look 45 = .ok (.aload_n 0, 1) := by decide +kernel
theorem d_Model_look_46 : decode b_Model_look 46 = .ok (.getfield 74, 3) := by decide +kernel
theorem d_Model_look_49 : decode b_Model_look 49 = .ok (.if_icmp .gt 30, 3) := by decide +kernel
theorem d_Model_look_52 : decode b_Model_look 52 = .ok (.aload_n 0, 1) := by decide +kernel
theorem d_Model_look_53 : decode b_Model_look 53 = .ok (.getfield 29, 3) := by decide +kernel
theorem d_Model_look_56 : decode b_Model_look 56 = .ok (.iload_n 1, 1) := by decide +kernel
theorem d_Model_look_57 : decode b_Model_look 57 = .ok (.iconst 0, 1) := by decide +kernel
theorem d_Model_look_58 : decode b_Model_look 58 = .ok (.bastore, 1) := by decide +kernel
theorem d_Model_look_59 : decode b_Model_look 59 = .ok (.aload_n 0, 1) := by decide +kernel
theorem d_Model_look_60 : decode b_Model_look 60 = .ok (.getfield 33, 3) := by decide +kernel
theorem d_Model_look_63 : decode b_Model_look 63 = .ok (.iload_n 1, 1) := by decide +kernel
theorem d_Model_look_64 : decode b_Model_look 64 = .ok (.iconst (-1), 1) := by decide +kernel
theorem d_Model_look_65 : decode b_Model_look 65 = .ok (.iastore, 1) := by decide +kernel
theorem d_Model_look_66 : decode b_Model_look 66 = .ok (.aload_n 0, 1) := by decide +kernel
theorem d_Model_look_67 : decode b_Model_look 67 = .ok (.getfield 36, 3) := by decide +kernel
theorem d_Model_look_70 : decode b_Model_look 70 = .ok (.iload_n 1, 1) := by decide +kernel
theorem d_Model_look_71 : decode b_Model_look 71 = .ok (.iconst 0, 1) := by decide +kernel
theorem d_Model_look_72 : decode b_Model_look 72 = .ok (.bastore, 1) := by decide +kernel
theorem d_Model_look_73 : decode b_Model_look 73 = .ok (.iinc 1 1, 3) := by decide +kernel
theorem d_Model_look_76 : decode b_Model_look 76 = .ok (.goto (-32), 3) := by decide +kernel
theorem d_Model_look_79 : decode b_Model_look 79 = .ok (.iconst 0, 1) := by decide +kernel
theorem d_Model_look_80 : decode b_Model_look 80 = .ok (.istore_n 1, 1) := by decide +kernel
theorem d_Model_look_81 : decode b_Model_look 81 = .ok (.iconst 3, 1) := by decide +kernel
theorem d_Model_look_82 : decode b_Model_look 82 = .ok (.istore_n 2, 1) := by decide +kernel
theorem d_Model_look_83 : decode b_Model_look 83 = .ok (.iconst 3, 1) := by decide +kernel
theorem d_Model_look_84 : decode b_Model_look 84 = .ok (.istore_n 3, 1) := by decide +kernel
theorem d_Model_look_85 : decode b_Model_look 85 = .ok (.iload_n 3, 1) := by decide +kernel
theorem d_Model_look_86 : decode b_Model_look 86 = .ok (.aload_n 0, 1) := by decide +kernel
theorem d_Model_look_87 : decode b_Model_look 87 = .ok (.getfield 74, 3) := by decide +kernel
theorem d_Model_look_90 : decode b_Model_look 90 = .ok (.if_icmp .ge 118, 3) := by decide +kernel
theorem d_Model_look_93 : decode b_Model_look 93 = .ok (.aload_n 0, 1) := by decide +kernel
theorem d_Model_look_94 : decode b_Model_look 94 = .ok (.getfield 68, 3) := by decide +kernel
theorem d_Model_look_97 : decode b_Model_look 97 = .ok (.ifCond .ne 111, 3) := by decide +kernel
theorem d_Model_look_100 : decode b_Model_look 100 = .ok (.aload_n 0, 1) := by decide +kernel
theorem d_Model_look_101 : decode b_Model_look 101 = .ok (.iload_n 3, 1) := by decide +kernel
theorem d_Model_look_102 : decode b_Model_look 102 = .ok (.invokevirtual 81, 3) := by decide +kernel
theorem d_Model_look_105 : decode b_Model_look 105 = .ok (.istore 4, 2) := by decide +kernel
theorem d_Model_look_107 : decode b_Model_look 107 = .ok (.iload 4, 2) := by decide +kernel
theorem d_Model_look_109 : decode b_Model_look 109 = .ok (.invokestatic 85, 3) := by decide +kernel
theorem d_Model_look_112 : decode b_Model_look 112 = .ok (.istore 5, 2) := by decide +kernel
theorem d_Model_look_114 : decode b_Model_look 114 = .ok (.iload 4, 2) := by decide +kernel
theorem d_Model_look_116 : decode b_Model_look 116 = .ok (.bipush 27, 2) := by decide +kernel
theorem d_Model_look_118 : decode b_Model_look 118 = .ok (.if_icmp .le 12, 3) := by decide +kernel
theorem d_Model_look_121 : decode b_Model_look 121 = .ok (.aload_n 0, 1) := by decide +kernel
theorem d_Model_look_122 : decode b_Model_look 122 = .ok (.iconst 2, 1) := by decide +kernel
theorem d_Model_look_123 : decode b_Model_look 123 = .ok (.iload_n 3, 1) := by decide +kernel
theorem d_Model_look_124 : decode b_Model_look 124 = .ok (.invokevirtual 77, 3) := by decide +kernel
theorem d_Model_look_127 : decode b_Model_look 127 = .ok (.goto 53, 3) := by decide +kernel
theorem d_Model_look_130 : decode b_Model_look 130 = .ok (.iload 5, 2) := by decide +kernel
theorem d_Model_look_132 : decode b_Model_look 132 = .ok (.ifCond .eq 22, 3) := by decide +kernel
theorem d_Model_look_135 : decode b_Model_look 135 = .ok (.iload_n 3, 1) := by decide +kernel
theorem d_Model_look_136 : decode b_Model_look 136 = .ok (.iconst 1, 1) := by decide +kernel
theorem d_Model_look_137 : decode b_Model_look 137 = .ok (.iadd, 1) := by decide +kernel
theorem d_Model_look_138 : decode b_Model_look 138 = .ok (.aload_n 0, 1) := by decide +kernel
theorem d_Model_look_139 : decode b_Model_look 139 = .ok (.getfield 74, 3) := by decide +kernel
theorem d_Model_look_142 : decode b_Model_look 142 = .ok (.if_icmp .lt 12, 3) := by decide +kernel
theorem d_Model_look_145 : decode b_Model_look 145 = .ok (.aload_n 0, 1) := by decide +kernel
theorem d_Model_look_146 : decode b_Model_look 146 = .ok (.iconst 3, 1) := by decide +kernel
theorem d_Model_look_147 : decode b_Model_look 147 = .ok (.iload_n 3, 1) := by decide +kernel
theorem d_Model_look_148 : decode b_Model_look 148 = .ok (.invokevirtual 77, 3) := by decide +kernel
theorem d_Model_look_151 : decode b_Model_look 151 = .ok (.goto 29, 3) := by decide +kernel
theorem d_Model_look_154 : decode b_Model_look 154 = .ok (.iload 5, 2) := by decide +kernel
theorem d_Model_look_156 : decode b_Model_look 156 = .ok (.ifCond .eq 24, 3) := by decide +kernel
theorem d_Model_look_159 : decode b_Model_look 159 = .ok (.iload 4, 2) := by decide +kernel
theorem d_Model_look_161 : decode b_Model_look 161 = .ok (.aload_n 0, 1) := by decide +kernel
theorem d_Model_look_162 : decode b_Model_look 162 = .ok (.iload_n 3, 1) := by decide +kernel
theorem d_Model_look_163 : decode b_Model_look 163 = .ok (.iconst 1, 1) := by decide +kernel
theorem d_Model_look_164 : decode b_Model_look 164 = .ok (.iadd, 1) := by decide +kernel
theorem d_Model_look_165 : decode b_Model_look 165 = .ok (.invokevirtual 81, 3) := by decide +kernel
theorem d_Model_look_168 : decode b_Model_look 168 = .ok (.invokestatic 89, 3) := by decide +kernel
theorem d_Model_look_171 : decode b_Model_look 171 = .ok (.ifCond .ne 9, 3) := by decide +kernel
theorem d_Model_look_174 : decode b_Model_look 174 = .ok (.aload_n 0, 1) := by decide +kernel
theorem d_Model_look_175 : decode b_Model_look 175 = .ok (.iconst 4, 1) := by decide +kernel
theorem d_Model_look_176 : decode b_Model_look 176 = .ok (.iload_n 3, 1) := by decide +kernel
theorem d_Model_look_177 : decode b_Model_look 177 = .ok (.invokevirtual 77, 3) := by decide +kernel
theorem d_Model_look_180 : decode b_Model_look 180 = .ok (.aload_n 0, 1) := by decide +kernel
theorem d_Model_look_181 : decode b_Model_look 181 = .ok (.getfield 29, 3) := by decide +kernel
theorem d_Model_look_184 : decode b_Model_look 184 = .ok (.iload_n 3, 1) := by decide +kernel
theorem d_Model_look_185 : decode b_Model_look 185 = .ok (.iconst 1, 1) := by decide +kernel
theorem d_Model_look_186 : decode b_Model_look 186 = .ok (.bastore, 1) := by decide +kernel
theorem d_Model_look_187 : decode b_Model_look 187 = .ok (.iload_n 3, 1) := by decide +kernel
theorem d_Model_look_188 : decode b_Model_look 188 = .ok (.istore_n 2, 1) := by decide +kernel
theorem d_Model_look_189 : decode b_Model_look 189 = .ok (.iload_n 3, 1) := by decide +kernel
theorem d_Model_look_190 : decode b_Model_look 190 = .ok (.iload 5, 2) := by decide +kernel
theorem d_Model_look_192 : decode b_Model_look 192 = .ok (.ifCond .eq 7, 3) := by decide +kernel
theorem d_Model_look_195 : decode b_Model_look 195 = .ok (.iconst 2, 1) := by decide +kernel
theorem d_Model_look_196 : decode b_Model_look 196 = .ok (.goto 4, 3) := by decide +kernel
theorem d_Model_look_199 : decode b_Model_look 199 = .ok (.iconst 1, 1) := by decide +kernel
theorem d_Model_look_200 : decode b_Model_look 200 = .ok (.iadd, 1) := by decide +kernel
theorem d_Model_look_201 : decode b_Model_look 201 = .ok (.istore_n 3, 1) := by decide +kernel
theorem d_Model_look_202 : decode b_Model_look 202 = .ok (.iinc 1 1, 3) := by decide +kernel
theorem d_Model_look_205 : decode b_Model_look 205 = .ok (.goto (-120), 3) := by decide +kernel
theorem d_Model_look_208 : decode b_Model_look 208 = .ok (.aload_n 0, 1) := by decide +kernel
theorem d_Model_look_209 : decode b_Model_look 209 = .ok (.getfield 68, 3) := by decide +kernel
theorem d_Model_look_212 : decode b_Model_look 212 = .ok (.ifCond .le 5, 3) := by decide +kernel
theorem d_Model_look_215 : decode b_Model_look 215 = .ok (.iconst 0, 1) := by decide +kernel
theorem d_Model_look_216 : decode b_Model_look 216 = .ok (.ireturn, 1) := by decide +kernel
theorem d_Model_look_217 : decode b_Model_look 217 = .ok (.aload_n 0, 1) := by decide +kernel
theorem d_Model_look_218 : decode b_Model_look 218 = .ok (.iload_n 2, 1) := by decide +kernel
theorem d_Model_look_219 : decode b_Model_look 219 = .ok (.invokevirtual 81, 3) := by decide +kernel
theorem d_Model_look_222 : decode b_Model_look 222 = .ok (.istore_n 3, 1) := by decide +kernel
theorem d_Model_look_223 : decode b_Model_look 223 = .ok (.iload_n 3, 1) := by decide +kernel
theorem d_Model_look_224 : decode b_Model_look 224 = .ok (.bipush 16, 2) := by decide +kernel
theorem d_Model_look_226 : decode b_Model_look 226 = .ok (.if_icmp .eq 27, 3) := by decide +kernel
theorem d_Model_look_229 : decode b_Model_look 229 = .ok (.iload_n 3, 1) := by decide +kernel
theorem d_Model_look_230 : decode b_Model_look 230 = .ok (.bipush 22, 2) := by decide +kernel
theorem d_Model_look_232 : decode b_Model_look 232 = .ok (.if_icmp .eq 21, 3) := by decide +kernel
theorem d_Model_look_235 : decode b_Model_look 235 = .ok (.iload_n 3, 1) := by decide +kernel
theorem d_Model_look_236 : decode b_Model_look 236 = .ok (.bipush 23, 2) := by decide +kernel
theorem d_Model_look_238 : decode b_Model_look 238 = .ok (.if_icmp .eq 15, 3) := by decide +kernel
theorem d_Model_look_241 : decode b_Model_look 241 = .ok (.iload_n 3, 1) := by decide +kernel
theorem d_Model_look_242 : decode b_Model_look 242 = .ok (.bipush 24, 2) := by decide +kernel
theorem d_Model_look_244 : decode b_Model_look 244 = .ok (.if_icmp .eq 9, 3) := by decide +kernel
theorem d_Model_look_247 : decode b_Model_look 247 = .ok (.aload_n 0, 1) := by decide +kernel
theorem d_Model_look_248 : decode b_Model_look 248 = .ok (.iconst 5, 1) := by decide +kernel
theorem d_Model_look_249 : decode b_Model_look 249 = .ok (.iload_n 2, 1) := by decide +kernel
theorem d_Model_look_250 : decode b_Model_look 250 = .ok (.invokevirtual 77, 3) := by decide +kernel
theorem d_Model_look_253 : decode b_Model_look 253 = .ok (.iconst 0, 1) := by decide +kernel
theorem d_Model_look_254 : decode b_Model_look 254 = .ok (.istore 4, 2) := by decide +kernel
theorem d_Model_look_256 : decode b_Model_look 256 = .ok (.iload 4, 2) := by decide +kernel
theorem d_Model_look_258 : decode b_Model_look 258 = .ok (.iconst 3, 1) := by decide +kernel
theorem d_Model_look_259 : decode b_Model_look 259 = .ok (.if_icmp .ge 44, 3) := by decide +kernel
theorem d_Model_look_262 : decode b_Model_look 262 = .ok (.aload_n 0, 1) := by decide +kernel
theorem d_Model_look_263 : decode b_Model_look 263 = .ok (.iload 4, 2) := by decide +kernel
theorem d_Model_look_265 : decode b_Model_look 265 = .ok (.invokevirtual 81, 3) := by decide +kernel
theorem d_Model_look_268 : decode b_Model_look 268 = .ok (.aload_n 0, 1) := by decide +kernel
theorem d_Model_look_269 : decode b_Model_look 269 = .ok (.getfield 74, 3) := by decide +kernel
theorem d_Model_look_272 : decode b_Model_look 272 = .ok (.if_icmp .ge 17, 3) := by decide +kernel
theorem d_Model_look_275 : decode b_Model_look 275 = .ok (.aload_n 0, 1) := by decide +kernel
theorem d_Model_look_276 : decode b_Model_look 276 = .ok (.getfield 29, 3) := by decide +kernel
theorem d_Model_look_279 : decode b_Model_look 279 = .ok (.aload_n 0, 1) := by decide +kernel
theorem d_Model_look_280 : decode b_Model_look 280 = .ok (.iload 4, 2) := by decide +kernel
theorem d_Model_look_282 : decode b_Model_look 282 = .ok (.invokevirtual 81, 3) := by decide +kernel
theorem d_Model_look_285 : decode b_Model_look 285 = .ok (.baload, 1) := by decide +kernel
theorem d_Model_look_286 : decode b_Model_look 286 = .ok (.ifCond .ne 11, 3) := by decide +kernel
theorem d_Model_look_289 : decode b_Model_look 289 = .ok (.aload_n 0, 1) := by decide +kernel
theorem d_Model_look_290 : decode b_Model_look 290 = .ok (.bipush 6, 2) := by decide +kernel
theorem d_Model_look_292 : decode b_Model_look 292 = .ok (.iload 4, 2) := by decide +kernel
theorem d_Model_look_294 : decode b_Model_look 294 = .ok (.invokevirtual 77, 3) := by decide +kernel
theorem d_Model_look_297 : decode b_Model_look 297 = .ok (.iinc 4 1, 3) := by decide +kernel
theorem d_Model_look_300 : decode b_Model_look 300 = .ok (.goto (-44), 3) := by decide +kernel
theorem d_Model_look_303 : decode b_Model_look 303 = .ok (.iconst 3, 1) := by decide +kernel
theorem d_Model_look_304 : decode b_Model_look 304 = .ok (.istore 4, 2) := by decide +kernel
theorem d_Model_look_306 : decode b_Model_look 306 = .ok (.iload 4, 2) := by decide +kernel
theorem d_Model_look_308 : decode b_Model_look 308 = .ok (.aload_n 0, 1) := by decide +kernel
theorem d_Model_look_309 : decode b_Model_look 309 = .ok (.getfield 74, 3) := by decide +kernel
theorem d_Model_look_312 : decode b_Model_look 312 = .ok (.if_icmp .ge 85, 3) := by decide +kernel
theorem d_Model_look_315 : decode b_Model_look 315 = .ok (.aload_n 0, 1) := by decide +kernel
theorem d_Model_look_316 : decode b_Model_look 316 = .ok (.getfield 29, 3) := by decide +kernel
theorem d_Model_look_319 : decode b_Model_look 319 = .ok (.iload 4, 2) := by decide +kernel
theorem d_Model_look_321 : decode b_Model_look 321 = .ok (.baload, 1) := by decide +kernel
theorem d_Model_look_322 : decode b_Model_look 322 = .ok (.ifCond .eq 69, 3) := by decide +kernel
theorem d_Model_look_325 : decode b_Model_look 325 = .ok (.aload_n 0, 1) := by decide +kernel
theorem d_Model_look_326 : decode b_Model_look 326 = .ok (.iload 4, 2) := by decide +kernel
theorem d_Model_look_328 : decode b_Model_look 328 = .ok (.invokevirtual 81, 3) := by decide +kernel
theorem d_Model_look_331 : decode b_Model_look 331 = .ok (.bipush 16, 2) := by decide +kernel
theorem d_Model_look_333 : decode b_Model_look 333 = .ok (.if_icmp .lt 58, 3) := by decide +kernel
theorem d_Model_look_336 : decode b_Model_look 336 = .ok (.aload_n 0, 1) := by decide +kernel
theorem d_Model_look_337 : decode b_Model_look 337 = .ok (.iload 4, 2) := by decide +kernel
theorem d_Model_look_339 : decode b_Model_look 339 = .ok (.invokevirtual 81, 3) := by decide +kernel
theorem d_Model_look_342 : decode b_Model_look 342 = .ok (.bipush 18, 2) := by decide +kernel
theorem d_Model_look_344 : decode b_Model_look 344 = .ok (.if_icmp .le 6, 3) := by decide +kernel
theorem d_Model_look_347 : decode b_Model_look 347 = .ok (.goto 44, 3) := by decide +kernel
theorem d_Model_look_350 : decode b_Model_look 350 = .ok (.aload_n 0, 1) := by decide +kernel
theorem d_Model_look_351 : decode b_Model_look 351 = .ok (.iload 4, 2) := by decide +kernel
theorem d_Model_look_353 : decode b_Model_look 353 = .ok (.iconst 1, 1) := by decide +kernel
theorem d_Model_look_354 : decode b_Model_look 354 = .ok (.iadd, 1) := by decide +kernel
theorem d_Model_look_355 : decode b_Model_look 355 = .ok (.invokevirtual 81, 3) := by decide +kernel
theorem d_Model_look_358 : decode b_Model_look 358 = .ok (.aload_n 0, 1) := by decide +kernel
theorem d_Model_look_359 : decode b_Model_look 359 = .ok (.getfield 74, 3) := by decide +kernel
theorem d_Model_look_362 : decode b_Model_look 362 = .ok (.if_icmp .ge 19, 3) := by decide +kernel
theorem d_Model_look_365 : decode b_Model_look 365 = .ok (.aload_n 0, 1) := by decide +kernel
theorem d_Model_look_366 : decode b_Model_look 366 = .ok (.getfield 29, 3) := by decide +kernel
theorem d_Model_look_369 : decode b_Model_look 369 = .ok (.aload_n 0, 1) := by decide +kernel
theorem d_Model_look_370 : decode b_Model_look 370 = .ok (.iload 4, 2) := by decide +kernel
theorem d_Model_look_372 : decode b_Model_look 372 = .ok (.iconst 1, 1) := by decide +kernel
theorem d_Model_look_373 : decode b_Model_look 373 = .ok (.iadd, 1) := by decide +kernel
theorem d_Model_look_374 : decode b_Model_look 374 = .ok (.invokevirtual 81, 3) := by decide +kernel
theorem d_Model_look_377 : decode b_Model_look 377 = .ok (.baload, 1) := by decide +kernel
theorem d_Model_look_378 : decode b_Model_look 378 = .ok (.ifCond .ne 13, 3) := by decide +kernel
theorem d_Model_look_381 : decode b_Model_look 381 = .ok (.aload_n 0, 1) := by decide +kernel
theorem d_Model_look_382 : decode b_Model_look 382 = .ok (.bipush 6, 2) := by decide +kernel
theorem d_Model_look_384 : decode b_Model_look 384 = .ok (.iload 4, 2) := by decide +kernel
theorem d_Model_look_386 : decode b_Model_look 386 = .ok (.iconst 1, 1) := by decide +kernel
theorem d_Model_look_387 : decode b_Model_look 387 = .ok (.iadd, 1) := by decide +kernel
theorem d_Model_look_388 : decode b_Model_look 388 = .ok (.invokevirtual 77, 3) := by decide +kernel
theorem d_Model_look_391 : decode b_Model_look 391 = .ok (.iinc 4 1, 3) := by decide +kernel
theorem d_Model_look_394 : decode b_Model_look 394 = .ok (.goto (-88), 3) := by decide +kernel
theorem d_Model_look_397 : decode b_Model_look 397 = .ok (.aload_n 0, 1) := by decide +kernel
theorem d_Model_look_398 : decode b_Model_look 398 = .ok (.getfield 68, 3) := by decide +kernel
theorem d_Model_look_401 : decode b_Model_look 401 = .ok (.ifCond .ne 7, 3) := by decide +kernel
theorem d_Model_look_404 : decode b_Model_look 404 = .ok (.aload_n 0, 1) := by decide +kernel
theorem d_Model_look_405 : decode b_Model_look 405 = .ok (.invokevirtual 93, 3) := by decide +kernel
theorem d_Model_look_408 : decode b_Model_look 408 = .ok (.iload_n 1, 1) := by decide +kernel
theorem d_Model_look_409 : decode b_Model_look 409 = .ok (.ireturn, 1) := by decide +kernel
theorem d_Model_come_0 : decode b_Model_come 0 = .ok (.aload_n 0, 1) := by decide +kernel
theorem d_Model_come_1 : decode b_Model_come 1 = .ok (.getfield 33, 3) := by decide +kernel
theorem d_Model_come_4 : decode b_Model_come 4 = .ok (.iload_n 1, 1) := by decide +kernel
theorem d_Model_come_5 : decode b_Model_come 5 = .ok (.iaload, 1) := by decide +kernel
theorem d_Model_come_6 : decode b_Model_come 6 = .ok (.iconst (-1), 1) := by decide +kernel
theorem d_Model_come_7 : decode b_Model_come 7 = .ok (.if_icmp .ne 13, 3) := by decide +kernel
theorem d_Model_come_10 : decode b_Model_come 10 = .ok (.aload_n 0, 1) := by decide +kernel
theorem d_Model_come_11 : decode b_Model_come 11 = .ok (.getfield 33, 3) := by decide +kernel
theorem d_Model_come_14 : decode b_Model_come 14 = .ok (.iload_n 1, 1) := by decide +kernel
theorem d_Model_come_15 : decode b_Model_come 15 = .ok (.iload_n 2, 1) := by decide +kernel
theorem d_Model_come_16 : decode b_Model_come 16 = .ok (.iastore, 1) := by decide +kernel
theorem d_Model_come_17 : decode b_Model_come 17 = .ok (.goto 20, 3) := by decide +kernel
theorem d_Model_come_20 : decode b_Model_come 20 = .ok (.aload_n 0, 1) := by decide +kernel
theorem d_Model_come_21 : decode b_Model_come 21 = .ok (.getfield 33, 3) := by decide +kernel
theorem d_Model_come_24 : decode b_Model_come 24 = .ok (.iload_n 1, 1) := by decide +kernel
theorem d_Model_come_25 : decode b_Model_come 25 = .ok (.iaload, 1) := by decide +kernel
theorem d_Model_come_26 : decode b_Model_come 26 = .ok (.iload_n 2, 1) := by decide +kernel
theorem d_Model_come_27 : decode b_Model_come 27 = .ok (.if_icmp .eq 10, 3) := by decide +kernel
theorem d_Model_come_30 : decode b_Model_come 30 = .ok (.aload_n 0, 1) := by decide +kernel
theorem d_Model_come_31 : decode b_Model_come 31 = .ok (.bipush 8, 2) := by decide +kernel
theorem d_Model_come_33 : decode b_Model_come 33 = .ok (.iload_n 1, 1) := by decide +kernel
theorem d_Model_come_34 : decode b_Model_come 34 = .ok (.invokevirtual 77, 3) := by decide +kernel
theorem d_Model_come_37 : decode b_Model_come 37 = .ok (.return_, 1) := by decide +kernel
theorem d_Model_walk_0 : decode b_Model_walk 0 = .ok (.iconst 0, 1) := by decide +kernel
theorem d_Model_walk_1 : decode b_Model_walk 1 = .ok (.istore_n 1, 1) := by decide +kernel
theorem d_Model_walk_2 : decode b_Model_walk 2 = .ok (.iload_n 1, 1) := by decide +kernel
theorem d_Model_walk_3 : decode b_Model_walk 3 = .ok (.iconst 3, 1) := by decide +kernel
theorem d_Model_walk_4 : decode b_Model_walk 4 = .ok (.if_icmp .ge 19, 3) := by decide +kernel
theorem d_Model_walk_7 : decode b_Model_walk 7 = .ok (.aload_n 0, 1) := by decide +kernel
theorem d_Model_walk_8 : decode b_Model_walk 8 = .ok (.aload_n 0, 1) := by decide +kernel
theorem d_Model_walk_9 : decode b_Model_walk 9 = .ok (.iload_n 1, 1) := by decide +kernel
theorem d_Model_walk_10 : decode b_Model_walk 10 = .ok (.invokevirtual 81, 3) := by decide +kernel
theorem d_Model_walk_13 : decode b_Model_walk 13 = .ok (.iconst 0, 1) := by decide +kernel
theorem d_Model_walk_14 : decode b_Model_walk 14 = .ok (.invokevirtual 96, 3) := by decide +kernel
theorem d_Model_walk_17 : decode b_Model_walk 17 = .ok (.iinc 1 1, 3) := by decide +kernel
theorem d_Model_walk_20 : decode b_Model_walk 20 = .ok (.goto (-18), 3) := by decide +kernel
theorem d_Model_walk_23 : decode b_Model_walk 23 = .ok (.iconst 1, 1) := by decide +kernel
theorem d_Model_walk_24 : decode b_Model_walk 24 = .ok (.istore_n 1, 1) := by decide +kernel
theorem d_Model_walk_25 : decode b_Model_walk 25 = .ok (.iload_n 1, 1) := by decide +kernel
theorem d_Model_walk_26 : decode b_Model_walk 26 = .ok (.ifCond .eq 71, 3) := by decide +kernel
theorem d_Model_walk_29 : decode b_Model_walk 29 = .ok (.aload_n 0, 1) := by decide +kernel
theorem d_Model_walk_30 : decode b_Model_walk 30 = .ok (.getfield 68, 3) := by decide +kernel
theorem d_Model_walk_33 : decode b_Model_walk 33 = .ok (.ifCond .ne 64, 3) := by decide +kernel
theorem d_Model_walk_36 : decode b_Model_walk 36 = .ok (.iconst 3, 1) := by decide +kernel
theorem d_Model_walk_37 : decode b_Model_walk 37 = .ok (.istore_n 2, 1) := by decide +kernel
theorem d_Model_walk_38 : decode b_Model_walk 38 = .ok (.iload_n 2, 1) := by decide +kernel
theorem d_Model_walk_39 : decode b_Model_walk 39 = .ok (.aload_n 0, 1) := by decide +kernel
theorem d_Model_walk_40 : decode b_Model_walk 40 = .ok (.getfield 74, 3) := by decide +kernel
theorem d_Model_walk_43 : decode b_Model_walk 43 = .ok (.if_icmp .ge 28, 3) := by decide +kernel
theorem d_Model_walk_46 : decode b_Model_walk 46 = .ok (.aload_n 0, 1) := by decide +kernel
theorem d_Model_walk_47 : decode b_Model_walk 47 = .ok (.getfield 33, 3) := by decide +kernel
theorem d_Model_walk_50 : decode b_Model_walk 50 = .ok (.iload_n 2, 1) := by decide +kernel
theorem d_Model_walk_51 : decode b_Model_walk 51 = .ok (.iaload, 1) := by decide +kernel
theorem d_Model_walk_52 : decode b_Model_walk 52 = .ok (.iconst (-1), 1) := by decide +kernel
theorem d_Model_walk_53 : decode b_Model_walk 53 = .ok (.if_icmp .eq 12, 3) := by decide +kernel
theorem d_Model_walk_56 : decode b_Model_walk 56 = .ok (.aload_n 0, 1) := by decide +kernel
theorem d_Model_walk_57 : decode b_Model_walk 57 = .ok (.getfield 36, 3) := by decide +kernel
theorem d_Model_walk_60 : decode b_Model_walk 60 = .ok (.iload_n 2, 1) := by decide +kernel
theorem d_Model_walk_61 : decode b_Model_walk 61 = .ok (.baload, 1) := by decide +kernel
theorem d_Model_walk_62 : decode b_Model_walk 62 = .ok (.ifCond .eq 9, 3) := by decide +kernel
theorem d_Model_walk_65 : decode b_Model_walk 65 = .ok (.iinc 2 1, 3) := by decide +kernel
theorem d_Model_walk_68 : decode b_Model_walk 68 = .ok (.goto (-30), 3) := by decide +kernel
theorem d_Model_walk_71 : decode b_Model_walk 71 = .ok (.iload_n 2, 1) := by decide +kernel
theorem d_Model_walk_72 : decode b_Model_walk 72 = .ok (.aload_n 0, 1) := by decide +kernel
theorem d_Model_walk_73 : decode b_Model_walk 73 = .ok (.getfield 74, 3) := by decide +kernel
theorem d_Model_walk_76 : decode b_Model_walk 76 = .ok (.if_icmp .ge 7, 3) := by decide +kernel
theorem d_Model_walk_79 : decode b_Model_walk 79 = .ok (.iconst 1, 1) := by decide +kernel
theorem d_Model_walk_80 : decode b_Model_walk 80 = .ok (.goto 4, 3) := by decide +kernel
theorem d_Model_walk_83 : decode b_Model_walk 83 = .ok (.iconst 0, 1) := by decide +kernel
theorem d_Model_walk_84 : decode b_Model_walk 84 = .ok (.istore_n 1, 1) := by decide +kernel
theorem d_Model_walk_85 : decode b_Model_walk 85 = .ok (.iload_n 1, 1) := by decide +kernel
theorem d_Model_walk_86 : decode b_Model_walk 86 = .ok (.ifCond .eq 8, 3) := by decide +kernel
theorem d_Model_walk_89 : decode b_Model_walk 89 = .ok (.aload_n 0, 1) := by decide +kernel
theorem d_Model_walk_90 : decode b_Model_walk 90 = .ok (.iload_n 2, 1) := by decide +kernel
theorem d_Model_walk_91 : decode b_Model_walk 91 = .ok (.invokevirtual 99, 3) := by decide +kernel
theorem d_Model_walk_94 : decode b_Model_walk 94 = .ok (.goto (-69), 3) := by decide +kernel
theorem d_Model_walk_97 : decode b_Model_walk 97 = .ok (.return_, 1) := by decide +kernel
theorem d_Model_goThrough_0 : decode b_Model_goThrough 0 = .ok (.aload_n 0, 1) := by decide +kernel
theorem d_Model_goThrough_1 : decode b_Model_goThrough 1 = .ok (.getfield 36, 3) := by decide +kernel
theorem d_Model_goThrough_4 : decode b_Model_goThrough 4 = .ok (.iload_n 1, 1) := by decide +kernel
theorem d_Model_goThrough_5 : decode b_Model_goThrough 5 = .ok (.baload, 1) := by decide +kernel
theorem d_Model_goThrough_6 : decode b_Model_goThrough 6 = .ok (.ifCond .ne 10, 3) := by decide +kernel
theorem d_Model_goThrough_9 : decode b_Model_goThrough 9 = .ok (.aload_n 0, 1) := by decide +kernel
theorem d_Model_goThrough_10 : decode b_Model_goThrough 10 = .ok (.getfield 68, 3) := by decide +kernel
theorem d_Model_goThrough_13 : decode b_Model_goThrough 13 = .ok (.ifCond .le 4, 3) := by decide +kernel
theorem d_Model_goThrough_16 : decode b_Model_goThrough 16 = .ok (.return_, 1) := by decide +kernel
theorem d_Model_goThrough_17 : decode b_Model_goThrough 17 = .ok (.aload_n 0, 1) := by decide +kernel
theorem d_Model_goThrough_18 : decode b_Model_goThrough 18 = .ok (.getfield 36, 3) := by decide +kernel
theorem d_Model_goThrough_21 : decode b_Model_goThrough 21 = .ok (.iload_n 1, 1) := by decide +kernel
theorem d_Model_goThrough_22 : decode b_Model_goThrough 22 = .ok (.iconst 1, 1) := by decide +kernel
theorem d_Model_goThrough_23 : decode b_Model_goThrough 23 = .ok (.bastore, 1) := by decide +kernel
theorem d_Model_goThrough_24 : decode b_Model_goThrough 24 = .ok (.aload_n 0, 1) := by decide +kernel
theorem d_Model_goThrough_25 : decode b_Model_goThrough 25 = .ok (.iload_n 1, 1) := by decide +kernel
theorem d_Model_goThrough_26 : decode b_Model_goThrough 26 = .ok (.invokevirtual 81, 3) := by decide +kernel
theorem d_Model_goThrough_29 : decode b_Model_goThrough 29 = .ok (.istore_n 2, 1) := by decide +kernel
theorem d_Model_goThrough_30 : decode b_Model_goThrough 30 = .ok (.aload_n 0, 1) := by decide +kernel
theorem d_Model_goThrough_31 : decode b_Model_goThrough 31 = .ok (.getfield 33, 3) := by decide +kernel
theorem d_Model_goThrough_34 : decode b_Model_goThrough 34 = .ok (.iload_n 1, 1) := by decide +kernel
theorem d_Model_goThrough_35 : decode b_Model_goThrough 35 = .ok (.iaload, 1) := by decide +kernel
theorem d_Model_goThrough_36 : decode b_Model_goThrough 36 = .ok (.iload_n 2, 1) := by decide +kernel
theorem d_Model_goThrough_37 : decode b_Model_goThrough 37 = .ok (.invokestatic 102, 3) := by decide +kernel
theorem d_Model_goThrough_40 : decode b_Model_goThrough 40 = .ok (.isub, 1) := by decide +kernel
theorem d_Model_goThrough_41 : decode b_Model_goThrough 41 = .ok (.istore_n 3, 1) := by decide +kernel
theorem d_Model_goThrough_42 : decode b_Model_goThrough 42 = .ok (.iload_n 3, 1) := by decide +kernel
theorem d_Model_goThrough_43 : decode b_Model_goThrough 43 = .ok (.ifCond .lt 14, 3) := by decide +kernel
theorem d_Model_goThrough_46 : decode b_Model_goThrough 46 = .ok (.iload_n 3, 1) := by decide +kernel
theorem d_Model_goThrough_47 : decode b_Model_goThrough 47 = .ok (.iload_n 2, 1) := by decide +kernel
theorem d_Model_goThrough_48 : decode b_Model_goThrough 48 = .ok (.invokestatic 105, 3) := by decide +kernel
theorem d_Model_goThrough_51 : decode b_Model_goThrough 51 = .ok (.iadd, 1) := by decide +kernel
theorem d_Model_goThrough_52 : decode b_Model_goThrough 52 = .ok (.bipush 8, 2) := by decide +kernel
theorem d_Model_goThrough_54 : decode b_Model_goThrough 54 = .ok (.if_icmp .le 11, 3) := by decide +kernel
theorem d_Model_goThrough_57 : decode b_Model_goThrough 57 = .ok (.aload_n 0, 1) := by decide +kernel
theorem d_Model_goThrough_58 : decode b_Model_goThrough 58 = .ok (.bipush 7, 2) := by decide +kernel
theorem d_Model_goThrough_60 : decode b_Model_goThrough 60 = .ok (.iload_n 1, 1) := by decide +kernel
theorem d_Model_goThrough_61 : decode b_Model_goThrough 61 = .ok (.invokevirtual 77, 3) := by decide +kernel
theorem d_Model_goThrough_64 : decode b_Model_goThrough 64 = .ok (.return_, 1) := by decide +kernel
theorem d_Model_goThrough_65 : decode b_Model_goThrough 65 = .ok (.iload_n 3, 1) := by decide +kernel
theorem d_Model_goThrough_66 : decode b_Model_goThrough 66 = .ok (.iload_n 2, 1) := by decide +kernel
theorem d_Model_goThrough_67 : decode b_Model_goThrough 67 = .ok (.invokestatic 105, 3) := by decide +kernel
theorem d_Model_goThrough_70 : decode b_Model_goThrough 70 = .ok (.iadd, 1) := by decide +kernel
theorem d_Model_goThrough_71 : decode b_Model_goThrough 71 = .ok (.istore_n 3, 1) := by decide +kernel
theorem d_Model_goThrough_72 : decode b_Model_goThrough 72 = .ok (.iload_n 1, 1) := by decide +kernel
theorem d_Model_goThrough_73 : decode b_Model_goThrough 73 = .ok (.iload_n 2, 1) := by decide +kernel
theorem d_Model_goThrough_74 : decode b_Model_goThrough 74 = .ok (.invokestatic 85, 3) := by decide +kernel
theorem d_Model_goThrough_77 : decode b_Model_goThrough 77 = .ok (.ifCond .eq 7, 3) := by decide +kernel
theorem d_Model_goThrough_80 : decode b_Model_goThrough 80 = .ok (.iconst 2, 1) := by decide +kernel
theorem d_Model_goThrough_81 : decode b_Model_goThrough 81 = .ok (.goto 4, 3) := by decide +kernel
theorem d_Model_goThrough_84 : decode b_Model_goThrough 84 = .ok (.iconst 1, 1) := by decide +kernel
theorem d_Model_goThrough_85 : decode b_Model_goThrough 85 = .ok (.iadd, 1) := by decide +kernel
theorem d_Model_goThrough_86 : decode b_Model_goThrough 86 = .ok (.istore 4, 2) := by decide +kernel
theorem d_Model_goThrough_88 : decode b_Model_goThrough 88 = .ok (.iload_n 2, 1) := by decide +kernel
theorem d_Model_goThrough_89 : decode b_Model_goThrough 89 = .ok (.bipush 22, 2) := by decide +kernel
theorem d_Model_goThrough_91 : decode b_Model_goThrough 91 = .ok (.if_icmp .lt 10, 3) := by decide +kernel
theorem d_Model_goThrough_94 : decode b_Model_goThrough 94 = .ok (.iload_n 2, 1) := by decide +kernel
theorem d_Model_goThrough_95 : decode b_Model_goThrough 95 = .ok (.bipush 24, 2) := by decide +kernel
theorem d_Model_goThrough_97 : decode b_Model_goThrough 97 = .ok (.if_icmp .gt 4, 3) := by decide +kernel
theorem d_Model_goThrough_100 : decode b_Model_goThrough 100 = .ok (.return_, 1) := by decide +kernel
theorem d_Model_goThrough_101 : decode b_Model_goThrough 101 = .ok (.iload_n 2, 1) := by decide +kernel
theorem d_Model_goThrough_102 : decode b_Model_goThrough 102 = .ok (.bipush 16, 2) := by decide +kernel
theorem d_Model_goThrough_104 : decode b_Model_goThrough 104 = .ok (.if_icmp .lt 9, 3) := by decide +kernel
theorem d_Model_goThrough_107 : decode b_Model_goThrough 107 = .ok (.iload_n 2, 1) := by decide +kernel
theorem d_Model_goThrough_108 : decode b_Model_goThrough 108 = .ok (.bipush 18, 2) := by decide +kernel
theorem d_Model_goThrough_110 : decode b_Model_goThrough 110 = .ok (.if_icmp .le 11, 3) := by decide +kernel
theorem d_Model_goThrough_113 : decode b_Model_goThrough 113 = .ok (.aload_n 0, 1) := by decide +kernel
theorem d_Model_goThrough_114 : decode b_Model_goThrough 114 = .ok (.iload 4, 2) := by decide +kernel
theorem d_Model_goThrough_116 : decode b_Model_goThrough 116 = .ok (.iload_n 3, 1) := by decide +kernel
theorem d_Model_goThrough_117 : decode b_Model_goThrough 117 = .ok (.invokevirtual 96, 3) := by decide +kernel
theorem d_Model_goThrough_120 : decode b_Model_goThrough 120 = .ok (.return_, 1) := by decide +kernel
theorem d_Model_goThrough_121 : decode b_Model_goThrough 121 = .ok (.aload_n 0, 1) := by decide +kernel
theorem d_Model_goThrough_122 : decode b_Model_goThrough 122 = .ok (.iload_n 1, 1) := by decide +kernel
theorem d_Model_goThrough_123 : decode b_Model_goThrough 123 = .ok (.iconst 1, 1) := by decide +kernel
theorem d_Model_goThrough_124 : decode b_Model_goThrough 124 = .ok (.iadd, 1) := by decide +kernel
theorem d_Model_goThrough_125 : decode b_Model_goThrough 125 = .ok (.invokevirtual 81, 3) := by decide +kernel
theorem d_Model_goThrough_128 : decode b_Model_goThrough 128 = .ok (.istore 5, 2) := by decide +kernel
theorem d_Model_goThrough_130 : decode b_Model_goThrough 130 = .ok (.iload_n 2, 1) := by decide +kernel
theorem d_Model_goThrough_131 : decode b_Model_goThrough 131 = .ok (.bipush 16, 2) := by decide +kernel
theorem d_Model_goThrough_133 : decode b_Model_goThrough 133 = .ok (.if_icmp .ne 11, 3) := by decide +kernel
theorem d_Model_goThrough_136 : decode b_Model_goThrough 136 = .ok (.aload_n 0, 1) := by decide +kernel
theorem d_Model_goThrough_137 : decode b_Model_goThrough 137 = .ok (.iload 5, 2) := by decide +kernel
theorem d_Model_goThrough_139 : decode b_Model_goThrough 139 = .ok (.iload_n 3, 1) := by decide +kernel
theorem d_Model_goThrough_140 : decode b_Model_goThrough 140 = .ok (.invokevirtual 96, 3) := by decide +kernel
theorem d_Model_goThrough_143 : decode b_Model_goThrough 143 = .ok (.return_, 1) := by decide +kernel
theorem d_Model_goThrough_144 : decode b_Model_goThrough 144 = .ok (.aload_n 0, 1) := by decide +kernel
theorem d_Model_goThrough_145 : decode b_Model_goThrough 145 = .ok (.iload 5, 2) := by decide +kernel
theorem d_Model_goThrough_147 : decode b_Model_goThrough 147 = .ok (.iload 4, 2) := by decide +kernel
theorem d_Model_goThrough_149 : decode b_Model_goThrough 149 = .ok (.if_icmp .ge 8, 3) := by decide +kernel
theorem d_Model_goThrough_152 : decode b_Model_goThrough 152 = .ok (.iload 5, 2) := by decide +kernel
theorem d_Model_goThrough_154 : decode b_Model_goThrough 154 = .ok (.goto 5, 3) := by decide +kernel
theorem d_Model_goThrough_157 : decode b_Model_goThrough 157 = .ok (.iload 4, 2) := by decide +kernel
theorem d_Model_goThrough_159 : decode b_Model_goThrough 159 = .ok (.iload_n 3, 1) := by decide +kernel
theorem d_Model_goThrough_160 : decode b_Model_goThrough 160 = .ok (.invokevirtual 96, 3) := by decide +kernel
theorem d_Model_goThrough_163 : decode b_Model_goThrough 163 = .ok (.aload_n 0, 1) := by decide +kernel
theorem d_Model_goThrough_164 : decode b_Model_goThrough 164 = .ok (.iload 5, 2) := by decide +kernel
theorem d_Model_goThrough_166 : decode b_Model_goThrough 166 = .ok (.iload 4, 2) := by decide +kernel
theorem d_Model_goThrough_168 : decode b_Model_goThrough 168 = .ok (.if_icmp .ge 8, 3) := by decide +kernel
theorem d_Model_goThrough_171 : decode b_Model_goThrough 171 = .ok (.iload 4, 2) := by decide +kernel
theorem d_Model_goThrough_173 : decode b_Model_goThrough 173 = .ok (.goto 5, 3) := by decide +kernel
theorem d_Model_goThrough_176 : decode b_Model_goThrough 176 = .ok (.iload 5, 2) := by decide +kernel
theorem d_Model_goThrough_178 : decode b_Model_goThrough 178 = .ok (.iload_n 3, 1) := by decide +kernel
theorem d_Model_goThrough_179 : decode b_Model_goThrough 179 = .ok (.invokevirtual 96, 3) := by decide +kernel
theorem d_Model_goThrough_182 : decode b_Model_goThrough 182 = .ok (.return_, 1) := by decide +kernel
theorem d_Model_load_0 : decode b_Model_load 0 = .ok (.iload_n 1, 1) := by decide +kernel
theorem d_Model_load_1 : decode b_Model_load 1 = .ok (.ifCond .lt 16, 3) := by decide +kernel
theorem d_Model_load_4 : decode b_Model_load 4 = .ok (.iload_n 1, 1) := by decide +kernel
theorem d_Model_load_5 : decode b_Model_load 5 = .ok (.bipush 8, 2) := by decide +kernel
theorem d_Model_load_7 : decode b_Model_load 7 = .ok (.if_icmp .ge 10, 3) := by decide +kernel
theorem d_Model_load_10 : decode b_Model_load 10 = .ok (.aload_n 0, 1) := by decide +kernel
theorem d_Model_load_11 : decode b_Model_load 11 = .ok (.getfield 108, 3) := by decide +kernel
theorem d_Model_load_14 : decode b_Model_load 14 = .ok (.ifCond .eq 5, 3) := by decide +kernel
theorem d_Model_load_17 : decode b_Model_load 17 = .ok (.iconst (-1), 1) := by decide +kernel
theorem d_Model_load_18 : decode b_Model_load 18 = .ok (.ireturn, 1) := by decide +kernel
theorem d_Model_load_19 : decode b_Model_load 19 = .ok (.aload_n 0, 1) := by decide +kernel
theorem d_Model_load_20 : decode b_Model_load 20 = .ok (.invokevirtual 112, 3) := by decide +kernel
theorem d_Model_load_23 : decode b_Model_load 23 = .ok (.istore_n 2, 1) := by decide +kernel
theorem d_Model_load_24 : decode b_Model_load 24 = .ok (.aload_n 0, 1) := by decide +kernel
theorem d_Model_load_25 : decode b_Model_load 25 = .ok (.iconst 0, 1) := by decide +kernel
theorem d_Model_load_26 : decode b_Model_load 26 = .ok (.putfield 60, 3) := by decide +kernel
theorem d_Model_load_29 : decode b_Model_load 29 = .ok (.aload_n 0, 1) := by decide +kernel
theorem d_Model_load_30 : decode b_Model_load 30 = .ok (.getfield 68, 3) := by decide +kernel
theorem d_Model_load_33 : decode b_Model_load 33 = .ok (.ifCond .le 17, 3) := by decide +kernel
theorem d_Model_load_36 : decode b_Model_load 36 = .ok (.sipush (-1000), 3) := by decide +kernel
theorem d_Model_load_39 : decode b_Model_load 39 = .ok (.aload_n 0, 1) := by decide +kernel
theorem d_Model_load_40 : decode b_Model_load 40 = .ok (.getfield 68, 3) := by decide +kernel
theorem d_Model_load_43 : decode b_Model_load 43 = .ok (.imul, 1) := by decide +kernel
theorem d_Model_load_44 : decode b_Model_load 44 = .ok (.aload_n 0, 1) := by decide +kernel
theorem d_Model_load_45 : decode b_Model_load 45 = .ok (.getfield 71, 3) := by decide +kernel
theorem d_Model_load_48 : decode b_Model_load 48 = .ok (.isub, 1) := by decide +kernel
theorem d_Model_load_49 : decode b_Model_load 49 = .ok (.ireturn, 1) := by decide +kernel
theorem d_Model_load_50 : decode b_Model_load 50 = .ok (.aload_n 0, 1) := by decide +kernel
theorem d_Model_load_51 : decode b_Model_load 51 = .ok (.getfield 16, 3) := by decide +kernel
theorem d_Model_load_54 : decode b_Model_load 54 = .ok (.iload_n 1, 1) := by decide +kernel
theorem d_Model_load_55 : decode b_Model_load 55 = .ok (.aload_n 0, 1) := by decide +kernel
theorem d_Model_load_56 : decode b_Model_load 56 = .ok (.getfield 74, 3) := by decide +kernel
theorem d_Model_load_59 : decode b_Model_load 59 = .ok (.iastore, 1) := by decide +kernel
theorem d_Model_load_60 : decode b_Model_load 60 = .ok (.iconst 0, 1) := by decide +kernel
theorem d_Model_load_61 : decode b_Model_load 61 = .ok (.istore_n 3, 1) := by decide +kernel
theorem d_Model_load_62 : decode b_Model_load 62 = .ok (.iload_n 3, 1) := by decide +kernel
theorem d_Model_load_63 : decode b_Model_load 63 = .ok (.aload_n 0, 1) := by decide +kernel
theorem d_Model_load_64 : decode b_Model_load 64 = .ok (.getfield 74, 3) := by decide +kernel
theorem d_Model_load_67 : decode b_Model_load 67 = .ok (.if_icmp .ge 45, 3) := by decide +kernel
theorem d_Model_load_70 : decode b_Model_load 70 = .ok (.aload_n 0, 1) := by decide +kernel
theorem d_Model_load_71 : decode b_Model_load 71 = .ok (.getfield 13, 3) := by decide +kernel
theorem d_Model_load_74 : decode b_Model_load 74 = .ok (.iload_n 1, 1) := by decide +kernel
theorem d_Model_load_75 : decode b_Model_load 75 = .ok (.sipush 256, 3) := by decide +kernel
theorem d_Model_load_78 : decode b_Model_load 78 = .ok (.imul, 1) := by decide +kernel
theorem d_Model_load_79 : decode b_Model_load 79 = .ok (.iload_n 3, 1) := by decide +kernel
theorem d_Model_load_80 : decode b_Model_load 80 = .ok (.iadd, 1) := by decide +kernel
theorem d_Model_load_81 : decode b_Model_load 81 = .ok (.aload_n 0, 1) := by decide +kernel
theorem d_Model_load_82 : decode b_Model_load 82 = .ok (.getfield 7, 3) := by decide +kernel
theorem d_Model_load_85 : decode b_Model_load 85 = .ok (.iload_n 3, 1) := by decide +kernel
theorem d_Model_load_86 : decode b_Model_load 86 = .ok (.baload, 1) := by decide +kernel
theorem d_Model_load_87 : decode b_Model_load 87 = .ok (.bastore, 1) := by decide +kernel
theorem d_Model_load_88 : decode b_Model_load 88 = .ok (.aload_n 0, 1) := by decide +kernel
theorem d_Model_load_89 : decode b_Model_load 89 = .ok (.getfield 20, 3) := by decide +kernel
theorem d_Model_load_92 : decode b_Model_load 92 = .ok (.iload_n 1, 1) := by decide +kernel
theorem d_Model_load_93 : decode b_Model_load 93 = .ok (.sipush 256, 3) := by decide +kernel
theorem d_Model_load_96 : decode b_Model_load 96 = .ok (.imul, 1) := by decide +kernel
theorem d_Model_load_97 : decode b_Model_load 97 = .ok (.iload_n 3, 1) := by decide +kernel
theorem d_Model_load_98 : decode b_Model_load 98 = .ok (.iadd, 1) := by decide +kernel
theorem d_Model_load_99 : decode b_Model_load 99 = .ok (.aload_n 0, 1) := by decide +kernel
theorem d_Model_load_100 : decode b_Model_load 100 = .ok (.getfield 33, 3) := by decide +kernel
theorem d_Model_load_103 : decode b_Model_load 103 = .ok (.iload_n 3, 1) := by decide +kernel
theorem d_Model_load_104 : decode b_Model_load 104 = .ok (.iaload, 1) := by decide +kernel
theorem d_Model_load_105 : decode b_Model_load 105 = .ok (.iastore, 1) := by decide +kernel
theorem d_Model_load_106 : decode b_Model_load 106 = .ok (.iinc 3 1, 3) := by decide +kernel
theorem d_Model_load_109 : decode b_Model_load 109 = .ok (.goto (-47), 3) := by decide +kernel
theorem d_Model_load_112 : decode b_Model_load 112 = .ok (.iconst 0, 1) := by decide +kernel
theorem d_Model_load_113 : decode b_Model_load 113 = .ok (.istore_n 3, 1) := by decide +kernel
theorem d_Model_load_114 : decode b_Model_load 114 = .ok (.iload_n 3, 1) := by decide +kernel
theorem d_Model_load_115 : decode b_Model_load 115 = .ok (.bipush 16, 2) := by decide +kernel
theorem d_Model_load_117 : decode b_Model_load 117 = .ok (.if_icmp .ge 21, 3) := by decide +kernel
theorem d_Model_load_120 : decode b_Model_load 120 = .ok (.aload_n 0, 1) := by decide +kernel
theorem d_Model_load_121 : decode b_Model_load 121 = .ok (.getfield 23, 3) := by decide +kernel
theorem d_Model_load_124 : decode b_Model_load 124 = .ok (.iload_n 1, 1) := by decide +kernel
theorem d_Model_load_125 : decode b_Model_load 125 = .ok (.bipush 16, 2) := by decide +kernel
theorem d_Model_load_127 : decode b_Model_load 127 = .ok (.imul, 1) := by decide +kernel
theorem d_Model_load_128 : decode b_Model_load 128 = .ok (.iload_n 3, 1) := by decide +kernel
theorem d_Model_load_129 : decode b_Model_load 129 = .ok (.iadd, 1) := by decide +kernel
theorem d_Model_load_130 : decode b_Model_load 130 = .ok (.iconst 0, 1) := by decide +kernel
theorem d_Model_load_131 : decode b_Model_load 131 = .ok (.iastore, 1) := by decide +kernel
theorem d_Model_load_132 : decode b_Model_load 132 = .ok (.iinc 3 1, 3) := by decide +kernel
theorem d_Model_load_135 : decode b_Model_load 135 = .ok (.goto (-21), 3) := by decide +kernel
theorem d_Model_load_138 : decode b_Model_load 138 = .ok (.iload_n 2, 1) := by decide +kernel
theorem d_Model_load_139 : decode b_Model_load 139 = .ok (.ireturn, 1) := by decide +kernel
theorem d_Model_begin_0 : decode b_Model_begin 0 = .ok (.iload_n 1, 1) := by decide +kernel
theorem d_Model_begin_1 : decode b_Model_begin 1 = .ok (.ifCond .lt 27, 3) := by decide +kernel
theorem d_Model_begin_4 : decode b_Model_begin 4 = .ok (.iload_n 1, 1) := by decide +kernel
theorem d_Model_begin_5 : decode b_Model_begin 5 = .ok (.bipush 8, 2) := by decide +kernel
theorem d_Model_begin_7 : decode b_Model_begin 7 = .ok (.if_icmp .ge 21, 3) := by decide +kernel
theorem d_Model_begin_10 : decode b_Model_begin 10 = .ok (.aload_n 0, 1) := by decide +kernel
theorem d_Model_begin_11 : decode b_Model_begin 11 = .ok (.getfield 16, 3) := by decide +kernel
theorem d_Model_begin_14 : decode b_Model_begin 14 = .ok (.iload_n 1, 1) := by decide +kernel
theorem d_Model_begin_15 : decode b_Model_begin 15 = .ok (.iaload, 1) := by decide +kernel
theorem d_Model_begin_16 : decode b_Model_begin 16 = .ok (.ifCond .eq 12, 3) := by decide +kernel
theorem d_Model_begin_19 : decode b_Model_begin 19 = .ok (.iload_n 2, 1) := by decide +kernel
theorem d_Model_begin_20 : decode b_Model_begin 20 = .ok (.ifCond .lt 8, 3) := by decide +kernel
theorem d_Model_begin_23 : decode b_Model_begin 23 = .ok (.iload_n 2, 1) := by decide +kernel
theorem d_Model_begin_24 : decode b_Model_begin 24 = .ok (.iconst 2, 1) := by decide +kernel
theorem d_Model_begin_25 : decode b_Model_begin 25 = .ok (.if_icmp .le 5, 3) := by decide +kernel
theorem d_Model_begin_28 : decode b_Model_begin 28 = .ok (.iconst (-1), 1) := by decide +kernel
theorem d_Model_begin_29 : decode b_Model_begin 29 = .ok (.ireturn, 1) := by decide +kernel
theorem d_Model_begin_30 : decode b_Model_begin 30 = .ok (.aload_n 0, 1) := by decide +kernel
theorem d_Model_begin_31 : decode b_Model_begin 31 = .ok (.getfield 108, 3) := by decide +kernel
theorem d_Model_begin_34 : decode b_Model_begin 34 = .ok (.ifCond .eq 7, 3) := by decide +kernel
theorem d_Model_begin_37 : decode b_Model_begin 37 = .ok (.aload_n 0, 1) := by decide +kernel
theorem d_Model_begin_38 : decode b_Model_begin 38 = .ok (.invokevirtual 116, 3) := by decide +kernel
theorem d_Model_begin_41 : decode b_Model_begin 41 = .ok (.iconst 0, 1) := by decide +kernel
theorem d_Model_begin_42 : decode b_Model_begin 42 = .ok (.istore_n 3, 1) := by decide +kernel
theorem d_Model_begin_43 : decode b_Model_begin 43 = .ok (.iload_n 3, 1) := by decide +kernel
theorem d_Model_begin_44 : decode b_Model_begin 44 = .ok (.sipush 128, 3) := by decide +kernel
theorem d_Model_begin_47 : decode b_Model_begin 47 = .ok (.if_icmp .ge 21, 3) := by decide +kernel
theorem d_Model_begin_50 : decode b_Model_begin 50 = .ok (.aload_n 0, 1) := by decide +kernel
theorem d_Model_begin_51 : decode b_Model_begin 51 = .ok (.getfield 26, 3) := by decide +kernel
theorem d_Model_begin_54 : decode b_Model_begin 54 = .ok (.iload_n 3, 1) := by decide +kernel
theorem d_Model_begin_55 : decode b_Model_begin 55 = .ok (.aload_n 0, 1) := by decide +kernel
theorem d_Model_begin_56 : decode b_Model_begin 56 = .ok (.getfield 23, 3) := by decide +kernel
theorem d_Model_begin_59 : decode b_Model_begin 59 = .ok (.iload_n 3, 1) := by decide +kernel
theorem d_Model_begin_60 : decode b_Model_begin 60 = .ok (.iaload, 1) := by decide +kernel
theorem d_Model_begin_61 : decode b_Model_begin 61 = .ok (.iastore, 1) := by decide +kernel
theorem d_Model_begin_62 : decode b_Model_begin 62 = .ok (.iinc 3 1, 3) := by decide +kernel
theorem d_Model_begin_65 : decode b_Model_begin 65 = .ok (.goto (-22), 3) := by decide +kernel
theorem d_Model_begin_68 : decode b_Model_begin 68 = .ok (.aload_n 0, 1) := by decide +kernel
theorem d_Model_begin_69 : decode b_Model_begin 69 = .ok (.aload_n 0, 1) := by decide +kernel
theorem d_Model_begin_70 : decode b_Model_begin 70 = .ok (.getfield 60, 3) := by decide +kernel
theorem d_Model_begin_73 : decode b_Model_begin 73 = .ok (.putfield 119, 3) := by decide +kernel
theorem d_Model_begin_76 : decode b_Model_begin 76 = .ok (.iconst 0, 1) := by decide +kernel
theorem d_Model_begin_77 : decode b_Model_begin 77 = .ok (.istore_n 3, 1) := by decide +kernel
theorem d_Model_begin_78 : decode b_Model_begin 78 = .ok (.iload_n 3, 1) := by decide +kernel
theorem d_Model_begin_79 : decode b_Model_begin 79 = .ok (.aload_n 0, 1) := by decide +kernel
theorem d_Model_begin_80 : decode b_Model_begin 80 = .ok (.getfield 60, 3) := by decide +kernel
theorem d_Model_begin_83 : decode b_Model_begin 83 = .ok (.if_icmp .ge 21, 3) := by decide +kernel
theorem d_Model_begin_86 : decode b_Model_begin 86 = .ok (.aload_n 0, 1) := by decide +kernel
theorem d_Model_begin_87 : decode b_Model_begin 87 = .ok (.getfield 54, 3) := by decide +kernel
theorem d_Model_begin_90 : decode b_Model_begin 90 = .ok (.iload_n 3, 1) := by decide +kernel
theorem d_Model_begin_91 : decode b_Model_begin 91 = .ok (.aload_n 0, 1) := by decide +kernel
theorem d_Model_begin_92 : decode b_Model_begin 92 = .ok (.getfield 7, 3) := by decide +kernel
theorem d_Model_begin_95 : decode b_Model_begin 95 = .ok (.iload_n 3, 1) := by decide +kernel
theorem d_Model_begin_96 : decode b_Model_begin 96 = .ok (.baload, 1) := by decide +kernel
theorem d_Model_begin_97 : decode b_Model_begin 97 = .ok (.bastore, 1) := by decide +kernel
theorem d_Model_begin_98 : decode b_Model_begin 98 = .ok (.iinc 3 1, 3) := by decide +kernel
theorem d_Model_begin_101 : decode b_Model_begin 101 = .ok (.goto (-23), 3) := by decide +kernel
theorem d_Model_begin_104 : decode b_Model_begin 104 = .ok (.aload_n 0, 1) := by decide +kernel
theorem d_Model_begin_105 : decode b_Model_begin 105 = .ok (.iconst 0, 1) := by decide +kernel
theorem d_Model_begin_106 : decode b_Model_begin 106 = .ok (.putfield 60, 3) := by decide +kernel
theorem d_Model_begin_109 : decode b_Model_begin 109 = .ok (.aload_n 0, 1) := by decide +kernel
theorem d_Model_begin_110 : decode b_Model_begin 110 = .ok (.iconst 0, 1) := by decide +kernel
theorem d_Model_begin_111 : decode b_Model_begin 111 = .ok (.putfield 122, 3) := by decide +kernel
theorem d_Model_begin_114 : decode b_Model_begin 114 = .ok (.aload_n 0, 1) := by decide +kernel
theorem d_Model_begin_115 : decode b_Model_begin 115 = .ok (.iconst 1, 1) := by decide +kernel
theorem d_Model_begin_116 : decode b_Model_begin 116 = .ok (.putfield 125, 3) := by decide +kernel
theorem d_Model_begin_119 : decode b_Model_begin 119 = .ok (.aload_n 0, 1) := by decide +kernel
theorem d_Model_begin_120 : decode b_Model_begin 120 = .ok (.iconst 1, 1) := by decide +kernel
theorem d_Model_begin_121 : decode b_Model_begin 121 = .ok (.putfield 108, 3) := by decide +kernel
theorem d_Model_begin_124 : decode b_Model_begin 124 = .ok (.aload_n 0, 1) := by decide +kernel
theorem d_Model_begin_125 : decode b_Model_begin 125 = .ok (.iconst 0, 1) := by decide +kernel
theorem d_Model_begin_126 : decode b_Model_begin 126 = .ok (.putfield 128, 3) := by decide +kernel
theorem d_Model_begin_129 : decode b_Model_begin 129 = .ok (.aload_n 0, 1) := by decide +kernel
theorem d_Model_begin_130 : decode b_Model_begin 130 = .ok (.iconst 0, 1) := by decide +kernel
theorem d_Model_begin_131 : decode b_Model_begin 131 = .ok (.putfield 131, 3) := by decide +kernel
theorem d_Model_begin_134 : decode b_Model_begin 134 = .ok (.aload_n 0, 1) := by decide +kernel
theorem d_Model_begin_135 : decode b_Model_begin 135 = .ok (.iconst 0, 1) := by decide +kernel
theorem d_Model_begin_136 : decode b_Model_begin 136 = .ok (.putfield 134, 3) := by decide +kernel
theorem d_Model_begin_139 : decode b_Model_begin 139 = .ok (.aload_n 0, 1) := by decide +kernel
theorem d_Model_begin_140 : decode b_Model_begin 140 = .ok (.iconst 0, 1) := by decide +kernel
theorem d_Model_begin_141 : decode b_Model_begin 141 = .ok (.putfield 137, 3) := by decide +kernel
theorem d_Model_begin_144 : decode b_Model_begin 144 = .ok (.aload_n 0, 1) := by decide +kernel
theorem d_Model_begin_145 : decode b_Model_begin 145 = .ok (.iconst 0, 1) := by decide +kernel
theorem d_Model_begin_146 : decode b_Model_begin 146 = .ok (.putfield 140, 3) := by decide +kernel
theorem d_Model_begin_149 : decode b_Model_begin 149 = .ok (.aload_n 0, 1) := by decide +kernel
theorem d_Model_begin_150 : decode b_Model_begin 150 = .ok (.iload_n 1, 1) := by decide +kernel
theorem d_Model_begin_151 : decode b_Model_begin 151 = .ok (.iload_n 2, 1) := by decide +kernel
theorem d_Model_begin_152 : decode b_Model_begin 152 = .ok (.invokevirtual 143, 3) := by decide +kernel
theorem d_Model_begin_155 : decode b_Model_begin 155 = .ok (.iconst 1, 1) := by decide +kernel
theorem d_Model_begin_156 : decode b_Model_begin 156 = .ok (.ireturn, 1) := by decide +kernel
theorem d_Model_enter_0 : decode b_Model_enter 0 = .ok (.aload_n 0, 1) := by decide +kernel
theorem d_Model_enter_1 : decode b_Model_enter 1 = .ok (.getfield 39, 3) := by decide +kernel
theorem d_Model_enter_4 : decode b_Model_enter 4 = .ok (.aload_n 0, 1) := by decide +kernel
theorem d_Model_enter_5 : decode b_Model_enter 5 = .ok (.getfield 140, 3) := by decide +kernel
theorem d_Model_enter_8 : decode b_Model_enter 8 = .ok (.iload_n 1, 1) := by decide +kernel
theorem d_Model_enter_9 : decode b_Model_enter 9 = .ok (.iastore, 1) := by decide +kernel
theorem d_Model_enter_10 : decode b_Model_enter 10 = .ok (.aload_n 0, 1) := by decide +kernel
theorem d_Model_enter_11 : decode b_Model_enter 11 = .ok (.getfield 42, 3) := by decide +kernel
theorem d_Model_enter_14 : decode b_Model_enter 14 = .ok (.aload_n 0, 1) := by decide +kernel
theorem d_Model_enter_15 : decode b_Model_enter 15 = .ok (.getfield 140, 3) := by decide +kernel
theorem d_Model_enter_18 : decode b_Model_enter 18 = .ok (.aload_n 0, 1) := by decide +kernel
theorem d_Model_enter_19 : decode b_Model_enter 19 = .ok (.getfield 13, 3) := by decide +kernel
theorem d_Model_enter_22 : decode b_Model_enter 22 = .ok (.iload_n 1, 1) := by decide +kernel
theorem d_Model_enter_23 : decode b_Model_enter 23 = .ok (.sipush 256, 3) := by decide +kernel
theorem d_Model_enter_26 : decode b_Model_enter 26 = .ok (.imul, 1) := by decide +kernel
theorem d_Model_enter_27 : decode b_Model_enter 27 = .ok (.iload_n 2, 1) := by decide +kernel
theorem d_Model_enter_28 : decode b_Model_enter 28 = .ok (.iadd, 1) := by decide +kernel
theorem d_Model_enter_29 : decode b_Model_enter 29 = .ok (.baload, 1) := by decide +kernel
theorem d_Model_enter_30 : decode b_Model_enter 30 = .ok (.sipush 255, 3) := by decide +kernel
theorem d_Model_enter_33 : decode b_Model_enter 33 = .ok (.iand, 1) := by decide +kernel
theorem d_Model_enter_34 : decode b_Model_enter 34 = .ok (.iastore, 1) := by decide +kernel
theorem d_Model_enter_35 : decode b_Model_enter 35 = .ok (.aload_n 0, 1) := by decide +kernel
theorem d_Model_enter_36 : decode b_Model_enter 36 = .ok (.getfield 45, 3) := by decide +kernel
theorem d_Model_enter_39 : decode b_Model_enter 39 = .ok (.aload_n 0, 1) := by decide +kernel
theorem d_Model_enter_40 : decode b_Model_enter 40 = .ok (.getfield 140, 3) := by decide +kernel
theorem d_Model_enter_43 : decode b_Model_enter 43 = .ok (.iconst 0, 1) := by decide +kernel
theorem d_Model_enter_44 : decode b_Model_enter 44 = .ok (.iastore, 1) := by decide +kernel
theorem d_Model_enter_45 : decode b_Model_enter 45 = .ok (.iconst 0, 1) := by decide +kernel
theorem d_Model_enter_46 : decode b_Model_enter 46 = .ok (.istore_n 3, 1) := by decide +kernel
theorem d_Model_enter_47 : decode b_Model_enter 47 = .ok (.iload_n 3, 1) := by decide +kernel
theorem d_Model_enter_48 : decode b_Model_enter 48 = .ok (.bipush 8, 2) := by decide +kernel
theorem d_Model_enter_50 : decode b_Model_enter 50 = .ok (.if_icmp .ge 39, 3) := by decide +kernel
theorem d_Model_enter_53 : decode b_Model_enter 53 = .ok (.aload_n 0, 1) := by decide +kernel
theorem d_Model_enter_54 : decode b_Model_enter 54 = .ok (.getfield 48, 3) := by decide +kernel
theorem d_Model_enter_57 : decode b_Model_enter 57 = .ok (.bipush 8, 2) := by decide +kernel
theorem d_Model_enter_59 : decode b_Model_enter 59 = .ok (.aload_n 0, 1) := by decide +kernel
theorem d_Model_enter_60 : decode b_Model_enter 60 = .ok (.getfield 140, 3) := by decide +kernel
theorem d_Model_enter_63 : decode b_Model_enter 63 = .ok (.imul, 1) := by decide +kernel
theorem d_Model_enter_64 : decode b_Model_enter 64 = .ok (.iload_n 3, 1) := by decide +kernel
theorem d_Model_enter_65 : decode b_Model_enter 65 = .ok (.iadd, 1) := by decide +kernel
theorem d_Model_enter_66 : decode b_Model_enter 66 = .ok (.iconst 0, 1) := by decide +kernel
theorem d_Model_enter_67 : decode b_Model_enter 67 = .ok (.iastore, 1) := by decide +kernel
theorem d_Model_enter_68 : decode b_Model_enter 68 = .ok (.aload_n 0, 1) := by decide +kernel
theorem d_Model_enter_69 : decode b_Model_enter 69 = .ok (.getfield 51, 3) := by decide +kernel
theorem d_Model_enter_72 : decode b_Model_enter 72 = .ok (.bipush 8, 2) := by decide +kernel
theorem d_Model_enter_74 : decode b_Model_enter 74 = .ok (.aload_n 0, 1) := by decide +kernel
theorem d_Model_enter_75 : decode b_Model_enter 75 = .ok (.getfield 140, 3) := by decide +kernel
theorem d_Model_enter_78 : decode b_Model_enter 78 = .ok (.imul, 1) := by decide +kernel
theorem d_Model_enter_79 : decode b_Model_enter 79 = .ok (.iload_n 3, 1) := by decide +kernel
theorem d_Model_enter_80 : decode b_Model_enter 80 = .ok (.iadd, 1) := by decide +kernel
theorem d_Model_enter_81 : decode b_Model_enter 81 = .ok (.iconst 0, 1) := by decide +kernel
theorem d_Model_enter_82 : decode b_Model_enter 82 = .ok (.iastore, 1) := by decide +kernel
theorem d_Model_enter_83 : decode b_Model_enter 83 = .ok (.iinc 3 1, 3) := by decide +kernel
theorem d_Model_enter_86 : decode b_Model_enter 86 = .ok (.goto (-39), 3) := by decide +kernel
theorem d_Model_enter_89 : decode b_Model_enter 89 = .ok (.aload_n 0, 1) := by decide +kernel
theorem d_Model_enter_90 : decode b_Model_enter 90 = .ok (.dup, 1) := by decide +kernel
theorem d_Model_enter_91 : decode b_Model_enter 91 = .ok (.getfield 140, 3) := by decide +kernel
theorem d_Model_enter_94 : decode b_Model_enter 94 = .ok (.iconst 1, 1) := by decide +kernel
theorem d_Model_enter_95 : decode b_Model_enter 95 = .ok (.iadd, 1) := by decide +kernel
theorem d_Model_enter_96 : decode b_Model_enter 96 = .ok (.putfield 140, 3) := by decide +kernel
theorem d_Model_enter_99 : decode b_Model_enter 99 = .ok (.return_, 1) := by decide +kernel
theorem d_Model_undo_0 : decode b_Model_undo 0 = .ok (.iconst 0, 1) := by decide +kernel
theorem d_Model_undo_1 : decode b_Model_undo 1 = .ok (.istore_n 1, 1) := by decide +kernel
theorem d_Model_undo_2 : decode b_Model_undo 2 = .ok (.iload_n 1, 1) := by decide +kernel
theorem d_Model_undo_3 : decode b_Model_undo 3 = .ok (.sipush 128, 3) := by decide +kernel
theorem d_Model_undo_6 : decode b_Model_undo 6 = .ok (.if_icmp .ge 21, 3) := by decide +kernel
theorem d_Model_undo_9 : decode b_Model_undo 9 = .ok (.aload_n 0, 1) := by decide +kernel
theorem d_Model_undo_10 : decode b_Model_undo 10 = .ok (.getfield 23, 3) := by decide +kernel
theorem d_Model_undo_13 : decode b_Model_undo 13 = .ok (.iload_n 1, 1) := by decide +kernel
theorem d_Model_undo_14 : decode b_Model_undo 14 = .ok (.aload_n 0, 1) := by decide +kernel
theorem d_Model_undo_15 : decode b_Model_undo 15 = .ok (.getfield 26, 3) := by decide +kernel
theorem d_Model_undo_18 : decode b_Model_undo 18 = .ok (.iload_n 1, 1) := by decide +kernel
theorem d_Model_undo_19 : decode b_Model_undo 19 = .ok (.iaload, 1) := by decide +kernel
theorem d_Model_undo_20 : decode b_Model_undo 20 = .ok (.iastore, 1) := by decide +kernel
theorem d_Model_undo_21 : decode b_Model_undo 21 = .ok (.iinc 1 1, 3) := by decide +kernel
theorem d_Model_undo_24 : decode b_Model_undo 24 = .ok (.goto (-22), 3) := by decide +kernel
theorem d_Model_undo_27 : decode b_Model_undo 27 = .ok (.return_, 1) := by decide +kernel
theorem d_Model_throwFor_0 : decode b_Model_throwFor 0 = .ok (.aload_n 0, 1) := by decide +kernel
theorem d_Model_throwFor_1 : decode b_Model_throwFor 1 = .ok (.invokevirtual 116, 3) := by decide +kernel
theorem d_Model_throwFor_4 : decode b_Model_throwFor 4 = .ok (.aload_n 0, 1) := by decide +kernel
theorem d_Model_throwFor_5 : decode b_Model_throwFor 5 = .ok (.iconst 0, 1) := by decide +kernel
theorem d_Model_throwFor_6 : decode b_Model_throwFor 6 = .ok (.putfield 108, 3) := by decide +kernel
theorem d_Model_throwFor_9 : decode b_Model_throwFor 9 = .ok (.aload_n 0, 1) := by decide +kernel
theorem d_Model_throwFor_10 : decode b_Model_throwFor 10 = .ok (.iconst 1, 1) := by decide +kernel
theorem d_Model_throwFor_11 : decode b_Model_throwFor 11 = .ok (.putfield 128, 3) := by decide +kernel
theorem d_Model_throwFor_14 : decode b_Model_throwFor 14 = .ok (.aload_n 0, 1) := by decide +kernel
theorem d_Model_throwFor_15 : decode b_Model_throwFor 15 = .ok (.iload_n 1, 1) := by decide +kernel
theorem d_Model_throwFor_16 : decode b_Model_throwFor 16 = .ok (.putfield 134, 3) := by decide +kernel
theorem d_Model_throwFor_19 : decode b_Model_throwFor 19 = .ok (.return_, 1) := by decide +kernel
theorem d_Model_push_0 : decode b_Model_push 0 = .ok (.aload_n 0, 1) := by decide +kernel
theorem d_Model_push_1 : decode b_Model_push 1 = .ok (.getfield 140, 3) := by decide +kernel
theorem d_Model_push_4 : decode b_Model_push 4 = .ok (.iconst 1, 1) := by decide +kernel
theorem d_Model_push_5 : decode b_Model_push 5 = .ok (.isub, 1) := by decide +kernel
theorem d_Model_push_6 : decode b_Model_push 6 = .ok (.istore_n 2, 1) := by decide +kernel
theorem d_Model_push_7 : decode b_Model_push 7 = .ok (.aload_n 0, 1) := by decide +kernel
theorem d_Model_push_8 : decode b_Model_push 8 = .ok (.getfield 48, 3) := by decide +kernel
theorem d_Model_push_11 : decode b_Model_push 11 = .ok (.bipush 8, 2) := by decide +kernel
theorem d_Model_push_13 : decode b_Model_push 13 = .ok (.iload_n 2, 1) := by decide +kernel
theorem d_Model_push_14 : decode b_Model_push 14 = .ok (.imul, 1) := by decide +kernel
theorem d_Model_push_15 : decode b_Model_push 15 = .ok (.aload_n 0, 1) := by decide +kernel
theorem d_Model_push_16 : decode b_Model_push 16 = .ok (.getfield 45, 3) := by decide +kernel
theorem d_Model_push_19 : decode b_Model_push 19 = .ok (.iload_n 2, 1) := by decide +kernel
theorem d_Model_push_20 : decode b_Model_push 20 = .ok (.iaload, 1) := by decide +kernel
theorem d_Model_push_21 : decode b_Model_push 21 = .ok (.iadd, 1) := by decide +kernel
theorem d_Model_push_22 : decode b_Model_push 22 = .ok (.iload_n 1, 1) := by decide +kernel
theorem d_Model_push_23 : decode b_Model_push 23 = .ok (.iastore, 1) := by decide +kernel
theorem d_Model_push_24 : decode b_Model_push 24 = .ok (.aload_n 0, 1) := by decide +kernel
theorem d_Model_push_25 : decode b_Model_push 25 = .ok (.getfield 45, 3) := by decide +kernel
theorem d_Model_push_28 : decode b_Model_push 28 = .ok (.iload_n 2, 1) := by decide +kernel
theorem d_Model_push_29 : decode b_Model_push 29 = .ok (.dup2, 1) := by decide +kernel
theorem d_Model_push_30 : decode b_Model_push 30 = .ok (.iaload, 1) := by decide +kernel
theorem d_Model_push_31 : decode b_Model_push 31 = .ok (.iconst 1, 1) := by decide +kernel
theorem d_Model_push_32 : decode b_Model_push 32 = .ok (.iadd, 1) := by decide +kernel
theorem d_Model_push_33 : decode b_Model_push 33 = .ok (.iastore, 1) := by decide +kernel
theorem d_Model_push_34 : decode b_Model_push 34 = .ok (.return_, 1) := by decide +kernel
theorem d_Model_pop_0 : decode b_Model_pop 0 = .ok (.aload_n 0, 1) := by decide +kernel
theorem d_Model_pop_1 : decode b_Model_pop 1 = .ok (.getfield 140, 3) := by decide +kernel
theorem d_Model_pop_4 : decode b_Model_pop 4 = .ok (.iconst 1, 1) := by decide +kernel
theorem d_Model_pop_5 : decode b_Model_pop 5 = .ok (.isub, 1) := by decide +kernel
theorem d_Model_pop_6 : decode b_Model_pop 6 = .ok (.istore_n 1, 1) := by decide +kernel
theorem d_Model_pop_7 : decode b_Model_pop 7 = .ok (.aload_n 0, 1) := by decide +kernel
theorem d_Model_pop_8 : decode b_Model_pop 8 = .ok (.getfield 45, 3) := by decide +kernel
theorem d_Model_pop_11 : decode b_Model_pop 11 = .ok (.iload_n 1, 1) := by decide +kernel
theorem d_Model_pop_12 : decode b_Model_pop 12 = .ok (.dup2, 1) := by decide +kernel
theorem d_Model_pop_13 : decode b_Model_pop 13 = .ok (.iaload, 1) := by decide +kernel
theorem d_Model_pop_14 : decode b_Model_pop 14 = .ok (.iconst 1, 1) := by decide +kernel
theorem d_Model_pop_15 : decode b_Model_pop 15 = .ok (.isub, 1) := by decide +kernel
theorem d_Model_pop_16 : decode b_Model_pop 16 = .ok (.iastore, 1) := by decide +kernel
theorem d_Model_pop_17 : decode b_Model_pop 17 = .ok (.aload_n 0, 1) := by decide +kernel
theorem d_Model_pop_18 : decode b_Model_pop 18 = .ok (.getfield 48, 3) := by decide +kernel
theorem d_Model_pop_21 : decode b_Model_pop 21 = .ok (.bipush 8, 2) := by decide +kernel
theorem d_Model_pop_23 : decode b_Model_pop 23 = .ok (.iload_n 1, 1) := by decide +kernel
theorem d_Model_pop_24 : decode b_Model_pop 24 = .ok (.imul, 1) := by decide +kernel
theorem d_Model_pop_25 : decode b_Model_pop 25 = .ok (.aload_n 0, 1) := by decide +kernel
theorem d_Model_pop_26 : decode b_Model_pop 26 = .ok (.getfield 45, 3) := by decide +kernel
theorem d_Model_pop_29 : decode b_Model_pop 29 = .ok (.iload_n 1, 1) := by decide +kernel
theorem d_Model_pop_30 : decode b_Model_pop 30 = .ok (.iaload, 1) := by decide +kernel
theorem d_Model_pop_31 : decode b_Model_pop 31 = .ok (.iadd, 1) := by decide +kernel
theorem d_Model_pop_32 : decode b_Model_pop 32 = .ok (.iaload, 1) := by decide +kernel
theorem d_Model_pop_33 : decode b_Model_pop 33 = .ok (.istore_n 2, 1) := by decide +kernel
theorem d_Model_pop_34 : decode b_Model_pop 34 = .ok (.aload_n 0, 1) := by decide +kernel
theorem d_Model_pop_35 : decode b_Model_pop 35 = .ok (.getfield 48, 3) := by decide +kernel
theorem d_Model_pop_38 : decode b_Model_pop 38 = .ok (.bipush 8, 2) := by decide +kernel
theorem d_Model_pop_40 : decode b_Model_pop 40 = .ok (.iload_n 1, 1) := by decide +kernel
theorem d_Model_pop_41 : decode b_Model_pop 41 = .ok (.imul, 1) := by decide +kernel
theorem d_Model_pop_42 : decode b_Model_pop 42 = .ok (.aload_n 0, 1) := by decide +kernel
theorem d_Model_pop_43 : decode b_Model_pop 43 = .ok (.getfield 45, 3) := by decide +kernel
theorem d_Model_pop_46 : decode b_Model_pop 46 = .ok (.iload_n 1, 1) := by decide +kernel
theorem d_Model_pop_47 : decode b_Model_pop 47 = .ok (.iaload, 1) := by decide +kernel
theorem d_Model_pop_48 : decode b_Model_pop 48 = .ok (.iadd, 1) := by decide +kernel
theorem d_Model_pop_49 : decode b_Model_pop 49 = .ok (.iconst 0, 1) := by decide +kernel
theorem d_Model_pop_50 : decode b_Model_pop 50 = .ok (.iastore, 1) := by decide +kernel
theorem d_Model_pop_51 : decode b_Model_pop 51 = .ok (.iload_n 2, 1) := by decide +kernel
theorem d_Model_pop_52 : decode b_Model_pop 52 = .ok (.ireturn, 1) := by decide +kernel
theorem d_Model_ends_0 : decode b_Model_ends 0 = .ok (.aload_n 0, 1) := by decide +kernel
theorem d_Model_ends_1 : decode b_Model_ends 1 = .ok (.dup, 1) := by decide +kernel
theorem d_Model_ends_2 : decode b_Model_ends 2 = .ok (.getfield 140, 3) := by decide +kernel
theorem d_Model_ends_5 : decode b_Model_ends 5 = .ok (.iconst 1, 1) := by decide +kernel
theorem d_Model_ends_6 : decode b_Model_ends 6 = .ok (.isub, 1) := by decide +kernel
theorem d_Model_ends_7 : decode b_Model_ends 7 = .ok (.putfield 140, 3) := by decide +kernel
theorem d_Model_ends_10 : decode b_Model_ends 10 = .ok (.aload_n 0, 1) := by decide +kernel
theorem d_Model_ends_11 : decode b_Model_ends 11 = .ok (.getfield 140, 3) := by decide +kernel
theorem d_Model_ends_14 : decode b_Model_ends 14 = .ok (.ifCond .le 9, 3) := by decide +kernel
theorem d_Model_ends_17 : decode b_Model_ends 17 = .ok (.aload_n 0, 1) := by decide +kernel
theorem d_Model_ends_18 : decode b_Model_ends 18 = .ok (.iload_n 1, 1) := by decide +kernel
theorem d_Model_ends_19 : decode b_Model_ends 19 = .ok (.invokevirtual 146, 3) := by decide +kernel
theorem d_Model_ends_22 : decode b_Model_ends 22 = .ok (.return_, 1) := by decide +kernel
theorem d_Model_ends_23 : decode b_Model_ends 23 = .ok (.aload_n 0, 1) := by decide +kernel
theorem d_Model_ends_24 : decode b_Model_ends 24 = .ok (.iconst 0, 1) := by decide +kernel
theorem d_Model_ends_25 : decode b_Model_ends 25 = .ok (.putfield 108, 3) := by decide +kernel
theorem d_Model_ends_28 : decode b_Model_ends 28 = .ok (.aload_n 0, 1) := by decide +kernel
theorem d_Model_ends_29 : decode b_Model_ends 29 = .ok (.iload_n 1, 1) := by decide +kernel
theorem d_Model_ends_30 : decode b_Model_ends 30 = .ok (.putfield 131, 3) := by decide +kernel
theorem d_Model_ends_33 : decode b_Model_ends 33 = .ok (.return_, 1) := by decide +kernel
theorem d_Model_go_0 : decode b_Model_go 0 = .ok (.iload_n 1, 1) := by decide +kernel
theorem d_Model_go_1 : decode b_Model_go 1 = .ok (.ifCond .lt 17, 3) := by decide +kernel
theorem d_Model_go_4 : decode b_Model_go 4 = .ok (.iload_n 1, 1) := by decide +kernel
theorem d_Model_go_5 : decode b_Model_go 5 = .ok (.sipush 2001, 3) := by decide +kernel
theorem d_Model_go_8 : decode b_Model_go 8 = .ok (.if_icmp .gt 10, 3) := by decide +kernel
theorem d_Model_go_11 : decode b_Model_go 11 = .ok (.aload_n 0, 1) := by decide +kernel
theorem d_Model_go_12 : decode b_Model_go 12 = .ok (.getfield 108, 3) := by decide +kernel
theorem d_Model_go_15 : decode b_Model_go 15 = .ok (.ifCond .ne 5, 3) := by decide +kernel
theorem d_Model_go_18 : decode b_Model_go 18 = .ok (.iconst (-1), 1) := by decide +kernel
theorem d_Model_go_19 : decode b_Model_go 19 = .ok (.ireturn, 1) := by decide +kernel
theorem d_Model_go_20 : decode b_Model_go 20 = .ok (.iconst 0, 1) := by decide +kernel
theorem d_Model_go_21 : decode b_Model_go 21 = .ok (.istore_n 2, 1) := by decide +kernel
theorem d_Model_go_22 : decode b_Model_go 22 = .ok (.iload_n 2, 1) := by decide +kernel
theorem d_Model_go_23 : decode b_Model_go 23 = .ok (.iload_n 1, 1) := by decide +kernel
theorem d_Model_go_24 : decode b_Model_go 24 = .ok (.if_icmp .ge 39, 3) := by decide +kernel
theorem d_Model_go_27 : decode b_Model_go 27 = .ok (.aload_n 0, 1) := by decide +kernel
theorem d_Model_go_28 : decode b_Model_go 28 = .ok (.getfield 108, 3) := by decide +kernel
theorem d_Model_go_31 : decode b_Model_go 31 = .ok (.ifCond .eq 32, 3) := by decide +kernel
theorem d_Model_go_34 : decode b_Model_go 34 = .ok (.aload_n 0, 1) := by decide +kernel
theorem d_Model_go_35 : decode b_Model_go 35 = .ok (.getfield 137, 3) := by decide +kernel
theorem d_Model_go_38 : decode b_Model_go 38 = .ok (.sipush 2000, 3) := by decide +kernel
theorem d_Model_go_41 : decode b_Model_go 41 = .ok (.if_icmp .ne 12, 3) := by decide +kernel
theorem d_Model_go_44 : decode b_Model_go 44 = .ok (.aload_n 0, 1) := by decide +kernel
theorem d_Model_go_45 : decode b_Model_go 45 = .ok (.bipush 6, 2) := by decide +kernel
theorem d_Model_go_47 : decode b_Model_go 47 = .ok (.invokevirtual 149, 3) := by decide +kernel
theorem d_Model_go_50 : decode b_Model_go 50 = .ok (.goto 7, 3) := by decide +kernel
theorem d_Model_go_53 : decode b_Model_go 53 = .ok (.aload_n 0, 1) := by decide +kernel
theorem d_Model_go_54 : decode b_Model_go 54 = .ok (.invokevirtual 152, 3) := by decide +kernel
theorem d_Model_go_57 : decode b_Model_go 57 = .ok (.iinc 2 1, 3) := by decide +kernel
theorem d_Model_go_60 : decode b_Model_go 60 = .ok (.goto (-38), 3) := by decide +kernel
theorem d_Model_go_63 : decode b_Model_go 63 = .ok (.aload_n 0, 1) := by decide +kernel
theorem d_Model_go_64 : decode b_Model_go 64 = .ok (.getfield 108, 3) := by decide +kernel
theorem d_Model_go_67 : decode b_Model_go 67 = .ok (.ifCond .eq 7, 3) := by decide +kernel
theorem d_Model_go_70 : decode b_Model_go 70 = .ok (.iconst 1, 1) := by decide +kernel
theorem d_Model_go_71 : decode b_Model_go 71 = .ok (.goto 15, 3) := by decide +kernel
theorem d_Model_go_74 : decode b_Model_go 74 = .ok (.aload_n 0, 1) := by decide +kernel
theorem d_Model_go_75 : decode b_Model_go 75 = .ok (.getfield 128, 3) := by decide +kernel
theorem d_Model_go_78 : decode b_Model_go 78 = .ok (.ifCond .eq 7, 3) := by decide +kernel
theorem d_Model_go_81 : decode b_Model_go 81 = .ok (.iconst 2, 1) := by decide +kernel
theorem d_Model_go_82 : decode b_Model_go 82 = .ok (.goto 4, 3) := by decide +kernel
theorem d_Model_go_85 : decode b_Model_go 85 = .ok (.iconst 0, 1) := by decide +kernel
theorem d_Model_go_86 : decode b_Model_go 86 = .ok (.ireturn, 1) := by decide +kernel
theorem d_Model_oneStep_0 : decode b_Model_oneStep 0 = .ok (.aload_n 0, 1) := by decide +kernel
theorem d_Model_oneStep_1 : decode b_Model_oneStep 1 = .ok (.getfield 140, 3) := by decide +kernel
theorem d_Model_oneStep_4 : decode b_Model_oneStep 4 = .ok (.iconst 1, 1) := by decide +kernel
theorem d_Model_oneStep_5 : decode b_Model_oneStep 5 = .ok (.isub, 1) := by decide +kernel
theorem d_Model_oneStep_6 : decode b_Model_oneStep 6 = .ok (.istore_n 1, 1) := by decide +kernel
theorem d_Model_oneStep_7 : decode b_Model_oneStep 7 = .ok (.aload_n 0, 1) := by decide +kernel
theorem d_Model_oneStep_8 : decode b_Model_oneStep 8 = .ok (.getfield 39, 3) := by decide +kernel
theorem d_Model_oneStep_11 : decode b_Model_oneStep 11 = .ok (.iload_n 1, 1) := by decide +kernel
theorem d_Model_oneStep_12 : decode b_Model_oneStep 12 = .ok (.iaload, 1) := by decide +kernel
theorem d_Model_oneStep_13 : decode b_Model_oneStep 13 = .ok (.istore_n 2, 1) := by decide +kernel
theorem d_Model_oneStep_14 : decode b_Model_oneStep 14 = .ok (.aload_n 0, 1) := by decide +kernel
theorem d_Model_oneStep_15 : decode b_Model_oneStep 15 = .ok (.getfield 42, 3) := by decide +kernel
theorem d_Model_oneStep_18 : decode b_Model_oneStep 18 = .ok (.iload_n 1, 1) := by decide +kernel
theorem d_Model_oneStep_19 : decode b_Model_oneStep 19 = .ok (.iaload, 1) := by decide +kernel
theorem d_Model_oneStep_20 : decode b_Model_oneStep 20 = .ok (.istore_n 3, 1) := by decide +kernel
theorem d_Model_oneStep_21 : decode b_Model_oneStep 21 = .ok (.aload_n 0, 1) := by decide +kernel
theorem d_Model_oneStep_22 : decode b_Model_oneStep 22 = .ok (.getfield 13, 3) := by decide +kernel
theorem d_Model_oneStep_25 : decode b_Model_oneStep 25 = .ok (.iload_n 2, 1) := by decide +kernel
theorem d_Model_oneStep_26 : decode b_Model_oneStep 26 = .ok (.sipush 256, 3) := by decide +kernel
theorem d_Model_oneStep_29 : decode b_Model_oneStep 29 = .ok (.imul, 1) := by decide +kernel
theorem d_Model_oneStep_30 : decode b_Model_oneStep 30 = .ok (.iload_n 3, 1) := by decide +kernel
theorem d_Model_oneStep_31 : decode b_Model_oneStep 31 = .ok (.iadd, 1) := by decide +kernel
theorem d_Model_oneStep_32 : decode b_Model_oneStep 32 = .ok (.baload, 1) := by decide +kernel
theorem d_Model_oneStep_33 : decode b_Model_oneStep 33 = .ok (.sipush 255, 3) := by decide +kernel
theorem d_Model_oneStep_36 : decode b_Model_oneStep 36 = .ok (.iand, 1) := by decide +kernel
theorem d_Model_oneStep_37 : decode b_Model_oneStep 37 = .ok (.istore 4, 2) := by decide +kernel
theorem d_Model_oneStep_39 : decode b_Model_oneStep 39 = .ok (.iload_n 3, 1) := by decide +kernel
theorem d_Model_oneStep_40 : decode b_Model_oneStep 40 = .ok (.iconst 1, 1) := by decide +kernel
theorem d_Model_oneStep_41 : decode b_Model_oneStep 41 = .ok (.iadd, 1) := by decide +kernel
theorem d_Model_oneStep_42 : decode b_Model_oneStep 42 = .ok (.sipush 256, 3) := by decide +kernel
theorem d_Model_oneStep_45 : decode b_Model_oneStep 45 = .ok (.if_icmp .ge 20, 3) := by decide +kernel
theorem d_Model_oneStep_48 : decode b_Model_oneStep 48 = .ok (.aload_n 0, 1) := by decide +kernel
theorem d_Model_oneStep_49 : decode b_Model_oneStep 49 = .ok (.getfield 13, 3) := by decide +kernel
theorem d_Model_oneStep_52 : decode b_Model_oneStep 52 = .ok (.iload_n 2, 1) := by decide +kernel
theorem d_Model_oneStep_53 : decode b_Model_oneStep 53 = .ok (.sipush 256, 3) := by decide +kernel
theorem d_Model_oneStep_56 : decode b_Model_oneStep 56 = .ok (.imul, 1) := by decide +kernel
theorem d_Model_oneStep_57 : decode b_Model_oneStep 57 = .ok (.iload_n 3, 1) := by decide +kernel
theorem d_Model_oneStep_58 : decode b_Model_oneStep 58 = .ok (.iadd, 1) := by decide +kernel
theorem d_Model_oneStep_59 : decode b_Model_oneStep 59 = .ok (.iconst 1, 1) := by decide +kernel
theorem d_Model_oneStep_60 : decode b_Model_oneStep 60 = .ok (.iadd, 1) := by decide +kernel
theorem d_Model_oneStep_61 : decode b_Model_oneStep 61 = .ok (.baload, 1) := by decide +kernel
theorem d_Model_oneStep_62 : decode b_Model_oneStep 62 = .ok (.goto 4, 3) := by decide +kernel
theorem d_Model_oneStep_65 : decode b_Model_oneStep 65 = .ok (.iconst 0, 1) := by decide +kernel
theorem d_Model_oneStep_66 : decode b_Model_oneStep 66 = .ok (.istore 5, 2) := by decide +kernel
theorem d_Model_oneStep_68 : decode b_Model_oneStep 68 = .ok (.aload_n 0, 1) := by decide +kernel
theorem d_Model_oneStep_69 : decode b_Model_oneStep 69 = .ok (.dup, 1) := by decide +kernel
theorem d_Model_oneStep_70 : decode b_Model_oneStep 70 = .ok (.getfield 137, 3) := by decide +kernel
theorem d_Model_oneStep_73 : decode b_Model_oneStep 73 = .ok (.iconst 1, 1) := by decide +kernel
theorem d_Model_oneStep_74 : decode b_Model_oneStep 74 = .ok (.iadd, 1) := by decide +kernel
theorem d_Model_oneStep_75 : decode b_Model_oneStep 75 = .ok (.putfield 137, 3) := by decide +kernel
theorem d_Model_oneStep_78 : decode b_Model_oneStep 78 = .ok (.aload_n 0, 1) := by decide +kernel
theorem d_Model_oneStep_79 : decode b_Model_oneStep 79 = .ok (.getfield 42, 3) := by decide +kernel
theorem d_Model_oneStep_82 : decode b_Model_oneStep 82 = .ok (.iload_n 1, 1) := by decide +kernel
theorem d_Model_oneStep_83 : decode b_Model_oneStep 83 = .ok (.iload_n 3, 1) := by decide +kernel
theorem d_Model_oneStep_84 : decode b_Model_oneStep 84 = .ok (.iload 4, 2) := by decide +kernel
theorem d_Model_oneStep_86 : decode b_Model_oneStep 86 = .ok (.invokestatic 85, 3) := by decide +kernel
theorem d_Model_oneStep_89 : decode b_Model_oneStep 89 = .ok (.ifCond .eq 7, 3) := by decide +kernel
theorem d_Model_oneStep_92 : decode b_Model_oneStep 92 = .ok (.iconst 2, 1) := by decide +kernel
theorem d_Model_oneStep_93 : decode b_Model_oneStep 93 = .ok (.goto 4, 3) := by decide +kernel
theorem d_Model_oneStep_96 : decode b_Model_oneStep 96 = .ok (.iconst 1, 1) := by decide +kernel
theorem d_Model_oneStep_97 : decode b_Model_oneStep 97 = .ok (.iadd, 1) := by decide +kernel
theorem d_Model_oneStep_98 : decode b_Model_oneStep 98 = .ok (.iastore, 1) := by decide +kernel
theorem d_Model_oneStep_99 : decode b_Model_oneStep 99 = .ok (.iload 4, 2) := by decide +kernel
theorem d_Model_oneStep_101 : decode b_Model_oneStep 101 = .ok (.iconst 5, 1) := by decide +kernel
theorem d_Model_oneStep_102 : decode b_Model_oneStep 102 = .ok (.if_icmp .ge 16, 3) := by decide +kernel
theorem d_Model_oneStep_105 : decode b_Model_oneStep 105 = .ok (.aload_n 0, 1) := by decide +kernel
theorem d_Model_oneStep_106 : decode b_Model_oneStep 106 = .ok (.iload 4, 2) := by decide +kernel
theorem d_Model_oneStep_108 : decode b_Model_oneStep 108 = .ok (.iload 5, 2) := by decide +kernel
theorem d_Model_oneStep_110 : decode b_Model_oneStep 110 = .ok (.iload_n 1, 1) := by decide +kernel
theorem d_Model_oneStep_111 : decode b_Model_oneStep 111 = .ok (.iload_n 2, 1) := by decide +kernel
theorem d_Model_oneStep_112 : decode b_Model_oneStep 112 = .ok (.invokevirtual 155, 3) := by decide +kernel
theorem d_Model_oneStep_115 : decode b_Model_oneStep 115 = .ok (.goto 100, 3) := by decide +kernel
theorem d_Model_oneStep_118 : decode b_Model_oneStep 118 = .ok (.iload 4, 2) := by decide +kernel
theorem d_Model_oneStep_120 : decode b_Model_oneStep 120 = .ok (.bipush 16, 2) := by decide +kernel
theorem d_Model_oneStep_122 : decode b_Model_oneStep 122 = .ok (.if_icmp .ge 12, 3) := by decide +kernel
theorem d_Model_oneStep_125 : decode b_Model_oneStep 125 = .ok (.aload_n 0, 1) := by decide +kernel
theorem d_Model_oneStep_126 : decode b_Model_oneStep 126 = .ok (.iload 4, 2) := by decide +kernel
theorem d_Model_oneStep_128 : decode b_Model_oneStep 128 = .ok (.invokevirtual 159, 3) := by decide +kernel
theorem d_Model_oneStep_131 : decode b_Model_oneStep 131 = .ok (.goto 84, 3) := by decide +kernel
theorem d_Model_oneStep_134 : decode b_Model_oneStep 134 = .ok (.iload 4, 2) := by decide +kernel
theorem d_Model_oneStep_136 : decode b_Model_oneStep 136 = .ok (.bipush 19, 2) := by decide +kernel
theorem d_Model_oneStep_138 : decode b_Model_oneStep 138 = .ok (.if_icmp .ge 19, 3) := by decide +kernel
theorem d_Model_oneStep_141 : decode b_Model_oneStep 141 = .ok (.aload_n 0, 1) := by decide +kernel
theorem d_Model_oneStep_142 : decode b_Model_oneStep 142 = .ok (.iload 4, 2) := by decide +kernel
theorem d_Model_oneStep_144 : decode b_Model_oneStep 144 = .ok (.iload 5, 2) := by decide +kernel
theorem d_Model_oneStep_146 : decode b_Model_oneStep 146 = .ok (.sipush 255, 3) := by decide +kernel
theorem d_Model_oneStep_149 : decode b_Model_oneStep 149 = .ok (.iand, 1) := by decide +kernel
theorem d_Model_oneStep_150 : decode b_Model_oneStep 150 = .ok (.iload_n 1, 1) := by decide +kernel
theorem d_Model_oneStep_151 : decode b_Model_oneStep 151 = .ok (.invokevirtual 162, 3) := by decide +kernel
theorem d_Model_oneStep_154 : decode b_Model_oneStep 154 = .ok (.goto 61, 3) := by decide +kernel
theorem d_Model_oneStep_157 : decode b_Model_oneStep 157 = .ok (.iload 4, 2) := by decide +kernel
theorem d_Model_oneStep_159 : decode b_Model_oneStep 159 = .ok (.bipush 22, 2) := by decide +kernel
theorem d_Model_oneStep_161 : decode b_Model_oneStep 161 = .ok (.if_icmp .ge 12, 3) := by decide +kernel
theorem d_Model_oneStep_164 : decode b_Model_oneStep 164 = .ok (.aload_n 0, 1) := by decide +kernel
theorem d_Model_oneStep_165 : decode b_Model_oneStep 165 = .ok (.iload 4, 2) := by decide +kernel
theorem d_Model_oneStep_167 : decode b_Model_oneStep 167 = .ok (.invokevirtual 166, 3) := by decide +kernel
theorem d_Model_oneStep_170 : decode b_Model_oneStep 170 = .ok (.goto 45, 3) := by decide +kernel
theorem d_Model_oneStep_173 : decode b_Model_oneStep 173 = .ok (.iload 4, 2) := by decide +kernel
theorem d_Model_oneStep_175 : decode b_Model_oneStep 175 = .ok (.bipush 25, 2) := by decide +kernel
theorem d_Model_oneStep_177 : decode b_Model_oneStep 177 = .ok (.if_icmp .ge 12, 3) := by decide +kernel
theorem d_Model_oneStep_180 : decode b_Model_oneStep 180 = .ok (.aload_n 0, 1) := by decide +kernel
theorem d_Model_oneStep_181 : decode b_Model_oneStep 181 = .ok (.iload 4, 2) := by decide +kernel
theorem d_Model_oneStep_183 : decode b_Model_oneStep 183 = .ok (.invokevirtual 169, 3) := by decide +kernel
theorem d_Model_oneStep_186 : decode b_Model_oneStep 186 = .ok (.goto 29, 3) := by decide +kernel
theorem d_Model_oneStep_189 : decode b_Model_oneStep 189 = .ok (.iload 4, 2) := by decide +kernel
theorem d_Model_oneStep_191 : decode b_Model_oneStep 191 = .ok (.bipush 27, 2) := by decide +kernel
theorem d_Model_oneStep_193 : decode b_Model_oneStep 193 = .ok (.if_icmp .ge 12, 3) := by decide +kernel
theorem d_Model_oneStep_196 : decode b_Model_oneStep 196 = .ok (.aload_n 0, 1) := by decide +kernel
theorem d_Model_oneStep_197 : decode b_Model_oneStep 197 = .ok (.iload 4, 2) := by decide +kernel
theorem d_Model_oneStep_199 : decode b_Model_oneStep 199 = .ok (.invokevirtual 172, 3) := by decide +kernel
theorem d_Model_oneStep_202 : decode b_Model_oneStep 202 = .ok (.goto 13, 3) := by decide +kernel
theorem d_Model_oneStep_205 : decode b_Model_oneStep 205 = .ok (.aload_n 0, 1) := by decide +kernel
theorem d_Model_oneStep_206 : decode b_Model_oneStep 206 = .ok (.iload 5, 2) := by decide +kernel
theorem d_Model_oneStep_208 : decode b_Model_oneStep 208 = .ok (.sipush 255, 3) := by decide +kernel
theorem d_Model_oneStep_211 : decode b_Model_oneStep 211 = .ok (.iand, 1) := by decide +kernel
theorem d_Model_oneStep_212 : decode b_Model_oneStep 212 = .ok (.invokevirtual 175, 3) := by decide +kernel
theorem d_Model_oneStep_215 : decode b_Model_oneStep 215 = .ok (.return_, 1) := by decide +kernel
theorem d_Model_simple_0 : decode b_Model_simple 0 = .ok (.iload_n 1, 1) := by decide +kernel
theorem d_Model_simple_1 : decode b_Model_simple 1 = .ok (.tableswitch 95 0 3 #[31, 39, 58, 77], 31) := by decide +kernel
theorem d_Model_simple_32 : decode b_Model_simple 32 = .ok (.aload_n 0, 1) := by decide +kernel
theorem d_Model_simple_33 : decode b_Model_simple 33 = .ok (.iload_n 2, 1) := by decide +kernel
theorem d_Model_simple_34 : decode b_Model_simple 34 = .ok (.invokevirtual 146, 3) := by decide +kernel
theorem d_Model_simple_37 : decode b_Model_simple 37 = .ok (.goto 74, 3) := by decide +kernel
theorem d_Model_simple_40 : decode b_Model_simple 40 = .ok (.aload_n 0, 1) := by decide +kernel
theorem d_Model_simple_41 : decode b_Model_simple 41 = .ok (.aload_n 0, 1) := by decide +kernel
theorem d_Model_simple_42 : decode b_Model_simple 42 = .ok (.getfield 23, 3) := by decide +kernel
theorem d_Model_simple_45 : decode b_Model_simple 45 = .ok (.iload 4, 2) := by decide +kernel
theorem d_Model_simple_47 : decode b_Model_simple 47 = .ok (.bipush 16, 2) := by decide +kernel
theorem d_Model_simple_49 : decode b_Model_simple 49 = .ok (.imul, 1) := by decide +kernel
theorem d_Model_simple_50 : decode b_Model_simple 50 = .ok (.iload_n 2, 1) := by decide +kernel
theorem d_Model_simple_51 : decode b_Model_simple 51 = .ok (.iadd, 1) := by decide +kernel
theorem d_Model_simple_52 : decode b_Model_simple 52 = .ok (.iaload, 1) := by decide +kernel
theorem d_Model_simple_53 : decode b_Model_simple 53 = .ok (.invokevirtual 146, 3) := by decide +kernel
theorem d_Model_simple_56 : decode b_Model_simple 56 = .ok (.goto 55, 3) := by decide +kernel
theorem d_Model_simple_59 : decode b_Model_simple 59 = .ok (.aload_n 0, 1) := by decide +kernel
theorem d_Model_simple_60 : decode b_Model_simple 60 = .ok (.getfield 23, 3) := by decide +kernel
theorem d_Model_simple_63 : decode b_Model_simple 63 = .ok (.iload 4, 2) := by decide +kernel
theorem d_Model_simple_65 : decode b_Model_simple 65 = .ok (.bipush 16, 2) := by decide +kernel
theorem d_Model_simple_67 : decode b_Model_simple 67 = .ok (.imul, 1) := by decide +kernel
theorem d_Model_simple_68 : decode b_Model_simple 68 = .ok (.iload_n 2, 1) := by decide +kernel
theorem d_Model_simple_69 : decode b_Model_simple 69 = .ok (.iadd, 1) := by decide +kernel
theorem d_Model_simple_70 : decode b_Model_simple 70 = .ok (.aload_n 0, 1) := by decide +kernel
theorem d_Model_simple_71 : decode b_Model_simple 71 = .ok (.invokevirtual 178, 3) := by decide +kernel
theorem d_Model_simple_74 : decode b_Model_simple 74 = .ok (.iastore, 1) := by decide +kernel
theorem d_Model_simple_75 : decode b_Model_simple 75 = .ok (.goto 36, 3) := by decide +kernel
theorem d_Model_simple_78 : decode b_Model_simple 78 = .ok (.aload_n 0, 1) := by decide +kernel
theorem d_Model_simple_79 : decode b_Model_simple 79 = .ok (.aload_n 0, 1) := by decide +kernel
theorem d_Model_simple_80 : decode b_Model_simple 80 = .ok (.getfield 51, 3) := by decide +kernel
theorem d_Model_simple_83 : decode b_Model_simple 83 = .ok (.bipush 8, 2) := by decide +kernel
theorem d_Model_simple_85 : decode b_Model_simple 85 = .ok (.iload_n 3, 1) := by decide +kernel
theorem d_Model_simple_86 : decode b_Model_simple 86 = .ok (.imul, 1) := by decide +kernel
theorem d_Model_simple_87 : decode b_Model_simple 87 = .ok (.iload_n 2, 1) := by decide +kernel
theorem d_Model_simple_88 : decode b_Model_simple 88 = .ok (.iadd, 1) := by decide +kernel
theorem d_Model_simple_89 : decode b_Model_simple 89 = .ok (.iaload, 1) := by decide +kernel
theorem d_Model_simple_90 : decode b_Model_simple 90 = .ok (.invokevirtual 146, 3) := by decide +kernel
theorem d_Model_simple_93 : decode b_Model_simple 93 = .ok (.goto 18, 3) := by decide +kernel
theorem d_Model_simple_96 : decode b_Model_simple 96 = .ok (.aload_n 0, 1) := by decide +kernel
theorem d_Model_simple_97 : decode b_Model_simple 97 = .ok (.getfield 51, 3) := by decide +kernel
theorem d_Model_simple_100 : decode b_Model_simple 100 = .ok (.bipush 8, 2) := by decide +kernel
theorem d_Model_simple_102 : decode b_Model_simple 102 = .ok (.iload_n 3, 1) := by decide +kernel
theorem d_Model_simple_103 : decode b_Model_simple 103 = .ok (.imul, 1) := by decide +kernel
theorem d_Model_simple_104 : decode b_Model_simple 104 = .ok (.iload_n 2, 1) := by decide +kernel
theorem d_Model_simple_105 : decode b_Model_simple 105 = .ok (.iadd, 1) := by decide +kernel
theorem d_Model_simple_106 : decode b_Model_simple 106 = .ok (.aload_n 0, 1) := by decide +kernel
theorem d_Model_simple_107 : decode b_Model_simple 107 = .ok (.invokevirtual 178, 3) := by decide +kernel
theorem d_Model_simple_110 : decode b_Model_simple 110 = .ok (.iastore, 1) := by decide +kernel
theorem d_Model_simple_111 : decode b_Model_simple 111 = .ok (.return_, 1) := by decide +kernel
theorem d_Model_works_0 : decode b_Model_works 0 = .ok (.aload_n 0, 1) := by decide +kernel
theorem d_Model_works_1 : decode b_Model_works 1 = .ok (.invokevirtual 178, 3) := by decide +kernel
theorem d_Model_works_4 : decode b_Model_works 4 = .ok (.istore_n 2, 1) := by decide +kernel
theorem d_Model_works_5 : decode b_Model_works 5 = .ok (.iload_n 1, 1) := by decide +kernel
theorem d_Model_works_6 : decode b_Model_works 6 = .ok (.bipush 13, 2) := by decide +kernel
theorem d_Model_works_8 : decode b_Model_works 8 = .ok (.if_icmp .ne 14, 3) := by decide +kernel
theorem d_Model_works_11 : decode b_Model_works 11 = .ok (.aload_n 0, 1) := by decide +kernel
theorem d_Model_works_12 : decode b_Model_works 12 = .ok (.iload_n 2, 1) := by decide +kernel
theorem d_Model_works_13 : decode b_Model_works 13 = .ok (.invokevirtual 146, 3) := by decide +kernel
theorem d_Model_works_16 : decode b_Model_works 16 = .ok (.aload_n 0, 1) := by decide +kernel
theorem d_Model_works_17 : decode b_Model_works 17 = .ok (.iload_n 2, 1) := by decide +kernel
theorem d_Model_works_18 : decode b_Model_works 18 = .ok (.invokevirtual 146, 3) := by decide +kernel
theorem d_Model_works_21 : decode b_Model_works 21 = .ok (.return_, 1) := by decide +kernel
theorem d_Model_works_22 : decode b_Model_works 22 = .ok (.iload_n 1, 1) := by decide +kernel
theorem d_Model_works_23 : decode b_Model_works 23 = .ok (.bipush 14, 2) := by decide +kernel
theorem d_Model_works_25 : decode b_Model_works 25 = .ok (.if_icmp .ne 4, 3) := by decide +kernel
theorem d_Model_works_28 : decode b_Model_works 28 = .ok (.return_, 1) := by decide +kernel
theorem d_Model_works_29 : decode b_Model_works 29 = .ok (.aload_n 0, 1) := by decide +kernel
theorem d_Model_works_30 : decode b_Model_works 30 = .ok (.invokevirtual 178, 3) := by decide +kernel
theorem d_Model_works_33 : decode b_Model_works 33 = .ok (.istore_n 3, 1) := by decide +kernel
theorem d_Model_works_34 : decode b_Model_works 34 = .ok (.iload_n 1, 1) := by decide +kernel
theorem d_Model_works_35 : decode b_Model_works 35 = .ok (.tableswitch 131 5 12 #[45, 55, 65, 75, 85, 95, 105, 118], 45) := by decide +kernel
theorem d_Model_works_80 : decode b_Model_works 80 = .ok (.aload_n 0, 1) := by decide +kernel
theorem d_Model_works_81 : decode b_Model_works 81 = .ok (.iload_n 3, 1) := by decide +kernel
theorem d_Model_works_82 : decode b_Model_works 82 = .ok (.iload_n 2, 1) := by decide +kernel
theorem d_Model_works_83 : decode b_Model_works 83 = .ok (.iadd, 1) := by decide +kernel
theorem d_Model_works_84 : decode b_Model_works 84 = .ok (.invokevirtual 146, 3) := by decide +kernel
theorem d_Model_works_87 : decode b_Model_works 87 = .ok (.goto 89, 3) := by decide +kernel
theorem d_Model_works_90 : decode b_Model_works 90 = .ok (.aload_n 0, 1) := by decide +kernel
theorem d_Model_works_91 : decode b_Model_works 91 = .ok (.iload_n 3, 1) := by decide +kernel
theorem d_Model_works_92 : decode b_Model_works 92 = .ok (.iload_n 2, 1) := by decide +kernel
theorem d_Model_works_93 : decode b_Model_works 93 = .ok (.isub, 1) := by decide +kernel
theorem d_Model_works_94 : decode b_Model_works 94 = .ok (.invokevirtual 146, 3) := by decide +kernel
theorem d_Model_works_97 : decode b_Model_works 97 = .ok (.goto 79, 3) := by decide +kernel
theorem d_Model_works_100 : decode b_Model_works 100 = .ok (.aload_n 0, 1) := by decide +kernel
theorem d_Model_works_101 : decode b_Model_works 101 = .ok (.iload_n 3, 1) := by decide +kernel
theorem d_Model_works_102 : decode b_Model_works 102 = .ok (.iload_n 2, 1) := by decide +kernel
theorem d_Model_works_103 : decode b_Model_works 103 = .ok (.imul, 1) := by decide +kernel
theorem d_Model_works_104 : decode b_Model_works 104 = .ok (.invokevirtual 146, 3) := by decide +kernel
theorem d_Model_works_107 : decode b_Model_works 107 = .ok (.goto 69, 3) := by decide +kernel
theorem d_Model_works_110 : decode b_Model_works 110 = .ok (.aload_n 0, 1) := by decide +kernel
theorem d_Model_works_111 : decode b_Model_works 111 = .ok (.iload_n 3, 1) := by decide +kernel
theorem d_Model_works_112 : decode b_Model_works 112 = .ok (.iload_n 2, 1) := by decide +kernel
theorem d_Model_works_113 : decode b_Model_works 113 = .ok (.iand, 1) := by decide +kernel
theorem d_Model_works_114 : decode b_Model_works 114 = .ok (.invokevirtual 146, 3) := by decide +kernel
theorem d_Model_works_117 : decode b_Model_works 117 = .ok (.goto 59, 3) := by decide +kernel
theorem d_Model_works_120 : decode b_Model_works 120 = .ok (.aload_n 0, 1) := by decide +kernel
theorem d_Model_works_121 : decode b_Model_works 121 = .ok (.iload_n 3, 1) := by decide +kernel
theorem d_Model_works_122 : decode b_Model_works 122 = .ok (.iload_n 2, 1) := by decide +kernel
theorem d_Model_works_123 : decode b_Model_works 123 = .ok (.ior, 1) := by decide +kernel
theorem d_Model_works_124 : decode b_Model_works 124 = .ok (.invokevirtual 146, 3) := by decide +kernel
theorem d_Model_works_127 : decode b_Model_works 127 = .ok (.goto 49, 3) := by decide +kernel
theorem d_Model_works_130 : decode b_Model_works 130 = .ok (.aload_n 0, 1) := by decide +kernel
theorem d_Model_works_131 : decode b_Model_works 131 = .ok (.iload_n 3, 1) := by decide +kernel
theorem d_Model_works_132 : decode b_Model_works 132 = .ok (.iload_n 2, 1) := by decide +kernel
theorem d_Model_works_133 : decode b_Model_works 133 = .ok (.ixor, 1) := by decide +kernel
theorem d_Model_works_134 : decode b_Model_works 134 = .ok (.invokevirtual 146, 3) := by decide +kernel
theorem d_Model_works_137 : decode b_Model_works 137 = .ok (.goto 39, 3) := by decide +kernel
theorem d_Model_works_140 : decode b_Model_works 140 = .ok (.aload_n 0, 1) := by decide +kernel
theorem d_Model_works_141 : decode b_Model_works 141 = .ok (.iload_n 3, 1) := by decide +kernel
theorem d_Model_works_142 : decode b_Model_works 142 = .ok (.iload_n 2, 1) := by decide +kernel
theorem d_Model_works_143 : decode b_Model_works 143 = .ok (.bipush 31, 2) := by decide +kernel
theorem d_Model_works_145 : decode b_Model_works 145 = .ok (.iand, 1) := by decide +kernel
theorem d_Model_works_146 : decode b_Model_works 146 = .ok (.ishl, 1) := by decide +kernel
theorem d_Model_works_147 : decode b_Model_works 147 = .ok (.invokevirtual 146, 3) := by decide +kernel
theorem d_Model_works_150 : decode b_Model_works 150 = .ok (.goto 26, 3) := by decide +kernel
theorem d_Model_works_153 : decode b_Model_works 153 = .ok (.aload_n 0, 1) := by decide +kernel
theorem d_Model_works_154 : decode b_Model_works 154 = .ok (.iload_n 3, 1) := by decide +kernel
theorem d_Model_works_155 : decode b_Model_works 155 = .ok (.iload_n 2, 1) := by decide +kernel
theorem d_Model_works_156 : decode b_Model_works 156 = .ok (.bipush 31, 2) := by decide +kernel
theorem d_Model_works_158 : decode b_Model_works 158 = .ok (.iand, 1) := by decide +kernel
theorem d_Model_works_159 : decode b_Model_works 159 = .ok (.ishr, 1) := by decide +kernel
theorem d_Model_works_160 : decode b_Model_works 160 = .ok (.invokevirtual 146, 3) := by decide +kernel
theorem d_Model_works_163 : decode b_Model_works 163 = .ok (.goto 13, 3) := by decide +kernel
theorem d_Model_works_166 : decode b_Model_works 166 = .ok (.aload_n 0, 1) := by decide +kernel
theorem d_Model_works_167 : decode b_Model_works 167 = .ok (.iload_n 2, 1) := by decide +kernel
theorem d_Model_works_168 : decode b_Model_works 168 = .ok (.invokevirtual 146, 3) := by decide +kernel
theorem d_Model_works_171 : decode b_Model_works 171 = .ok (.aload_n 0, 1) := by decide +kernel
theorem d_Model_works_172 : decode b_Model_works 172 = .ok (.iload_n 3, 1) := by decide +kernel
theorem d_Model_works_173 : decode b_Model_works 173 = .ok (.invokevirtual 146, 3) := by decide +kernel
theorem d_Model_works_176 : decode b_Model_works 176 = .ok (.return_, 1) := by decide +kernel
theorem d_Model_jumps_0 : decode b_Model_jumps 0 = .ok (.iconst 1, 1) := by decide +kernel
theorem d_Model_jumps_1 : decode b_Model_jumps 1 = .ok (.istore 4, 2) := by decide +kernel
theorem d_Model_jumps_3 : decode b_Model_jumps 3 = .ok (.iload_n 1, 1) := by decide +kernel
theorem d_Model_jumps_4 : decode b_Model_jumps 4 = .ok (.bipush 17, 2) := by decide +kernel
theorem d_Model_jumps_6 : decode b_Model_jumps 6 = .ok (.if_icmp .ne 20, 3) := by decide +kernel
theorem d_Model_jumps_9 : decode b_Model_jumps 9 = .ok (.aload_n 0, 1) := by decide +kernel
theorem d_Model_jumps_10 : decode b_Model_jumps 10 = .ok (.invokevirtual 178, 3) := by decide +kernel
theorem d_Model_jumps_13 : decode b_Model_jumps 13 = .ok (.ifCond .ne 7, 3) := by decide +kernel
theorem d_Model_jumps_16 : decode b_Model_jumps 16 = .ok (.iconst 1, 1) := by decide +kernel
theorem d_Model_jumps_17 : decode b_Model_jumps 17 = .ok (.goto 4, 3) := by decide +kernel
theorem d_Model_jumps_20 : decode b_Model_jumps 20 = .ok (.iconst 0, 1) := by decide +kernel
theorem d_Model_jumps_21 : decode b_Model_jumps 21 = .ok (.istore 4, 2) := by decide +kernel
theorem d_Model_jumps_23 : decode b_Model_jumps 23 = .ok (.goto 31, 3) := by decide +kernel
theorem d_Model_jumps_26 : decode b_Model_jumps 26 = .ok (.iload_n 1, 1) := by decide +kernel
theorem d_Model_jumps_27 : decode b_Model_jumps 27 = .ok (.bipush 18, 2) := by decide +kernel
theorem d_Model_jumps_29 : decode b_Model_jumps 29 = .ok (.if_icmp .ne 25, 3) := by decide +kernel
theorem d_Model_jumps_32 : decode b_Model_jumps 32 = .ok (.aload_n 0, 1) := by decide +kernel
theorem d_Model_jumps_33 : decode b_Model_jumps 33 = .ok (.invokevirtual 178, 3) := by decide +kernel
theorem d_Model_jumps_36 : decode b_Model_jumps 36 = .ok (.istore 5, 2) := by decide +kernel
theorem d_Model_jumps_38 : decode b_Model_jumps 38 = .ok (.aload_n 0, 1) := by decide +kernel
theorem d_Model_jumps_39 : decode b_Model_jumps 39 = .ok (.invokevirtual 178, 3) := by decide +kernel
theorem d_Model_jumps_42 : decode b_Model_jumps 42 = .ok (.iload 5, 2) := by decide +kernel
theorem d_Model_jumps_44 : decode b_Model_jumps 44 = .ok (.if_icmp .ge 7, 3) := by decide +kernel
theorem d_Model_jumps_47 : decode b_Model_jumps 47 = .ok (.iconst 1, 1) := by decide +kernel
theorem d_Model_jumps_48 : decode b_Model_jumps 48 = .ok (.goto 4, 3) := by decide +kernel
theorem d_Model_jumps_51 : decode b_Model_jumps 51 = .ok (.iconst 0, 1) := by decide +kernel
theorem d_Model_jumps_52 : decode b_Model_jumps 52 = .ok (.istore 4, 2) := by decide +kernel
theorem d_Model_jumps_54 : decode b_Model_jumps 54 = .ok (.aload_n 0, 1) := by decide +kernel
theorem d_Model_jumps_55 : decode b_Model_jumps 55 = .ok (.getfield 42, 3) := by decide +kernel
theorem d_Model_jumps_58 : decode b_Model_jumps 58 = .ok (.iload_n 3, 1) := by decide +kernel
theorem d_Model_jumps_59 : decode b_Model_jumps 59 = .ok (.iload 4, 2) := by decide +kernel
theorem d_Model_jumps_61 : decode b_Model_jumps 61 = .ok (.ifCond .eq 7, 3) := by decide +kernel
theorem d_Model_jumps_64 : decode b_Model_jumps 64 = .ok (.iload_n 2, 1) := by decide +kernel
theorem d_Model_jumps_65 : decode b_Model_jumps 65 = .ok (.goto 9, 3) := by decide +kernel
theorem d_Model_jumps_68 : decode b_Model_jumps 68 = .ok (.aload_n 0, 1) := by decide +kernel
theorem d_Model_jumps_69 : decode b_Model_jumps 69 = .ok (.getfield 42, 3) := by decide +kernel
theorem d_Model_jumps_72 : decode b_Model_jumps 72 = .ok (.iload_n 3, 1) := by decide +kernel
theorem d_Model_jumps_73 : decode b_Model_jumps 73 = .ok (.iaload, 1) := by decide +kernel
theorem d_Model_jumps_74 : decode b_Model_jumps 74 = .ok (.iastore, 1) := by decide +kernel
theorem d_Model_jumps_75 : decode b_Model_jumps 75 = .ok (.return_, 1) := by decide +kernel
theorem d_Model_bytes_0 : decode b_Model_bytes 0 = .ok (.iload_n 1, 1) := by decide +kernel
theorem d_Model_bytes_1 : decode b_Model_bytes 1 = .ok (.bipush 20, 2) := by decide +kernel
theorem d_Model_bytes_3 : decode b_Model_bytes 3 = .ok (.if_icmp .ne 12, 3) := by decide +kernel
theorem d_Model_bytes_6 : decode b_Model_bytes 6 = .ok (.aload_n 0, 1) := by decide +kernel
theorem d_Model_bytes_7 : decode b_Model_bytes 7 = .ok (.aload_n 0, 1) := by decide +kernel
theorem d_Model_bytes_8 : decode b_Model_bytes 8 = .ok (.getfield 119, 3) := by decide +kernel
theorem d_Model_bytes_11 : decode b_Model_bytes 11 = .ok (.invokevirtual 146, 3) := by decide +kernel
theorem d_Model_bytes_14 : decode b_Model_bytes 14 = .ok (.return_, 1) := by decide +kernel
theorem d_Model_bytes_15 : decode b_Model_bytes 15 = .ok (.aload_n 0, 1) := by decide +kernel
theorem d_Model_bytes_16 : decode b_Model_bytes 16 = .ok (.invokevirtual 178, 3) := by decide +kernel
theorem d_Model_bytes_19 : decode b_Model_bytes 19 = .ok (.istore_n 2, 1) := by decide +kernel
theorem d_Model_bytes_20 : decode b_Model_bytes 20 = .ok (.iload_n 1, 1) := by decide +kernel
theorem d_Model_bytes_21 : decode b_Model_bytes 21 = .ok (.bipush 19, 2) := by decide +kernel
theorem d_Model_bytes_23 : decode b_Model_bytes 23 = .ok (.if_icmp .ne 38, 3) := by decide +kernel
theorem d_Model_bytes_26 : decode b_Model_bytes 26 = .ok (.iload_n 2, 1) := by decide +kernel
theorem d_Model_bytes_27 : decode b_Model_bytes 27 = .ok (.ifCond .lt 11, 3) := by decide +kernel
theorem d_Model_bytes_30 : decode b_Model_bytes 30 = .ok (.iload_n 2, 1) := by decide +kernel
theorem d_Model_bytes_31 : decode b_Model_bytes 31 = .ok (.aload_n 0, 1) := by decide +kernel
theorem d_Model_bytes_32 : decode b_Model_bytes 32 = .ok (.getfield 119, 3) := by decide +kernel
theorem d_Model_bytes_35 : decode b_Model_bytes 35 = .ok (.if_icmp .lt 11, 3) := by decide +kernel
theorem d_Model_bytes_38 : decode b_Model_bytes 38 = .ok (.aload_n 0, 1) := by decide +kernel
theorem d_Model_bytes_39 : decode b_Model_bytes 39 = .ok (.iconst 2, 1) := by decide +kernel
theorem d_Model_bytes_40 : decode b_Model_bytes 40 = .ok (.invokevirtual 149, 3) := by decide +kernel
theorem d_Model_bytes_43 : decode b_Model_bytes 43 = .ok (.goto 17, 3) := by decide +kernel
theorem d_Model_bytes_46 : decode b_Model_bytes 46 = .ok (.aload_n 0, 1) := by decide +kernel
theorem d_Model_bytes_47 : decode b_Model_bytes 47 = .ok (.aload_n 0, 1) := by decide +kernel
theorem d_Model_bytes_48 : decode b_Model_bytes 48 = .ok (.getfield 54, 3) := by decide +kernel
theorem d_Model_bytes_51 : decode b_Model_bytes 51 = .ok (.iload_n 2, 1) := by decide +kernel
theorem d_Model_bytes_52 : decode b_Model_bytes 52 = .ok (.baload, 1) := by decide +kernel
theorem d_Model_bytes_53 : decode b_Model_bytes 53 = .ok (.sipush 255, 3) := by decide +kernel
theorem d_Model_bytes_56 : decode b_Model_bytes 56 = .ok (.iand, 1) := by decide +kernel
theorem d_Model_bytes_57 : decode b_Model_bytes 57 = .ok (.invokevirtual 146, 3) := by decide +kernel
theorem d_Model_bytes_60 : decode b_Model_bytes 60 = .ok (.return_, 1) := by decide +kernel
theorem d_Model_bytes_61 : decode b_Model_bytes 61 = .ok (.aload_n 0, 1) := by decide +kernel
theorem d_Model_bytes_62 : decode b_Model_bytes 62 = .ok (.getfield 122, 3) := by decide +kernel
theorem d_Model_bytes_65 : decode b_Model_bytes 65 = .ok (.bipush 64, 2) := by decide +kernel
theorem d_Model_bytes_67 : decode b_Model_bytes 67 = .ok (.if_icmp .ne 9, 3) := by decide +kernel
theorem d_Model_bytes_70 : decode b_Model_bytes 70 = .ok (.aload_n 0, 1) := by decide +kernel
theorem d_Model_bytes_71 : decode b_Model_bytes 71 = .ok (.iconst 3, 1) := by decide +kernel
theorem d_Model_bytes_72 : decode b_Model_bytes 72 = .ok (.invokevirtual 149, 3) := by decide +kernel
theorem d_Model_bytes_75 : decode b_Model_bytes 75 = .ok (.return_, 1) := by decide +kernel
theorem d_Model_bytes_76 : decode b_Model_bytes 76 = .ok (.aload_n 0, 1) := by decide +kernel
theorem d_Model_bytes_77 : decode b_Model_bytes 77 = .ok (.getfield 57, 3) := by decide +kernel
theorem d_Model_bytes_80 : decode b_Model_bytes 80 = .ok (.aload_n 0, 1) := by decide +kernel
theorem d_Model_bytes_81 : decode b_Model_bytes 81 = .ok (.getfield 122, 3) := by decide +kernel
theorem d_Model_bytes_84 : decode b_Model_bytes 84 = .ok (.iload_n 2, 1) := by decide +kernel
theorem d_Model_bytes_85 : decode b_Model_bytes 85 = .ok (.i2b, 1) := by decide +kernel
theorem d_Model_bytes_86 : decode b_Model_bytes 86 = .ok (.bastore, 1) := by decide +kernel
theorem d_Model_bytes_87 : decode b_Model_bytes 87 = .ok (.aload_n 0, 1) := by decide +kernel
theorem d_Model_bytes_88 : decode b_Model_bytes 88 = .ok (.dup, 1) := by decide +kernel
theorem d_Model_bytes_89 : decode b_Model_bytes 89 = .ok (.getfield 122, 3) := by decide +kernel
theorem d_Model_bytes_92 : decode b_Model_bytes 92 = .ok (.iconst 1, 1) := by decide +kernel
theorem d_Model_bytes_93 : decode b_Model_bytes 93 = .ok (.iadd, 1) := by decide +kernel
theorem d_Model_bytes_94 : decode b_Model_bytes 94 = .ok (.putfield 122, 3) := by decide +kernel
theorem d_Model_bytes_97 : decode b_Model_bytes 97 = .ok (.return_, 1) := by decide +kernel
theorem d_Model_finish_0 : decode b_Model_finish 0 = .ok (.iload_n 1, 1) := by decide +kernel
theorem d_Model_finish_1 : decode b_Model_finish 1 = .ok (.bipush 24, 2) := by decide +kernel
theorem d_Model_finish_3 : decode b_Model_finish 3 = .ok (.if_icmp .ne 11, 3) := by decide +kernel
theorem d_Model_finish_6 : decode b_Model_finish 6 = .ok (.aload_n 0, 1) := by decide +kernel
theorem d_Model_finish_7 : decode b_Model_finish 7 = .ok (.iconst 1, 1) := by decide +kernel
theorem d_Model_finish_8 : decode b_Model_finish 8 = .ok (.invokevirtual 149, 3) := by decide +kernel
theorem d_Model_finish_11 : decode b_Model_finish 11 = .ok (.goto 21, 3) := by decide +kernel
theorem d_Model_finish_14 : decode b_Model_finish 14 = .ok (.aload_n 0, 1) := by decide +kernel
theorem d_Model_finish_15 : decode b_Model_finish 15 = .ok (.iload_n 1, 1) := by decide +kernel
theorem d_Model_finish_16 : decode b_Model_finish 16 = .ok (.bipush 22, 2) := by decide +kernel
theorem d_Model_finish_18 : decode b_Model_finish 18 = .ok (.if_icmp .ne 10, 3) := by decide +kernel
theorem d_Model_finish_21 : decode b_Model_finish 21 = .ok (.aload_n 0, 1) := by decide +kernel
theorem d_Model_finish_22 : decode b_Model_finish 22 = .ok (.invokevirtual 178, 3) := by decide +kernel
theorem d_Model_finish_25 : decode b_Model_finish 25 = .ok (.goto 4, 3) := by decide +kernel
theorem d_Model_finish_28 : decode b_Model_finish 28 = .ok (.iconst 0, 1) := by decide +kernel
theorem d_Model_finish_29 : decode b_Model_finish 29 = .ok (.invokevirtual 181, 3) := by decide +kernel
theorem d_Model_finish_32 : decode b_Model_finish 32 = .ok (.return_, 1) := by decide +kernel
theorem d_Model_divide_0 : decode b_Model_divide 0 = .ok (.aload_n 0, 1) := by decide +kernel
theorem d_Model_divide_1 : decode b_Model_divide 1 = .ok (.invokevirtual 178, 3) := by decide +kernel
theorem d_Model_divide_4 : decode b_Model_divide 4 = .ok (.istore_n 2, 1) := by decide +kernel
theorem d_Model_divide_5 : decode b_Model_divide 5 = .ok (.aload_n 0, 1) := by decide +kernel
theorem d_Model_divide_6 : decode b_Model_divide 6 = .ok (.invokevirtual 178, 3) := by decide +kernel
theorem d_Model_divide_9 : decode b_Model_divide 9 = .ok (.istore_n 3, 1) := by decide +kernel
theorem d_Model_divide_10 : decode b_Model_divide 10 = .ok (.iload_n 2, 1) := by decide +kernel
theorem d_Model_divide_11 : decode b_Model_divide 11 = .ok (.ifCond .ne 9, 3) := by decide +kernel
theorem d_Model_divide_14 : decode b_Model_divide 14 = .ok (.aload_n 0, 1) := by decide +kernel
theorem d_Model_divide_15 : decode b_Model_divide 15 = .ok (.iconst 1, 1) := by decide +kernel
theorem d_Model_divide_16 : decode b_Model_divide 16 = .ok (.invokevirtual 149, 3) := by decide +kernel
theorem d_Model_divide_19 : decode b_Model_divide 19 = .ok (.return_, 1) := by decide +kernel
theorem d_Model_divide_20 : decode b_Model_divide 20 = .ok (.iload_n 2, 1) := by decide +kernel
theorem d_Model_divide_21 : decode b_Model_divide 21 = .ok (.iconst (-1), 1) := by decide +kernel
theorem d_Model_divide_22 : decode b_Model_divide 22 = .ok (.if_icmp .ne 22, 3) := by decide +kernel
theorem d_Model_divide_25 : decode b_Model_divide 25 = .ok (.aload_n 0, 1) := by decide +kernel
theorem d_Model_divide_26 : decode b_Model_divide 26 = .ok (.iload_n 1, 1) := by decide +kernel
theorem d_Model_divide_27 : decode b_Model_divide 27 = .ok (.bipush 25, 2) := by decide +kernel
theorem d_Model_divide_29 : decode b_Model_divide 29 = .ok (.if_icmp .ne 8, 3) := by decide +kernel
theorem d_Model_divide_32 : decode b_Model_divide 32 = .ok (.iload_n 3, 1) := by decide +kernel
theorem d_Model_divide_33 : decode b_Model_divide 33 = .ok (.ineg, 1) := by decide +kernel
theorem d_Model_divide_34 : decode b_Model_divide 34 = .ok (.goto 4, 3) := by decide +kernel
theorem d_Model_divide_37 : decode b_Model_divide 37 = .ok (.iconst 0, 1) := by decide +kernel
theorem d_Model_divide_38 : decode b_Model_divide 38 = .ok (.invokevirtual 146, 3) := by decide +kernel
theorem d_Model_divide_41 : decode b_Model_divide 41 = .ok (.goto 22, 3) := by decide +kernel
theorem d_Model_divide_44 : decode b_Model_divide 44 = .ok (.aload_n 0, 1) := by decide +kernel
theorem d_Model_divide_45 : decode b_Model_divide 45 = .ok (.iload_n 1, 1) := by decide +kernel
theorem d_Model_divide_46 : decode b_Model_divide 46 = .ok (.bipush 25, 2) := by decide +kernel
theorem d_Model_divide_48 : decode b_Model_divide 48 = .ok (.if_icmp .ne 9, 3) := by decide +kernel
theorem d_Model_divide_51 : decode b_Model_divide 51 = .ok (.iload_n 3, 1) := by decide +kernel
theorem d_Model_divide_52 : decode b_Model_divide 52 = .ok (.iload_n 2, 1) := by decide +kernel
theorem d_Model_divide_53 : decode b_Model_divide 53 = .ok (.idiv, 1) := by decide +kernel
theorem d_Model_divide_54 : decode b_Model_divide 54 = .ok (.goto 6, 3) := by decide +kernel
theorem d_Model_divide_57 : decode b_Model_divide 57 = .ok (.iload_n 3, 1) := by decide +kernel
theorem d_Model_divide_58 : decode b_Model_divide 58 = .ok (.iload_n 2, 1) := by decide +kernel
theorem d_Model_divide_59 : decode b_Model_divide 59 = .ok (.irem, 1) := by decide +kernel
theorem d_Model_divide_60 : decode b_Model_divide 60 = .ok (.invokevirtual 146, 3) := by decide +kernel
theorem d_Model_divide_63 : decode b_Model_divide 63 = .ok (.return_, 1) := by decide +kernel
theorem d_Model_call_0 : decode b_Model_call 0 = .ok (.aload_n 0, 1) := by decide +kernel
theorem d_Model_call_1 : decode b_Model_call 1 = .ok (.getfield 16, 3) := by decide +kernel
theorem d_Model_call_4 : decode b_Model_call 4 = .ok (.iload_n 1, 1) := by decide +kernel
theorem d_Model_call_5 : decode b_Model_call 5 = .ok (.bipush 8, 2) := by decide +kernel
theorem d_Model_call_7 : decode b_Model_call 7 = .ok (.irem, 1) := by decide +kernel
theorem d_Model_call_8 : decode b_Model_call 8 = .ok (.iaload, 1) := by decide +kernel
theorem d_Model_call_9 : decode b_Model_call 9 = .ok (.ifCond .ne 11, 3) := by decide +kernel
theorem d_Model_call_12 : decode b_Model_call 12 = .ok (.aload_n 0, 1) := by decide +kernel
theorem d_Model_call_13 : decode b_Model_call 13 = .ok (.iconst 4, 1) := by decide +kernel
theorem d_Model_call_14 : decode b_Model_call 14 = .ok (.invokevirtual 149, 3) := by decide +kernel
theorem d_Model_call_17 : decode b_Model_call 17 = .ok (.goto 32, 3) := by decide +kernel
theorem d_Model_call_20 : decode b_Model_call 20 = .ok (.aload_n 0, 1) := by decide +kernel
theorem d_Model_call_21 : decode b_Model_call 21 = .ok (.getfield 140, 3) := by decide +kernel
theorem d_Model_call_24 : decode b_Model_call 24 = .ok (.bipush 8, 2) := by decide +kernel
theorem d_Model_call_26 : decode b_Model_call 26 = .ok (.if_icmp .ne 11, 3) := by decide +kernel
theorem d_Model_call_29 : decode b_Model_call 29 = .ok (.aload_n 0, 1) := by decide +kernel
theorem d_Model_call_30 : decode b_Model_call 30 = .ok (.iconst 5, 1) := by decide +kernel
theorem d_Model_call_31 : decode b_Model_call 31 = .ok (.invokevirtual 149, 3) := by decide +kernel
theorem d_Model_call_34 : decode b_Model_call 34 = .ok (.goto 15, 3) := by decide +kernel
theorem d_Model_call_37 : decode b_Model_call 37 = .ok (.aload_n 0, 1) := by decide +kernel
theorem d_Model_call_38 : decode b_Model_call 38 = .ok (.iload_n 1, 1) := by decide +kernel
theorem d_Model_call_39 : decode b_Model_call 39 = .ok (.bipush 8, 2) := by decide +kernel
theorem d_Model_call_41 : decode b_Model_call 41 = .ok (.irem, 1) := by decide +kernel
theorem d_Model_call_42 : decode b_Model_call 42 = .ok (.iload_n 1, 1) := by decide +kernel
theorem d_Model_call_43 : decode b_Model_call 43 = .ok (.bipush 8, 2) := by decide +kernel
theorem d_Model_call_45 : decode b_Model_call 45 = .ok (.idiv, 1) := by decide +kernel
theorem d_Model_call_46 : decode b_Model_call 46 = .ok (.invokevirtual 143, 3) := by decide +kernel
theorem d_Model_call_49 : decode b_Model_call 49 = .ok (.return_, 1) := by decide +kernel
theorem d_Model_state_0 : decode b_Model_state 0 = .ok (.aload_n 0, 1) := by decide +kernel
theorem d_Model_state_1 : decode b_Model_state 1 = .ok (.getfield 125, 3) := by decide +kernel
theorem d_Model_state_4 : decode b_Model_state 4 = .ok (.ifCond .ne 5, 3) := by decide +kernel
theorem d_Model_state_7 : decode b_Model_state 7 = .ok (.iconst (-1), 1) := by decide +kernel
theorem d_Model_state_8 : decode b_Model_state 8 = .ok (.ireturn, 1) := by decide +kernel
theorem d_Model_state_9 : decode b_Model_state 9 = .ok (.iload_n 1, 1) := by decide +kernel
theorem d_Model_state_10 : decode b_Model_state 10 = .ok (.tableswitch 152 0 7 #[46, 70, 75, 80, 85, 101, 124, 147], 46) := by decide +kernel
theorem d_Model_state_56 : decode b_Model_state 56 = .ok (.aload_n 0, 1) := by decide +kernel
theorem d_Model_state_57 : decode b_Model_state 57 = .ok (.getfield 108, 3) := by decide +kernel
theorem d_Model_state_60 : decode b_Model_state 60 = .ok (.ifCond .eq 7, 3) := by decide +kernel
theorem d_Model_state_63 : decode b_Model_state 63 = .ok (.iconst 1, 1) := by decide +kernel
theorem d_Model_state_64 : decode b_Model_state 64 = .ok (.goto 15, 3) := by decide +kernel
theorem d_Model_state_67 : decode b_Model_state 67 = .ok (.aload_n 0, 1) := by decide +kernel
theorem d_Model_state_68 : decode b_Model_state 68 = .ok (.getfield 128, 3) := by decide +kernel
theorem d_Model_state_71 : decode b_Model_state 71 = .ok (.ifCond .eq 7, 3) := by decide +kernel
theorem d_Model_state_74 : decode b_Model_state 74 = .ok (.iconst 2, 1) := by decide +kernel
theorem d_Model_state_75 : decode b_Model_state 75 = .ok (.goto 4, 3) := by decide +kernel
theorem d_Model_state_78 : decode b_Model_state 78 = .ok (.iconst 0, 1) := by decide +kernel
theorem d_Model_state_79 : decode b_Model_state 79 = .ok (.ireturn, 1) := by decide +kernel
theorem d_Model_state_80 : decode b_Model_state 80 = .ok (.aload_n 0, 1) := by decide +kernel
theorem d_Model_state_81 : decode b_Model_state 81 = .ok (.getfield 131, 3) := by decide +kernel
theorem d_Model_state_84 : decode b_Model_state 84 = .ok (.ireturn, 1) := by decide +kernel
theorem d_Model_state_85 : decode b_Model_state 85 = .ok (.aload_n 0, 1) := by decide +kernel
theorem d_Model_state_86 : decode b_Model_state 86 = .ok (.getfield 134, 3) := by decide +kernel
theorem d_Model_state_89 : decode b_Model_state 89 = .ok (.ireturn, 1) := by decide +kernel
theorem d_Model_state_90 : decode b_Model_state 90 = .ok (.aload_n 0, 1) := by decide +kernel
theorem d_Model_state_91 : decode b_Model_state 91 = .ok (.getfield 137, 3) := by decide +kernel
theorem d_Model_state_94 : decode b_Model_state 94 = .ok (.ireturn, 1) := by decide +kernel
theorem d_Model_state_95 : decode b_Model_state 95 = .ok (.aload_n 0, 1) := by decide +kernel
theorem d_Model_state_96 : decode b_Model_state 96 = .ok (.getfield 108, 3) := by decide +kernel
theorem d_Model_state_99 : decode b_Model_state 99 = .ok (.ifCond .eq 10, 3) := by decide +kernel
theorem d_Model_state_102 : decode b_Model_state 102 = .ok (.aload_n 0, 1) := by decide +kernel
theorem d_Model_state_103 : decode b_Model_state 103 = .ok (.getfield 140, 3) := by decide +kernel
theorem d_Model_state_106 : decode b_Model_state 106 = .ok (.goto 4, 3) := by decide +kernel
theorem d_Model_state_109 : decode b_Model_state 109 = .ok (.iconst 0, 1) := by decide +kernel
theorem d_Model_state_110 : decode b_Model_state 110 = .ok (.ireturn, 1) := by decide +kernel
theorem d_Model_state_111 : decode b_Model_state 111 = .ok (.aload_n 0, 1) := by decide +kernel
theorem d_Model_state_112 : decode b_Model_state 112 = .ok (.getfield 108, 3) := by decide +kernel
theorem d_Model_state_115 : decode b_Model_state 115 = .ok (.ifCond .eq 17, 3) := by decide +kernel
theorem d_Model_state_118 : decode b_Model_state 118 = .ok (.aload_n 0, 1) := by decide +kernel
theorem d_Model_state_119 : decode b_Model_state 119 = .ok (.getfield 39, 3) := by decide +kernel
theorem d_Model_state_122 : decode b_Model_state 122 = .ok (.aload_n 0, 1) := by decide +kernel
theorem d_Model_state_123 : decode b_Model_state 123 = .ok (.getfield 140, 3) := by decide +kernel
theorem d_Model_state_126 : decode b_Model_state 126 = .ok (.iconst 1, 1) := by decide +kernel
theorem d_Model_state_127 : decode b_Model_state 127 = .ok (.isub, 1) := by decide +kernel
theorem d_Model_state_128 : decode b_Model_state 128 = .ok (.iaload, 1) := by decide +kernel
theorem d_Model_state_129 : decode b_Model_state 129 = .ok (.goto 4, 3) := by decide +kernel
theorem d_Model_state_132 : decode b_Model_state 132 = .ok (.iconst (-1), 1) := by decide +kernel
theorem d_Model_state_133 : decode b_Model_state 133 = .ok (.ireturn, 1) := by decide +kernel
theorem d_Model_state_134 : decode b_Model_state 134 = .ok (.aload_n 0, 1) := by decide +kernel
theorem d_Model_state_135 : decode b_Model_state 135 = .ok (.getfield 108, 3) := by decide +kernel
theorem d_Model_state_138 : decode b_Model_state 138 = .ok (.ifCond .eq 17, 3) := by decide +kernel
theorem d_Model_state_141 : decode b_Model_state 141 = .ok (.aload_n 0, 1) := by decide +kernel
theorem d_Model_state_142 : decode b_Model_state 142 = .ok (.getfield 42, 3) := by decide +kernel
theorem d_Model_state_145 : decode b_Model_state 145 = .ok (.aload_n 0, 1) := by decide +kernel
theorem d_Model_state_146 : decode b_Model_state 146 = .ok (.getfield 140, 3) := by decide +kernel
theorem d_Model_state_149 : decode b_Model_state 149 = .ok (.iconst 1, 1) := by decide +kernel
theorem d_Model_state_150 : decode b_Model_state 150 = .ok (.isub, 1) := by decide +kernel
theorem d_Model_state_151 : decode b_Model_state 151 = .ok (.iaload, 1) := by decide +kernel
theorem d_Model_state_152 : decode b_Model_state 152 = .ok (.goto 4, 3) := by decide +kernel
theorem d_Model_state_155 : decode b_Model_state 155 = .ok (.iconst (-1), 1) := by decide +kernel
theorem d_Model_state_156 : decode b_Model_state 156 = .ok (.ireturn, 1) := by decide +kernel
theorem d_Model_state_157 : decode b_Model_state 157 = .ok (.aload_n 0, 1) := by decide +kernel
theorem d_Model_state_158 : decode b_Model_state 158 = .ok (.getfield 122, 3) := by decide +kernel
theorem d_Model_state_161 : decode b_Model_state 161 = .ok (.ireturn, 1) := by decide +kernel
theorem d_Model_state_162 : decode b_Model_state 162 = .ok (.iconst (-1), 1) := by decide +kernel
theorem d_Model_state_163 : decode b_Model_state 163 = .ok (.ireturn, 1) := by decide +kernel
theorem d_Model_stack_0 : decode b_Model_stack 0 = .ok (.aload_n 0, 1) := by decide +kernel
theorem d_Model_stack_1 : decode b_Model_stack 1 = .ok (.getfield 108, 3) := by decide +kernel
theorem d_Model_stack_4 : decode b_Model_stack 4 = .ok (.ifCond .eq 22, 3) := by decide +kernel
theorem d_Model_stack_7 : decode b_Model_stack 7 = .ok (.iload_n 1, 1) := by decide +kernel
theorem d_Model_stack_8 : decode b_Model_stack 8 = .ok (.ifCond .lt 18, 3) := by decide +kernel
theorem d_Model_stack_11 : decode b_Model_stack 11 = .ok (.iload_n 1, 1) := by decide +kernel
theorem d_Model_stack_12 : decode b_Model_stack 12 = .ok (.aload_n 0, 1) := by decide +kernel
theorem d_Model_stack_13 : decode b_Model_stack 13 = .ok (.getfield 45, 3) := by decide +kernel
theorem d_Model_stack_16 : decode b_Model_stack 16 = .ok (.aload_n 0, 1) := by decide +kernel
theorem d_Model_stack_17 : decode b_Model_stack 17 = .ok (.getfield 140, 3) := by decide +kernel
theorem d_Model_stack_20 : decode b_Model_stack 20 = .ok (.iconst 1, 1) := by decide +kernel
theorem d_Model_stack_21 : decode b_Model_stack 21 = .ok (.isub, 1) := by decide +kernel
theorem d_Model_stack_22 : decode b_Model_stack 22 = .ok (.iaload, 1) := by decide +kernel
theorem d_Model_stack_23 : decode b_Model_stack 23 = .ok (.if_icmp .lt 7, 3) := by decide +kernel
theorem d_Model_stack_26 : decode b_Model_stack 26 = .ok (.iconst 0, 1) := by decide +kernel
theorem d_Model_stack_27 : decode b_Model_stack 27 = .ok (.goto 19, 3) := by decide +kernel
theorem d_Model_stack_30 : decode b_Model_stack 30 = .ok (.aload_n 0, 1) := by decide +kernel
theorem d_Model_stack_31 : decode b_Model_stack 31 = .ok (.getfield 48, 3) := by decide +kernel
theorem d_Model_stack_34 : decode b_Model_stack 34 = .ok (.bipush 8, 2) := by decide +kernel
theorem d_Model_stack_36 : decode b_Model_stack 36 = .ok (.aload_n 0, 1) := by decide +kernel
theorem d_Model_stack_37 : decode b_Model_stack 37 = .ok (.getfield 140, 3) := by decide +kernel
theorem d_Model_stack_40 : decode b_Model_stack 40 = .ok (.iconst 1, 1) := by decide +kernel
theorem d_Model_stack_41 : decode b_Model_stack 41 = .ok (.isub, 1) := by decide +kernel
theorem d_Model_stack_42 : decode b_Model_stack 42 = .ok (.imul, 1) := by decide +kernel
theorem d_Model_stack_43 : decode b_Model_stack 43 = .ok (.iload_n 1, 1) := by decide +kernel
theorem d_Model_stack_44 : decode b_Model_stack 44 = .ok (.iadd, 1) := by decide +kernel
theorem d_Model_stack_45 : decode b_Model_stack 45 = .ok (.iaload, 1) := by decide +kernel
theorem d_Model_stack_46 : decode b_Model_stack 46 = .ok (.ireturn, 1) := by decide +kernel
theorem d_Model_local_0 : decode b_Model_local 0 = .ok (.aload_n 0, 1) := by decide +kernel
theorem d_Model_local_1 : decode b_Model_local 1 = .ok (.getfield 108, 3) := by decide +kernel
theorem d_Model_local_4 : decode b_Model_local 4 = .ok (.ifCond .eq 13, 3) := by decide +kernel
theorem d_Model_local_7 : decode b_Model_local 7 = .ok (.iload_n 1, 1) := by decide +kernel
theorem d_Model_local_8 : decode b_Model_local 8 = .ok (.ifCond .lt 9, 3) := by decide +kernel
theorem d_Model_local_11 : decode b_Model_local 11 = .ok (.iload_n 1, 1) := by decide +kernel
theorem d_Model_local_12 : decode b_Model_local 12 = .ok (.bipush 7, 2) := by decide +kernel
theorem d_Model_local_14 : decode b_Model_local 14 = .ok (.if_icmp .le 7, 3) := by decide +kernel
theorem d_Model_local_17 : decode b_Model_local 17 = .ok (.iconst 0, 1) := by decide +kernel
theorem d_Model_local_18 : decode b_Model_local 18 = .ok (.goto 19, 3) := by decide +kernel
theorem d_Model_local_21 : decode b_Model_local 21 = .ok (.aload_n 0, 1) := by decide +kernel
theorem d_Model_local_22 : decode b_Model_local 22 = .ok (.getfield 51, 3) := by decide +kernel
theorem d_Model_local_25 : decode b_Model_local 25 = .ok (.bipush 8, 2) := by decide +kernel
theorem d_Model_local_27 : decode b_Model_local 27 = .ok (.aload_n 0, 1) := by decide +kernel
theorem d_Model_local_28 : decode b_Model_local 28 = .ok (.getfield 140, 3) := by decide +kernel
theorem d_Model_local_31 : decode b_Model_local 31 = .ok (.iconst 1, 1) := by decide +kernel
theorem d_Model_local_32 : decode b_Model_local 32 = .ok (.isub, 1) := by decide +kernel
theorem d_Model_local_33 : decode b_Model_local 33 = .ok (.imul, 1) := by decide +kernel
theorem d_Model_local_34 : decode b_Model_local 34 = .ok (.iload_n 1, 1) := by decide +kernel
theorem d_Model_local_35 : decode b_Model_local 35 = .ok (.iadd, 1) := by decide +kernel
theorem d_Model_local_36 : decode b_Model_local 36 = .ok (.iaload, 1) := by decide +kernel
theorem d_Model_local_37 : decode b_Model_local 37 = .ok (.ireturn, 1) := by decide +kernel
theorem d_Model_cell_0 : decode b_Model_cell 0 = .ok (.iload_n 1, 1) := by decide +kernel
theorem d_Model_cell_1 : decode b_Model_cell 1 = .ok (.ifCond .lt 28, 3) := by decide +kernel
theorem d_Model_cell_4 : decode b_Model_cell 4 = .ok (.iload_n 1, 1) := by decide +kernel
theorem d_Model_cell_5 : decode b_Model_cell 5 = .ok (.bipush 8, 2) := by decide +kernel
theorem d_Model_cell_7 : decode b_Model_cell 7 = .ok (.if_icmp .ge 22, 3) := by decide +kernel
theorem d_Model_cell_10 : decode b_Model_cell 10 = .ok (.aload_n 0, 1) := by decide +kernel
theorem d_Model_cell_11 : decode b_Model_cell 11 = .ok (.getfield 16, 3) := by decide +kernel
theorem d_Model_cell_14 : decode b_Model_cell 14 = .ok (.iload_n 1, 1) := by decide +kernel
theorem d_Model_cell_15 : decode b_Model_cell 15 = .ok (.iaload, 1) := by decide +kernel
theorem d_Model_cell_16 : decode b_Model_cell 16 = .ok (.ifCond .eq 13, 3) := by decide +kernel
theorem d_Model_cell_19 : decode b_Model_cell 19 = .ok (.iload_n 2, 1) := by decide +kernel
theorem d_Model_cell_20 : decode b_Model_cell 20 = .ok (.ifCond .lt 9, 3) := by decide +kernel
theorem d_Model_cell_23 : decode b_Model_cell 23 = .ok (.iload_n 2, 1) := by decide +kernel
theorem d_Model_cell_24 : decode b_Model_cell 24 = .ok (.bipush 16, 2) := by decide +kernel
theorem d_Model_cell_26 : decode b_Model_cell 26 = .ok (.if_icmp .lt 7, 3) := by decide +kernel
theorem d_Model_cell_29 : decode b_Model_cell 29 = .ok (.iconst 0, 1) := by decide +kernel
theorem d_Model_cell_30 : decode b_Model_cell 30 = .ok (.goto 14, 3) := by decide +kernel
theorem d_Model_cell_33 : decode b_Model_cell 33 = .ok (.aload_n 0, 1) := by decide +kernel
theorem d_Model_cell_34 : decode b_Model_cell 34 = .ok (.getfield 23, 3) := by decide +kernel
theorem d_Model_cell_37 : decode b_Model_cell 37 = .ok (.iload_n 1, 1) := by decide +kernel
theorem d_Model_cell_38 : decode b_Model_cell 38 = .ok (.bipush 16, 2) := by decide +kernel
theorem d_Model_cell_40 : decode b_Model_cell 40 = .ok (.imul, 1) := by decide +kernel
theorem d_Model_cell_41 : decode b_Model_cell 41 = .ok (.iload_n 2, 1) := by decide +kernel
theorem d_Model_cell_42 : decode b_Model_cell 42 = .ok (.iadd, 1) := by decide +kernel
theorem d_Model_cell_43 : decode b_Model_cell 43 = .ok (.iaload, 1) := by decide +kernel
theorem d_Model_cell_44 : decode b_Model_cell 44 = .ok (.ireturn, 1) := by decide +kernel
theorem d_Model_out_0 : decode b_Model_out 0 = .ok (.iload_n 1, 1) := by decide +kernel
theorem d_Model_out_1 : decode b_Model_out 1 = .ok (.ifCond .lt 11, 3) := by decide +kernel
theorem d_Model_out_4 : decode b_Model_out 4 = .ok (.iload_n 1, 1) := by decide +kernel
theorem d_Model_out_5 : decode b_Model_out 5 = .ok (.aload_n 0, 1) := by decide +kernel
theorem d_Model_out_6 : decode b_Model_out 6 = .ok (.getfield 122, 3) := by decide +kernel
theorem d_Model_out_9 : decode b_Model_out 9 = .ok (.if_icmp .lt 7, 3) := by decide +kernel
theorem d_Model_out_12 : decode b_Model_out 12 = .ok (.iconst (-1), 1) := by decide +kernel
theorem d_Model_out_13 : decode b_Model_out 13 = .ok (.goto 13, 3) := by decide +kernel
theorem d_Model_out_16 : decode b_Model_out 16 = .ok (.aload_n 0, 1) := by decide +kernel
theorem d_Model_out_17 : decode b_Model_out 17 = .ok (.getfield 57, 3) := by decide +kernel
theorem d_Model_out_20 : decode b_Model_out 20 = .ok (.iload_n 1, 1) := by decide +kernel
theorem d_Model_out_21 : decode b_Model_out 21 = .ok (.baload, 1) := by decide +kernel
theorem d_Model_out_22 : decode b_Model_out 22 = .ok (.sipush 255, 3) := by decide +kernel
theorem d_Model_out_25 : decode b_Model_out 25 = .ok (.iand, 1) := by decide +kernel
theorem d_Model_out_26 : decode b_Model_out 26 = .ok (.ireturn, 1) := by decide +kernel
theorem d_Model_height_0 : decode b_Model_height 0 = .ok (.iload_n 1, 1) := by decide +kernel
theorem d_Model_height_1 : decode b_Model_height 1 = .ok (.ifCond .lt 32, 3) := by decide +kernel
theorem d_Model_height_4 : decode b_Model_height 4 = .ok (.iload_n 1, 1) := by decide +kernel
theorem d_Model_height_5 : decode b_Model_height 5 = .ok (.bipush 8, 2) := by decide +kernel
theorem d_Model_height_7 : decode b_Model_height 7 = .ok (.if_icmp .ge 26, 3) := by decide +kernel
theorem d_Model_height_10 : decode b_Model_height 10 = .ok (.aload_n 0, 1) := by decide +kernel
theorem d_Model_height_11 : decode b_Model_height 11 = .ok (.getfield 16, 3) := by decide +kernel
theorem d_Model_height_14 : decode b_Model_height 14 = .ok (.iload_n 1, 1) := by decide +kernel
theorem d_Model_height_15 : decode b_Model_height 15 = .ok (.iaload, 1) := by decide +kernel
theorem d_Model_height_16 : decode b_Model_height 16 = .ok (.ifCond .eq 17, 3) := by decide +kernel
theorem d_Model_height_19 : decode b_Model_height 19 = .ok (.iload_n 2, 1) := by decide +kernel
theorem d_Model_height_20 : decode b_Model_height 20 = .ok (.ifCond .lt 13, 3) := by decide +kernel
theorem d_Model_height_23 : decode b_Model_height 23 = .ok (.iload_n 2, 1) := by decide +kernel
theorem d_Model_height_24 : decode b_Model_height 24 = .ok (.aload_n 0, 1) := by decide +kernel
theorem d_Model_height_25 : decode b_Model_height 25 = .ok (.getfield 16, 3) := by decide +kernel
theorem d_Model_height_28 : decode b_Model_height 28 = .ok (.iload_n 1, 1) := by decide +kernel
theorem d_Model_height_29 : decode b_Model_height 29 = .ok (.iaload, 1) := by decide +kernel
theorem d_Model_height_30 : decode b_Model_height 30 = .ok (.if_icmp .lt 7, 3) := by decide +kernel
theorem d_Model_height_33 : decode b_Model_height 33 = .ok (.iconst (-1), 1) := by decide +kernel
theorem d_Model_height_34 : decode b_Model_height 34 = .ok (.goto 15, 3) := by decide +kernel
theorem d_Model_height_37 : decode b_Model_height 37 = .ok (.aload_n 0, 1) := by decide +kernel
theorem d_Model_height_38 : decode b_Model_height 38 = .ok (.getfield 20, 3) := by decide +kernel
theorem d_Model_height_41 : decode b_Model_height 41 = .ok (.iload_n 1, 1) := by decide +kernel
theorem d_Model_height_42 : decode b_Model_height 42 = .ok (.sipush 256, 3) := by decide +kernel
theorem d_Model_height_45 : decode b_Model_height 45 = .ok (.imul, 1) := by decide +kernel
theorem d_Model_height_46 : decode b_Model_height 46 = .ok (.iload_n 2, 1) := by decide +kernel
theorem d_Model_height_47 : decode b_Model_height 47 = .ok (.iadd, 1) := by decide +kernel
theorem d_Model_height_48 : decode b_Model_height 48 = .ok (.iaload, 1) := by decide +kernel
theorem d_Model_height_49 : decode b_Model_height 49 = .ok (.ireturn, 1) := by decide +kernel
theorem d_Model_size_0 : decode b_Model_size 0 = .ok (.iload_n 1, 1) := by decide +kernel
theorem d_Model_size_1 : decode b_Model_size 1 = .ok (.ifCond .lt 18, 3) := by decide +kernel
theorem d_Model_size_4 : decode b_Model_size 4 = .ok (.iload_n 1, 1) := by decide +kernel
theorem d_Model_size_5 : decode b_Model_size 5 = .ok (.bipush 8, 2) := by decide +kernel
theorem d_Model_size_7 : decode b_Model_size 7 = .ok (.if_icmp .ge 12, 3) := by decide +kernel
theorem d_Model_size_10 : decode b_Model_size 10 = .ok (.aload_n 0, 1) := by decide +kernel
theorem d_Model_size_11 : decode b_Model_size 11 = .ok (.getfield 16, 3) := by decide +kernel
theorem d_Model_size_14 : decode b_Model_size 14 = .ok (.iload_n 1, 1) := by decide +kernel
theorem d_Model_size_15 : decode b_Model_size 15 = .ok (.iaload, 1) := by decide +kernel
theorem d_Model_size_16 : decode b_Model_size 16 = .ok (.ifCond .ne 7, 3) := by decide +kernel
theorem d_Model_size_19 : decode b_Model_size 19 = .ok (.iconst (-1), 1) := by decide +kernel
theorem d_Model_size_20 : decode b_Model_size 20 = .ok (.goto 9, 3) := by decide +kernel
theorem d_Model_size_23 : decode b_Model_size 23 = .ok (.aload_n 0, 1) := by decide +kernel
theorem d_Model_size_24 : decode b_Model_size 24 = .ok (.getfield 16, 3) := by decide +kernel
theorem d_Model_size_27 : decode b_Model_size 27 = .ok (.iload_n 1, 1) := by decide +kernel
theorem d_Model_size_28 : decode b_Model_size 28 = .ok (.iaload, 1) := by decide +kernel
theorem d_Model_size_29 : decode b_Model_size 29 = .ok (.ireturn, 1) := by decide +kernel

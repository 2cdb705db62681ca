theorem d_Run_init_0 : decode b_Run_init 0 = .ok (.aload_n 0, 1) := by decide +kernel
theorem d_Run_init_1 : decode b_Run_init 1 = .ok (.invokespecial 3, 3) := by decide +kernel
theorem d_Run_init_4 : decode b_Run_init 4 = .ok (.aload_n 0, 1) := by decide +kernel
theorem d_Run_init_5 : decode b_Run_init 5 = .ok (.aload_n 1, 1) := by decide +kernel
theorem d_Run_init_6 : decode b_Run_init 6 = .ok (.putfield 9, 3) := by decide +kernel
theorem d_Run_init_9 : decode b_Run_init 9 = .ok (.aload_n 0, 1) := by decide +kernel
theorem d_Run_init_10 : decode b_Run_init 10 = .ok (.new 15, 3) := by decide +kernel
theorem d_Run_init_13 : decode b_Run_init 13 = .ok (.dup, 1) := by decide +kernel
theorem d_Run_init_14 : decode b_Run_init 14 = .ok (.sipush 300, 3) := by decide +kernel
theorem d_Run_init_17 : decode b_Run_init 17 = .ok (.invokespecial 17, 3) := by decide +kernel
theorem d_Run_init_20 : decode b_Run_init 20 = .ok (.putfield 20, 3) := by decide +kernel
theorem d_Run_init_23 : decode b_Run_init 23 = .ok (.aload_n 0, 1) := by decide +kernel
theorem d_Run_init_24 : decode b_Run_init 24 = .ok (.new 15, 3) := by decide +kernel
theorem d_Run_init_27 : decode b_Run_init 27 = .ok (.dup, 1) := by decide +kernel
theorem d_Run_init_28 : decode b_Run_init 28 = .ok (.bipush 64, 2) := by decide +kernel
theorem d_Run_init_30 : decode b_Run_init 30 = .ok (.invokespecial 17, 3) := by decide +kernel
theorem d_Run_init_33 : decode b_Run_init 33 = .ok (.putfield 24, 3) := by decide +kernel
theorem d_Run_init_36 : decode b_Run_init 36 = .ok (.new 27, 3) := by decide +kernel
theorem d_Run_init_39 : decode b_Run_init 39 = .ok (.dup, 1) := by decide +kernel
theorem d_Run_init_40 : decode b_Run_init 40 = .ok (.iconst (-1), 1) := by decide +kernel
theorem d_Run_init_41 : decode b_Run_init 41 = .ok (.invokespecial 29, 3) := by decide +kernel
theorem d_Run_init_44 : decode b_Run_init 44 = .ok (.astore_n 2, 1) := by decide +kernel
theorem d_Run_init_45 : decode b_Run_init 45 = .ok (.aload_n 0, 1) := by decide +kernel
theorem d_Run_init_46 : decode b_Run_init 46 = .ok (.new 30, 3) := by decide +kernel
theorem d_Run_init_49 : decode b_Run_init 49 = .ok (.dup, 1) := by decide +kernel
theorem d_Run_init_50 : decode b_Run_init 50 = .ok (.iconst 1, 1) := by decide +kernel
theorem d_Run_init_51 : decode b_Run_init 51 = .ok (.aconst_null, 1) := by decide +kernel
theorem d_Run_init_52 : decode b_Run_init 52 = .ok (.aload_n 2, 1) := by decide +kernel
theorem d_Run_init_53 : decode b_Run_init 53 = .ok (.invokespecial 32, 3) := by decide +kernel
theorem d_Run_init_56 : decode b_Run_init 56 = .ok (.putfield 35, 3) := by decide +kernel
theorem d_Run_init_59 : decode b_Run_init 59 = .ok (.aload_n 0, 1) := by decide +kernel
theorem d_Run_init_60 : decode b_Run_init 60 = .ok (.aload_n 0, 1) := by decide +kernel
theorem d_Run_init_61 : decode b_Run_init 61 = .ok (.getfield 35, 3) := by decide +kernel
theorem d_Run_init_64 : decode b_Run_init 64 = .ok (.putfield 39, 3) := by decide +kernel
theorem d_Run_init_67 : decode b_Run_init 67 = .ok (.aload_n 0, 1) := by decide +kernel
theorem d_Run_init_68 : decode b_Run_init 68 = .ok (.getfield 35, 3) := by decide +kernel
theorem d_Run_init_71 : decode b_Run_init 71 = .ok (.astore_n 3, 1) := by decide +kernel
theorem d_Run_init_72 : decode b_Run_init 72 = .ok (.iconst 2, 1) := by decide +kernel
theorem d_Run_init_73 : decode b_Run_init 73 = .ok (.istore 4, 2) := by decide +kernel
theorem d_Run_init_75 : decode b_Run_init 75 = .ok (.iload 4, 2) := by decide +kernel
theorem d_Run_init_77 : decode b_Run_init 77 = .ok (.bipush 8, 2) := by decide +kernel
theorem d_Run_init_79 : decode b_Run_init 79 = .ok (.if_icmp .gt 31, 3) := by decide +kernel
theorem d_Run_init_82 : decode b_Run_init 82 = .ok (.new 30, 3) := by decide +kernel
theorem d_Run_init_85 : decode b_Run_init 85 = .ok (.dup, 1) := by decide +kernel
theorem d_Run_init_86 : decode b_Run_init 86 = .ok (.iload 4, 2) := by decide +kernel
theorem d_Run_init_88 : decode b_Run_init 88 = .ok (.aload_n 3, 1) := by decide +kernel
theorem d_Run_init_89 : decode b_Run_init 89 = .ok (.aload_n 2, 1) := by decide +kernel
theorem d_Run_init_90 : decode b_Run_init 90 = .ok (.invokespecial 32, 3) := by decide +kernel
theorem d_Run_init_93 : decode b_Run_init 93 = .ok (.astore 5, 2) := by decide +kernel
theorem d_Run_init_95 : decode b_Run_init 95 = .ok (.aload_n 3, 1) := by decide +kernel
theorem d_Run_init_96 : decode b_Run_init 96 = .ok (.aload 5, 2) := by decide +kernel
theorem d_Run_init_98 : decode b_Run_init 98 = .ok (.putfield 42, 3) := by decide +kernel
theorem d_Run_init_101 : decode b_Run_init 101 = .ok (.aload 5, 2) := by decide +kernel
theorem d_Run_init_103 : decode b_Run_init 103 = .ok (.astore_n 3, 1) := by decide +kernel
theorem d_Run_init_104 : decode b_Run_init 104 = .ok (.iinc 4 1, 3) := by decide +kernel
theorem d_Run_init_107 : decode b_Run_init 107 = .ok (.goto (-32), 3) := by decide +kernel
theorem d_Run_init_110 : decode b_Run_init 110 = .ok (.return_, 1) := by decide +kernel
theorem d_Run_isHeld_0 : decode b_Run_isHeld 0 = .ok (.aload_n 0, 1) := by decide +kernel
theorem d_Run_isHeld_1 : decode b_Run_isHeld 1 = .ok (.getfield 45, 3) := by decide +kernel
theorem d_Run_isHeld_4 : decode b_Run_isHeld 4 = .ok (.ifCond .eq 15, 3) := by decide +kernel
theorem d_Run_isHeld_7 : decode b_Run_isHeld 7 = .ok (.aload_n 0, 1) := by decide +kernel
theorem d_Run_isHeld_8 : decode b_Run_isHeld 8 = .ok (.getfield 49, 3) := by decide +kernel
theorem d_Run_isHeld_11 : decode b_Run_isHeld 11 = .ok (.iconst 1, 1) := by decide +kernel
theorem d_Run_isHeld_12 : decode b_Run_isHeld 12 = .ok (.if_icmp .ne 7, 3) := by decide +kernel
theorem d_Run_isHeld_15 : decode b_Run_isHeld 15 = .ok (.iconst 1, 1) := by decide +kernel
theorem d_Run_isHeld_16 : decode b_Run_isHeld 16 = .ok (.goto 4, 3) := by decide +kernel
theorem d_Run_isHeld_19 : decode b_Run_isHeld 19 = .ok (.iconst 0, 1) := by decide +kernel
theorem d_Run_isHeld_20 : decode b_Run_isHeld 20 = .ok (.ireturn, 1) := by decide +kernel
theorem d_Run_start_0 : decode b_Run_start 0 = .ok (.aload_n 0, 1) := by decide +kernel
theorem d_Run_start_1 : decode b_Run_start 1 = .ok (.invokevirtual 53, 3) := by decide +kernel
theorem d_Run_start_4 : decode b_Run_start 4 = .ok (.ifCond .eq 10, 3) := by decide +kernel
theorem d_Run_start_7 : decode b_Run_start 7 = .ok (.aload_n 0, 1) := by decide +kernel
theorem d_Run_start_8 : decode b_Run_start 8 = .ok (.getfield 9, 3) := by decide +kernel
theorem d_Run_start_11 : decode b_Run_start 11 = .ok (.invokevirtual 57, 3) := by decide +kernel
theorem d_Run_start_14 : decode b_Run_start 14 = .ok (.aload_n 0, 1) := by decide +kernel
theorem d_Run_start_15 : decode b_Run_start 15 = .ok (.getfield 9, 3) := by decide +kernel
theorem d_Run_start_18 : decode b_Run_start 18 = .ok (.invokevirtual 62, 3) := by decide +kernel
theorem d_Run_start_21 : decode b_Run_start 21 = .ok (.aload_n 0, 1) := by decide +kernel
theorem d_Run_start_22 : decode b_Run_start 22 = .ok (.getfield 20, 3) := by decide +kernel
theorem d_Run_start_25 : decode b_Run_start 25 = .ok (.aload_n 3, 1) := by decide +kernel
theorem d_Run_start_26 : decode b_Run_start 26 = .ok (.invokevirtual 65, 3) := by decide +kernel
theorem d_Run_start_29 : decode b_Run_start 29 = .ok (.aload_n 0, 1) := by decide +kernel
theorem d_Run_start_30 : decode b_Run_start 30 = .ok (.getfield 24, 3) := by decide +kernel
theorem d_Run_start_33 : decode b_Run_start 33 = .ok (.iconst 0, 1) := by decide +kernel
theorem d_Run_start_34 : decode b_Run_start 34 = .ok (.invokevirtual 69, 3) := by decide +kernel
theorem d_Run_start_37 : decode b_Run_start 37 = .ok (.aload_n 0, 1) := by decide +kernel
theorem d_Run_start_38 : decode b_Run_start 38 = .ok (.getfield 35, 3) := by decide +kernel
theorem d_Run_start_41 : decode b_Run_start 41 = .ok (.aload_n 1, 1) := by decide +kernel
theorem d_Run_start_42 : decode b_Run_start 42 = .ok (.iload_n 2, 1) := by decide +kernel
theorem d_Run_start_43 : decode b_Run_start 43 = .ok (.invokevirtual 72, 3) := by decide +kernel
theorem d_Run_start_46 : decode b_Run_start 46 = .ok (.aload_n 0, 1) := by decide +kernel
theorem d_Run_start_47 : decode b_Run_start 47 = .ok (.aload_n 0, 1) := by decide +kernel
theorem d_Run_start_48 : decode b_Run_start 48 = .ok (.getfield 35, 3) := by decide +kernel
theorem d_Run_start_51 : decode b_Run_start 51 = .ok (.putfield 39, 3) := by decide +kernel
theorem d_Run_start_54 : decode b_Run_start 54 = .ok (.aload_n 0, 1) := by decide +kernel
theorem d_Run_start_55 : decode b_Run_start 55 = .ok (.iconst 1, 1) := by decide +kernel
theorem d_Run_start_56 : decode b_Run_start 56 = .ok (.putfield 45, 3) := by decide +kernel
theorem d_Run_start_59 : decode b_Run_start 59 = .ok (.aload_n 0, 1) := by decide +kernel
theorem d_Run_start_60 : decode b_Run_start 60 = .ok (.iconst 1, 1) := by decide +kernel
theorem d_Run_start_61 : decode b_Run_start 61 = .ok (.putfield 49, 3) := by decide +kernel
theorem d_Run_start_64 : decode b_Run_start 64 = .ok (.aload_n 0, 1) := by decide +kernel
theorem d_Run_start_65 : decode b_Run_start 65 = .ok (.iconst 0, 1) := by decide +kernel
theorem d_Run_start_66 : decode b_Run_start 66 = .ok (.putfield 76, 3) := by decide +kernel
theorem d_Run_start_69 : decode b_Run_start 69 = .ok (.aload_n 0, 1) := by decide +kernel
theorem d_Run_start_70 : decode b_Run_start 70 = .ok (.iconst 0, 1) := by decide +kernel
theorem d_Run_start_71 : decode b_Run_start 71 = .ok (.putfield 79, 3) := by decide +kernel
theorem d_Run_start_74 : decode b_Run_start 74 = .ok (.aload_n 0, 1) := by decide +kernel
theorem d_Run_start_75 : decode b_Run_start 75 = .ok (.iconst 0, 1) := by decide +kernel
theorem d_Run_start_76 : decode b_Run_start 76 = .ok (.putfield 82, 3) := by decide +kernel
theorem d_Run_start_79 : decode b_Run_start 79 = .ok (.return_, 1) := by decide +kernel
theorem d_Run_advance_0 : decode b_Run_advance 0 = .ok (.iconst 0, 1) := by decide +kernel
theorem d_Run_advance_1 : decode b_Run_advance 1 = .ok (.istore_n 2, 1) := by decide +kernel
theorem d_Run_advance_2 : decode b_Run_advance 2 = .ok (.iload_n 2, 1) := by decide +kernel
theorem d_Run_advance_3 : decode b_Run_advance 3 = .ok (.iload_n 1, 1) := by decide +kernel
theorem d_Run_advance_4 : decode b_Run_advance 4 = .ok (.if_icmp .ge 21, 3) := by decide +kernel
theorem d_Run_advance_7 : decode b_Run_advance 7 = .ok (.aload_n 0, 1) := by decide +kernel
theorem d_Run_advance_8 : decode b_Run_advance 8 = .ok (.getfield 49, 3) := by decide +kernel
theorem d_Run_advance_11 : decode b_Run_advance 11 = .ok (.iconst 1, 1) := by decide +kernel
theorem d_Run_advance_12 : decode b_Run_advance 12 = .ok (.if_icmp .ne 13, 3) := by decide +kernel
theorem d_Run_advance_15 : decode b_Run_advance 15 = .ok (.aload_n 0, 1) := by decide +kernel
theorem d_Run_advance_16 : decode b_Run_advance 16 = .ok (.invokevirtual 85, 3) := by decide +kernel
theorem d_Run_advance_19 : decode b_Run_advance 19 = .ok (.iinc 2 1, 3) := by decide +kernel
theorem d_Run_advance_22 : decode b_Run_advance 22 = .ok (.goto (-20), 3) := by decide +kernel
theorem d_Run_advance_25 : decode b_Run_advance 25 = .ok (.aload_n 0, 1) := by decide +kernel
theorem d_Run_advance_26 : decode b_Run_advance 26 = .ok (.getfield 49, 3) := by decide +kernel
theorem d_Run_advance_29 : decode b_Run_advance 29 = .ok (.iconst 2, 1) := by decide +kernel
theorem d_Run_advance_30 : decode b_Run_advance 30 = .ok (.if_icmp .ne 10, 3) := by decide +kernel
theorem d_Run_advance_33 : decode b_Run_advance 33 = .ok (.aload_n 0, 1) := by decide +kernel
theorem d_Run_advance_34 : decode b_Run_advance 34 = .ok (.getfield 9, 3) := by decide +kernel
theorem d_Run_advance_37 : decode b_Run_advance 37 = .ok (.invokevirtual 57, 3) := by decide +kernel
theorem d_Run_advance_40 : decode b_Run_advance 40 = .ok (.aload_n 0, 1) := by decide +kernel
theorem d_Run_advance_41 : decode b_Run_advance 41 = .ok (.getfield 49, 3) := by decide +kernel
theorem d_Run_advance_44 : decode b_Run_advance 44 = .ok (.ireturn, 1) := by decide +kernel
theorem d_Run_tell_0 : decode b_Run_tell 0 = .ok (.aload_n 0, 1) := by decide +kernel
theorem d_Run_tell_1 : decode b_Run_tell 1 = .ok (.getfield 45, 3) := by decide +kernel
theorem d_Run_tell_4 : decode b_Run_tell 4 = .ok (.ifCond .ne 5, 3) := by decide +kernel
theorem d_Run_tell_7 : decode b_Run_tell 7 = .ok (.iconst (-1), 1) := by decide +kernel
theorem d_Run_tell_8 : decode b_Run_tell 8 = .ok (.ireturn, 1) := by decide +kernel
theorem d_Run_tell_9 : decode b_Run_tell 9 = .ok (.iload_n 1, 1) := by decide +kernel
theorem d_Run_tell_10 : decode b_Run_tell 10 = .ok (.tableswitch 137 0 7 #[46, 51, 56, 61, 66, 86, 109, 129], 46) := by decide +kernel
theorem d_Run_tell_56 : decode b_Run_tell 56 = .ok (.aload_n 0, 1) := by decide +kernel
theorem d_Run_tell_57 : decode b_Run_tell 57 = .ok (.getfield 49, 3) := by decide +kernel
theorem d_Run_tell_60 : decode b_Run_tell 60 = .ok (.ireturn, 1) := by decide +kernel
theorem d_Run_tell_61 : decode b_Run_tell 61 = .ok (.aload_n 0, 1) := by decide +kernel
theorem d_Run_tell_62 : decode b_Run_tell 62 = .ok (.getfield 76, 3) := by decide +kernel
theorem d_Run_tell_65 : decode b_Run_tell 65 = .ok (.ireturn, 1) := by decide +kernel
theorem d_Run_tell_66 : decode b_Run_tell 66 = .ok (.aload_n 0, 1) := by decide +kernel
theorem d_Run_tell_67 : decode b_Run_tell 67 = .ok (.getfield 79, 3) := by decide +kernel
theorem d_Run_tell_70 : decode b_Run_tell 70 = .ok (.ireturn, 1) := by decide +kernel
theorem d_Run_tell_71 : decode b_Run_tell 71 = .ok (.aload_n 0, 1) := by decide +kernel
theorem d_Run_tell_72 : decode b_Run_tell 72 = .ok (.getfield 82, 3) := by decide +kernel
theorem d_Run_tell_75 : decode b_Run_tell 75 = .ok (.ireturn, 1) := by decide +kernel
theorem d_Run_tell_76 : decode b_Run_tell 76 = .ok (.aload_n 0, 1) := by decide +kernel
theorem d_Run_tell_77 : decode b_Run_tell 77 = .ok (.getfield 49, 3) := by decide +kernel
theorem d_Run_tell_80 : decode b_Run_tell 80 = .ok (.iconst 1, 1) := by decide +kernel
theorem d_Run_tell_81 : decode b_Run_tell 81 = .ok (.if_icmp .ne 13, 3) := by decide +kernel
theorem d_Run_tell_84 : decode b_Run_tell 84 = .ok (.aload_n 0, 1) := by decide +kernel
theorem d_Run_tell_85 : decode b_Run_tell 85 = .ok (.getfield 39, 3) := by decide +kernel
theorem d_Run_tell_88 : decode b_Run_tell 88 = .ok (.getfield 88, 3) := by decide +kernel
theorem d_Run_tell_91 : decode b_Run_tell 91 = .ok (.goto 4, 3) := by decide +kernel
theorem d_Run_tell_94 : decode b_Run_tell 94 = .ok (.iconst 0, 1) := by decide +kernel
theorem d_Run_tell_95 : decode b_Run_tell 95 = .ok (.ireturn, 1) := by decide +kernel
theorem d_Run_tell_96 : decode b_Run_tell 96 = .ok (.aload_n 0, 1) := by decide +kernel
theorem d_Run_tell_97 : decode b_Run_tell 97 = .ok (.getfield 49, 3) := by decide +kernel
theorem d_Run_tell_100 : decode b_Run_tell 100 = .ok (.iconst 1, 1) := by decide +kernel
theorem d_Run_tell_101 : decode b_Run_tell 101 = .ok (.if_icmp .ne 16, 3) := by decide +kernel
theorem d_Run_tell_104 : decode b_Run_tell 104 = .ok (.aload_n 0, 1) := by decide +kernel
theorem d_Run_tell_105 : decode b_Run_tell 105 = .ok (.getfield 39, 3) := by decide +kernel
theorem d_Run_tell_108 : decode b_Run_tell 108 = .ok (.getfield 91, 3) := by decide +kernel
theorem d_Run_tell_111 : decode b_Run_tell 111 = .ok (.getfield 95, 3) := by decide +kernel
theorem d_Run_tell_114 : decode b_Run_tell 114 = .ok (.goto 4, 3) := by decide +kernel
theorem d_Run_tell_117 : decode b_Run_tell 117 = .ok (.iconst (-1), 1) := by decide +kernel
theorem d_Run_tell_118 : decode b_Run_tell 118 = .ok (.ireturn, 1) := by decide +kernel
theorem d_Run_tell_119 : decode b_Run_tell 119 = .ok (.aload_n 0, 1) := by decide +kernel
theorem d_Run_tell_120 : decode b_Run_tell 120 = .ok (.getfield 49, 3) := by decide +kernel
theorem d_Run_tell_123 : decode b_Run_tell 123 = .ok (.iconst 1, 1) := by decide +kernel
theorem d_Run_tell_124 : decode b_Run_tell 124 = .ok (.if_icmp .ne 13, 3) := by decide +kernel
theorem d_Run_tell_127 : decode b_Run_tell 127 = .ok (.aload_n 0, 1) := by decide +kernel
theorem d_Run_tell_128 : decode b_Run_tell 128 = .ok (.getfield 39, 3) := by decide +kernel
theorem d_Run_tell_131 : decode b_Run_tell 131 = .ok (.getfield 98, 3) := by decide +kernel
theorem d_Run_tell_134 : decode b_Run_tell 134 = .ok (.goto 4, 3) := by decide +kernel
theorem d_Run_tell_137 : decode b_Run_tell 137 = .ok (.iconst (-1), 1) := by decide +kernel
theorem d_Run_tell_138 : decode b_Run_tell 138 = .ok (.ireturn, 1) := by decide +kernel
theorem d_Run_tell_139 : decode b_Run_tell 139 = .ok (.aload_n 0, 1) := by decide +kernel
theorem d_Run_tell_140 : decode b_Run_tell 140 = .ok (.getfield 24, 3) := by decide +kernel
theorem d_Run_tell_143 : decode b_Run_tell 143 = .ok (.getfield 101, 3) := by decide +kernel
theorem d_Run_tell_146 : decode b_Run_tell 146 = .ok (.ireturn, 1) := by decide +kernel
theorem d_Run_tell_147 : decode b_Run_tell 147 = .ok (.iconst (-1), 1) := by decide +kernel
theorem d_Run_tell_148 : decode b_Run_tell 148 = .ok (.ireturn, 1) := by decide +kernel
theorem d_Run_step_0 : decode b_Run_step 0 = .ok (.aload_n 0, 1) := by decide +kernel
theorem d_Run_step_1 : decode b_Run_step 1 = .ok (.getfield 82, 3) := by decide +kernel
theorem d_Run_step_4 : decode b_Run_step 4 = .ok (.sipush 2000, 3) := by decide +kernel
theorem d_Run_step_7 : decode b_Run_step 7 = .ok (.if_icmp .lt 10, 3) := by decide +kernel
theorem d_Run_step_10 : decode b_Run_step 10 = .ok (.aload_n 0, 1) := by decide +kernel
theorem d_Run_step_11 : decode b_Run_step 11 = .ok (.bipush 6, 2) := by decide +kernel
theorem d_Run_step_13 : decode b_Run_step 13 = .ok (.invokevirtual 104, 3) := by decide +kernel
theorem d_Run_step_16 : decode b_Run_step 16 = .ok (.return_, 1) := by decide +kernel
theorem d_Run_step_17 : decode b_Run_step 17 = .ok (.aload_n 0, 1) := by decide +kernel
theorem d_Run_step_18 : decode b_Run_step 18 = .ok (.dup, 1) := by decide +kernel
theorem d_Run_step_19 : decode b_Run_step 19 = .ok (.getfield 82, 3) := by decide +kernel
theorem d_Run_step_22 : decode b_Run_step 22 = .ok (.iconst 1, 1) := by decide +kernel
theorem d_Run_step_23 : decode b_Run_step 23 = .ok (.iadd, 1) := by decide +kernel
theorem d_Run_step_24 : decode b_Run_step 24 = .ok (.putfield 82, 3) := by decide +kernel
theorem d_Run_step_27 : decode b_Run_step 27 = .ok (.aload_n 0, 1) := by decide +kernel
theorem d_Run_step_28 : decode b_Run_step 28 = .ok (.getfield 39, 3) := by decide +kernel
theorem d_Run_step_31 : decode b_Run_step 31 = .ok (.invokevirtual 107, 3) := by decide +kernel
theorem d_Run_step_34 : decode b_Run_step 34 = .ok (.istore_n 1, 1) := by decide +kernel
theorem d_Run_step_35 : decode b_Run_step 35 = .ok (.iload_n 1, 1) := by decide +kernel
theorem d_Run_step_36 : decode b_Run_step 36 = .ok (.invokestatic 111, 3) := by decide +kernel
theorem d_Run_step_39 : decode b_Run_step 39 = .ok (.ifCond .eq 13, 3) := by decide +kernel
theorem d_Run_step_42 : decode b_Run_step 42 = .ok (.aload_n 0, 1) := by decide +kernel
theorem d_Run_step_43 : decode b_Run_step 43 = .ok (.getfield 39, 3) := by decide +kernel
theorem d_Run_step_46 : decode b_Run_step 46 = .ok (.invokevirtual 107, 3) := by decide +kernel
theorem d_Run_step_49 : decode b_Run_step 49 = .ok (.goto 4, 3) := by decide +kernel
theorem d_Run_step_52 : decode b_Run_step 52 = .ok (.iconst 0, 1) := by decide +kernel
theorem d_Run_step_53 : decode b_Run_step 53 = .ok (.istore_n 2, 1) := by decide +kernel
theorem d_Run_step_54 : decode b_Run_step 54 = .ok (.iload_n 1, 1) := by decide +kernel
theorem d_Run_step_55 : decode b_Run_step 55 = .ok (.iconst 4, 1) := by decide +kernel
theorem d_Run_step_56 : decode b_Run_step 56 = .ok (.if_icmp .gt 12, 3) := by decide +kernel
theorem d_Run_step_59 : decode b_Run_step 59 = .ok (.aload_n 0, 1) := by decide +kernel
theorem d_Run_step_60 : decode b_Run_step 60 = .ok (.iload_n 1, 1) := by decide +kernel
theorem d_Run_step_61 : decode b_Run_step 61 = .ok (.iload_n 2, 1) := by decide +kernel
theorem d_Run_step_62 : decode b_Run_step 62 = .ok (.invokevirtual 115, 3) := by decide +kernel
theorem d_Run_step_65 : decode b_Run_step 65 = .ok (.goto 52, 3) := by decide +kernel
theorem d_Run_step_68 : decode b_Run_step 68 = .ok (.iload_n 1, 1) := by decide +kernel
theorem d_Run_step_69 : decode b_Run_step 69 = .ok (.bipush 12, 2) := by decide +kernel
theorem d_Run_step_71 : decode b_Run_step 71 = .ok (.if_icmp .gt 11, 3) := by decide +kernel
theorem d_Run_step_74 : decode b_Run_step 74 = .ok (.aload_n 0, 1) := by decide +kernel
theorem d_Run_step_75 : decode b_Run_step 75 = .ok (.iload_n 1, 1) := by decide +kernel
theorem d_Run_step_76 : decode b_Run_step 76 = .ok (.invokevirtual 119, 3) := by decide +kernel
theorem d_Run_step_79 : decode b_Run_step 79 = .ok (.goto 38, 3) := by decide +kernel
theorem d_Run_step_82 : decode b_Run_step 82 = .ok (.iload_n 1, 1) := by decide +kernel
theorem d_Run_step_83 : decode b_Run_step 83 = .ok (.bipush 15, 2) := by decide +kernel
theorem d_Run_step_85 : decode b_Run_step 85 = .ok (.if_icmp .gt 11, 3) := by decide +kernel
theorem d_Run_step_88 : decode b_Run_step 88 = .ok (.aload_n 0, 1) := by decide +kernel
theorem d_Run_step_89 : decode b_Run_step 89 = .ok (.iload_n 1, 1) := by decide +kernel
theorem d_Run_step_90 : decode b_Run_step 90 = .ok (.invokevirtual 122, 3) := by decide +kernel
theorem d_Run_step_93 : decode b_Run_step 93 = .ok (.goto 24, 3) := by decide +kernel
theorem d_Run_step_96 : decode b_Run_step 96 = .ok (.iload_n 1, 1) := by decide +kernel
theorem d_Run_step_97 : decode b_Run_step 97 = .ok (.bipush 18, 2) := by decide +kernel
theorem d_Run_step_99 : decode b_Run_step 99 = .ok (.if_icmp .gt 12, 3) := by decide +kernel
theorem d_Run_step_102 : decode b_Run_step 102 = .ok (.aload_n 0, 1) := by decide +kernel
theorem d_Run_step_103 : decode b_Run_step 103 = .ok (.iload_n 1, 1) := by decide +kernel
theorem d_Run_step_104 : decode b_Run_step 104 = .ok (.iload_n 2, 1) := by decide +kernel
theorem d_Run_step_105 : decode b_Run_step 105 = .ok (.invokevirtual 125, 3) := by decide +kernel
theorem d_Run_step_108 : decode b_Run_step 108 = .ok (.goto 9, 3) := by decide +kernel
theorem d_Run_step_111 : decode b_Run_step 111 = .ok (.aload_n 0, 1) := by decide +kernel
theorem d_Run_step_112 : decode b_Run_step 112 = .ok (.iload_n 1, 1) := by decide +kernel
theorem d_Run_step_113 : decode b_Run_step 113 = .ok (.iload_n 2, 1) := by decide +kernel
theorem d_Run_step_114 : decode b_Run_step 114 = .ok (.invokevirtual 128, 3) := by decide +kernel
theorem d_Run_step_117 : decode b_Run_step 117 = .ok (.return_, 1) := by decide +kernel
theorem d_Run_fail_0 : decode b_Run_fail 0 = .ok (.aload_n 0, 1) := by decide +kernel
theorem d_Run_fail_1 : decode b_Run_fail 1 = .ok (.iconst 2, 1) := by decide +kernel
theorem d_Run_fail_2 : decode b_Run_fail 2 = .ok (.putfield 49, 3) := by decide +kernel
theorem d_Run_fail_5 : decode b_Run_fail 5 = .ok (.aload_n 0, 1) := by decide +kernel
theorem d_Run_fail_6 : decode b_Run_fail 6 = .ok (.iload_n 1, 1) := by decide +kernel
theorem d_Run_fail_7 : decode b_Run_fail 7 = .ok (.putfield 79, 3) := by decide +kernel
theorem d_Run_fail_10 : decode b_Run_fail 10 = .ok (.return_, 1) := by decide +kernel
theorem d_Run_move_0 : decode b_Run_move 0 = .ok (.aload_n 0, 1) := by decide +kernel
theorem d_Run_move_1 : decode b_Run_move 1 = .ok (.getfield 39, 3) := by decide +kernel
theorem d_Run_move_4 : decode b_Run_move 4 = .ok (.getfield 131, 3) := by decide +kernel
theorem d_Run_move_7 : decode b_Run_move 7 = .ok (.astore_n 3, 1) := by decide +kernel
theorem d_Run_move_8 : decode b_Run_move 8 = .ok (.iload_n 1, 1) := by decide +kernel
theorem d_Run_move_9 : decode b_Run_move 9 = .ok (.tableswitch 102 0 3 #[31, 40, 62, 83], 31) := by decide +kernel
theorem d_Run_move_40 : decode b_Run_move 40 = .ok (.aload_n 3, 1) := by decide +kernel
theorem d_Run_move_41 : decode b_Run_move 41 = .ok (.iload_n 2, 1) := by decide +kernel
theorem d_Run_move_42 : decode b_Run_move 42 = .ok (.i2b, 1) := by decide +kernel
theorem d_Run_move_43 : decode b_Run_move 43 = .ok (.invokevirtual 134, 3) := by decide +kernel
theorem d_Run_move_46 : decode b_Run_move 46 = .ok (.goto 80, 3) := by decide +kernel
theorem d_Run_move_49 : decode b_Run_move 49 = .ok (.aload_n 3, 1) := by decide +kernel
theorem d_Run_move_50 : decode b_Run_move 50 = .ok (.aload_n 0, 1) := by decide +kernel
theorem d_Run_move_51 : decode b_Run_move 51 = .ok (.getfield 39, 3) := by decide +kernel
theorem d_Run_move_54 : decode b_Run_move 54 = .ok (.getfield 91, 3) := by decide +kernel
theorem d_Run_move_57 : decode b_Run_move 57 = .ok (.getfield 137, 3) := by decide +kernel
theorem d_Run_move_60 : decode b_Run_move 60 = .ok (.iload_n 2, 1) := by decide +kernel
theorem d_Run_move_61 : decode b_Run_move 61 = .ok (.iconst 0, 1) := by decide +kernel
theorem d_Run_move_62 : decode b_Run_move 62 = .ok (.invokevirtual 140, 3) := by decide +kernel
theorem d_Run_move_65 : decode b_Run_move 65 = .ok (.invokevirtual 134, 3) := by decide +kernel
theorem d_Run_move_68 : decode b_Run_move 68 = .ok (.goto 58, 3) := by decide +kernel
theorem d_Run_move_71 : decode b_Run_move 71 = .ok (.aload_n 0, 1) := by decide +kernel
theorem d_Run_move_72 : decode b_Run_move 72 = .ok (.getfield 39, 3) := by decide +kernel
theorem d_Run_move_75 : decode b_Run_move 75 = .ok (.getfield 91, 3) := by decide +kernel
theorem d_Run_move_78 : decode b_Run_move 78 = .ok (.getfield 137, 3) := by decide +kernel
theorem d_Run_move_81 : decode b_Run_move 81 = .ok (.iload_n 2, 1) := by decide +kernel
theorem d_Run_move_82 : decode b_Run_move 82 = .ok (.aload_n 3, 1) := by decide +kernel
theorem d_Run_move_83 : decode b_Run_move 83 = .ok (.invokevirtual 144, 3) := by decide +kernel
theorem d_Run_move_86 : decode b_Run_move 86 = .ok (.invokevirtual 147, 3) := by decide +kernel
theorem d_Run_move_89 : decode b_Run_move 89 = .ok (.goto 37, 3) := by decide +kernel
theorem d_Run_move_92 : decode b_Run_move 92 = .ok (.aload_n 3, 1) := by decide +kernel
theorem d_Run_move_93 : decode b_Run_move 93 = .ok (.aload_n 0, 1) := by decide +kernel
theorem d_Run_move_94 : decode b_Run_move 94 = .ok (.getfield 39, 3) := by decide +kernel
theorem d_Run_move_97 : decode b_Run_move 97 = .ok (.getfield 150, 3) := by decide +kernel
theorem d_Run_move_100 : decode b_Run_move 100 = .ok (.iload_n 2, 1) := by decide +kernel
theorem d_Run_move_101 : decode b_Run_move 101 = .ok (.iconst 0, 1) := by decide +kernel
theorem d_Run_move_102 : decode b_Run_move 102 = .ok (.invokevirtual 140, 3) := by decide +kernel
theorem d_Run_move_105 : decode b_Run_move 105 = .ok (.invokevirtual 134, 3) := by decide +kernel
theorem d_Run_move_108 : decode b_Run_move 108 = .ok (.goto 18, 3) := by decide +kernel
theorem d_Run_move_111 : decode b_Run_move 111 = .ok (.aload_n 0, 1) := by decide +kernel
theorem d_Run_move_112 : decode b_Run_move 112 = .ok (.getfield 39, 3) := by decide +kernel
theorem d_Run_move_115 : decode b_Run_move 115 = .ok (.getfield 150, 3) := by decide +kernel
theorem d_Run_move_118 : decode b_Run_move 118 = .ok (.iload_n 2, 1) := by decide +kernel
theorem d_Run_move_119 : decode b_Run_move 119 = .ok (.aload_n 3, 1) := by decide +kernel
theorem d_Run_move_120 : decode b_Run_move 120 = .ok (.invokevirtual 144, 3) := by decide +kernel
theorem d_Run_move_123 : decode b_Run_move 123 = .ok (.invokevirtual 147, 3) := by decide +kernel
theorem d_Run_move_126 : decode b_Run_move 126 = .ok (.return_, 1) := by decide +kernel
theorem d_Run_combine_0 : decode b_Run_combine 0 = .ok (.aload_n 0, 1) := by decide +kernel
theorem d_Run_combine_1 : decode b_Run_combine 1 = .ok (.getfield 39, 3) := by decide +kernel
theorem d_Run_combine_4 : decode b_Run_combine 4 = .ok (.getfield 131, 3) := by decide +kernel
theorem d_Run_combine_7 : decode b_Run_combine 7 = .ok (.invokevirtual 144, 3) := by decide +kernel
theorem d_Run_combine_10 : decode b_Run_combine 10 = .ok (.istore_n 2, 1) := by decide +kernel
theorem d_Run_combine_11 : decode b_Run_combine 11 = .ok (.aload_n 0, 1) := by decide +kernel
theorem d_Run_combine_12 : decode b_Run_combine 12 = .ok (.getfield 39, 3) := by decide +kernel
theorem d_Run_combine_15 : decode b_Run_combine 15 = .ok (.getfield 131, 3) := by decide +kernel
theorem d_Run_combine_18 : decode b_Run_combine 18 = .ok (.invokevirtual 144, 3) := by decide +kernel
theorem d_Run_combine_21 : decode b_Run_combine 21 = .ok (.istore_n 3, 1) := by decide +kernel
theorem d_Run_combine_22 : decode b_Run_combine 22 = .ok (.aload_n 0, 1) := by decide +kernel
theorem d_Run_combine_23 : decode b_Run_combine 23 = .ok (.getfield 39, 3) := by decide +kernel
theorem d_Run_combine_26 : decode b_Run_combine 26 = .ok (.getfield 131, 3) := by decide +kernel
theorem d_Run_combine_29 : decode b_Run_combine 29 = .ok (.iload_n 1, 1) := by decide +kernel
theorem d_Run_combine_30 : decode b_Run_combine 30 = .ok (.iload_n 3, 1) := by decide +kernel
theorem d_Run_combine_31 : decode b_Run_combine 31 = .ok (.iload_n 2, 1) := by decide +kernel
theorem d_Run_combine_32 : decode b_Run_combine 32 = .ok (.invokestatic 153, 3) := by decide +kernel
theorem d_Run_combine_35 : decode b_Run_combine 35 = .ok (.invokevirtual 134, 3) := by decide +kernel
theorem d_Run_combine_38 : decode b_Run_combine 38 = .ok (.return_, 1) := by decide +kernel
theorem d_Run_combined_0 : decode b_Run_combined 0 = .ok (.iload_n 0, 1) := by decide +kernel
theorem d_Run_combined_1 : decode b_Run_combined 1 = .ok (.tableswitch 71 5 11 #[43, 47, 51, 55, 59, 63, 67], 43) := by decide +kernel
theorem d_Run_combined_44 : decode b_Run_combined 44 = .ok (.iload_n 1, 1) := by decide +kernel
theorem d_Run_combined_45 : decode b_Run_combined 45 = .ok (.iload_n 2, 1) := by decide +kernel
theorem d_Run_combined_46 : decode b_Run_combined 46 = .ok (.iadd, 1) := by decide +kernel
theorem d_Run_combined_47 : decode b_Run_combined 47 = .ok (.ireturn, 1) := by decide +kernel
theorem d_Run_combined_48 : decode b_Run_combined 48 = .ok (.iload_n 1, 1) := by decide +kernel
theorem d_Run_combined_49 : decode b_Run_combined 49 = .ok (.iload_n 2, 1) := by decide +kernel
theorem d_Run_combined_50 : decode b_Run_combined 50 = .ok (.isub, 1) := by decide +kernel
theorem d_Run_combined_51 : decode b_Run_combined 51 = .ok (.ireturn, 1) := by decide +kernel
theorem d_Run_combined_52 : decode b_Run_combined 52 = .ok (.iload_n 1, 1) := by decide +kernel
theorem d_Run_combined_53 : decode b_Run_combined 53 = .ok (.iload_n 2, 1) := by decide +kernel
theorem d_Run_combined_54 : decode b_Run_combined 54 = .ok (.imul, 1) := by decide +kernel
theorem d_Run_combined_55 : decode b_Run_combined 55 = .ok (.ireturn, 1) := by decide +kernel
theorem d_Run_combined_56 : decode b_Run_combined 56 = .ok (.iload_n 1, 1) := by decide +kernel
theorem d_Run_combined_57 : decode b_Run_combined 57 = .ok (.iload_n 2, 1) := by decide +kernel
theorem d_Run_combined_58 : decode b_Run_combined 58 = .ok (.iand, 1) := by decide +kernel
theorem d_Run_combined_59 : decode b_Run_combined 59 = .ok (.ireturn, 1) := by decide +kernel
theorem d_Run_combined_60 : decode b_Run_combined 60 = .ok (.iload_n 1, 1) := by decide +kernel
theorem d_Run_combined_61 : decode b_Run_combined 61 = .ok (.iload_n 2, 1) := by decide +kernel
theorem d_Run_combined_62 : decode b_Run_combined 62 = .ok (.ior, 1) := by decide +kernel
theorem d_Run_combined_63 : decode b_Run_combined 63 = .ok (.ireturn, 1) := by decide +kernel
theorem d_Run_combined_64 : decode b_Run_combined 64 = .ok (.iload_n 1, 1) := by decide +kernel
theorem d_Run_combined_65 : decode b_Run_combined 65 = .ok (.iload_n 2, 1) := by decide +kernel
theorem d_Run_combined_66 : decode b_Run_combined 66 = .ok (.ixor, 1) := by decide +kernel
theorem d_Run_combined_67 : decode b_Run_combined 67 = .ok (.ireturn, 1) := by decide +kernel
theorem d_Run_combined_68 : decode b_Run_combined 68 = .ok (.iload_n 1, 1) := by decide +kernel
theorem d_Run_combined_69 : decode b_Run_combined 69 = .ok (.iload_n 2, 1) := by decide +kernel
theorem d_Run_combined_70 : decode b_Run_combined 70 = .ok (.ishl, 1) := by decide +kernel
theorem d_Run_combined_71 : decode b_Run_combined 71 = .ok (.ireturn, 1) := by decide +kernel
theorem d_Run_combined_72 : decode b_Run_combined 72 = .ok (.iload_n 1, 1) := by decide +kernel
theorem d_Run_combined_73 : decode b_Run_combined 73 = .ok (.iload_n 2, 1) := by decide +kernel
theorem d_Run_combined_74 : decode b_Run_combined 74 = .ok (.ishr, 1) := by decide +kernel
theorem d_Run_combined_75 : decode b_Run_combined 75 = .ok (.ireturn, 1) := by decide +kernel
theorem d_Run_rearrange_0 : decode b_Run_rearrange 0 = .ok (.aload_n 0, 1) := by decide +kernel
theorem d_Run_rearrange_1 : decode b_Run_rearrange 1 = .ok (.getfield 39, 3) := by decide +kernel
theorem d_Run_rearrange_4 : decode b_Run_rearrange 4 = .ok (.getfield 131, 3) := by decide +kernel
theorem d_Run_rearrange_7 : decode b_Run_rearrange 7 = .ok (.astore_n 2, 1) := by decide +kernel
theorem d_Run_rearrange_8 : decode b_Run_rearrange 8 = .ok (.aload_n 2, 1) := by decide +kernel
theorem d_Run_rearrange_9 : decode b_Run_rearrange 9 = .ok (.invokevirtual 144, 3) := by decide +kernel
theorem d_Run_rearrange_12 : decode b_Run_rearrange 12 = .ok (.istore_n 3, 1) := by decide +kernel
theorem d_Run_rearrange_13 : decode b_Run_rearrange 13 = .ok (.iload_n 1, 1) := by decide +kernel
theorem d_Run_rearrange_14 : decode b_Run_rearrange 14 = .ok (.bipush 14, 2) := by decide +kernel
theorem d_Run_rearrange_16 : decode b_Run_rearrange 16 = .ok (.if_icmp .eq 30, 3) := by decide +kernel
theorem d_Run_rearrange_19 : decode b_Run_rearrange 19 = .ok (.iload_n 1, 1) := by decide +kernel
theorem d_Run_rearrange_20 : decode b_Run_rearrange 20 = .ok (.bipush 13, 2) := by decide +kernel
theorem d_Run_rearrange_22 : decode b_Run_rearrange 22 = .ok (.if_icmp .ne 7, 3) := by decide +kernel
theorem d_Run_rearrange_25 : decode b_Run_rearrange 25 = .ok (.iload_n 3, 1) := by decide +kernel
theorem d_Run_rearrange_26 : decode b_Run_rearrange 26 = .ok (.goto 7, 3) := by decide +kernel
theorem d_Run_rearrange_29 : decode b_Run_rearrange 29 = .ok (.aload_n 2, 1) := by decide +kernel
theorem d_Run_rearrange_30 : decode b_Run_rearrange 30 = .ok (.invokevirtual 144, 3) := by decide +kernel
theorem d_Run_rearrange_33 : decode b_Run_rearrange 33 = .ok (.istore 4, 2) := by decide +kernel
theorem d_Run_rearrange_35 : decode b_Run_rearrange 35 = .ok (.aload_n 2, 1) := by decide +kernel
theorem d_Run_rearrange_36 : decode b_Run_rearrange 36 = .ok (.iload_n 3, 1) := by decide +kernel
theorem d_Run_rearrange_37 : decode b_Run_rearrange 37 = .ok (.invokevirtual 134, 3) := by decide +kernel
theorem d_Run_rearrange_40 : decode b_Run_rearrange 40 = .ok (.aload_n 2, 1) := by decide +kernel
theorem d_Run_rearrange_41 : decode b_Run_rearrange 41 = .ok (.iload 4, 2) := by decide +kernel
theorem d_Run_rearrange_43 : decode b_Run_rearrange 43 = .ok (.invokevirtual 134, 3) := by decide +kernel
theorem d_Run_rearrange_46 : decode b_Run_rearrange 46 = .ok (.return_, 1) := by decide +kernel
theorem d_Run_jump_0 : decode b_Run_jump 0 = .ok (.iconst 1, 1) := by decide +kernel
theorem d_Run_jump_1 : decode b_Run_jump 1 = .ok (.istore_n 3, 1) := by decide +kernel
theorem d_Run_jump_2 : decode b_Run_jump 2 = .ok (.iload_n 1, 1) := by decide +kernel
theorem d_Run_jump_3 : decode b_Run_jump 3 = .ok (.bipush 17, 2) := by decide +kernel
theorem d_Run_jump_5 : decode b_Run_jump 5 = .ok (.if_icmp .ne 25, 3) := by decide +kernel
theorem d_Run_jump_8 : decode b_Run_jump 8 = .ok (.aload_n 0, 1) := by decide +kernel
theorem d_Run_jump_9 : decode b_Run_jump 9 = .ok (.getfield 39, 3) := by decide +kernel
theorem d_Run_jump_12 : decode b_Run_jump 12 = .ok (.getfield 131, 3) := by decide +kernel
theorem d_Run_jump_15 : decode b_Run_jump 15 = .ok (.invokevirtual 144, 3) := by decide +kernel
theorem d_Run_jump_18 : decode b_Run_jump 18 = .ok (.ifCond .ne 7, 3) := by decide +kernel
theorem d_Run_jump_21 : decode b_Run_jump 21 = .ok (.iconst 1, 1) := by decide +kernel
theorem d_Run_jump_22 : decode b_Run_jump 22 = .ok (.goto 4, 3) := by decide +kernel
theorem d_Run_jump_25 : decode b_Run_jump 25 = .ok (.iconst 0, 1) := by decide +kernel
theorem d_Run_jump_26 : decode b_Run_jump 26 = .ok (.istore_n 3, 1) := by decide +kernel
theorem d_Run_jump_27 : decode b_Run_jump 27 = .ok (.goto 46, 3) := by decide +kernel
theorem d_Run_jump_30 : decode b_Run_jump 30 = .ok (.iload_n 1, 1) := by decide +kernel
theorem d_Run_jump_31 : decode b_Run_jump 31 = .ok (.bipush 18, 2) := by decide +kernel
theorem d_Run_jump_33 : decode b_Run_jump 33 = .ok (.if_icmp .ne 40, 3) := by decide +kernel
theorem d_Run_jump_36 : decode b_Run_jump 36 = .ok (.aload_n 0, 1) := by decide +kernel
theorem d_Run_jump_37 : decode b_Run_jump 37 = .ok (.getfield 39, 3) := by decide +kernel
theorem d_Run_jump_40 : decode b_Run_jump 40 = .ok (.getfield 131, 3) := by decide +kernel
theorem d_Run_jump_43 : decode b_Run_jump 43 = .ok (.invokevirtual 144, 3) := by decide +kernel
theorem d_Run_jump_46 : decode b_Run_jump 46 = .ok (.istore 4, 2) := by decide +kernel
theorem d_Run_jump_48 : decode b_Run_jump 48 = .ok (.aload_n 0, 1) := by decide +kernel
theorem d_Run_jump_49 : decode b_Run_jump 49 = .ok (.getfield 39, 3) := by decide +kernel
theorem d_Run_jump_52 : decode b_Run_jump 52 = .ok (.getfield 131, 3) := by decide +kernel
theorem d_Run_jump_55 : decode b_Run_jump 55 = .ok (.invokevirtual 144, 3) := by decide +kernel
theorem d_Run_jump_58 : decode b_Run_jump 58 = .ok (.istore 5, 2) := by decide +kernel
theorem d_Run_jump_60 : decode b_Run_jump 60 = .ok (.iload 5, 2) := by decide +kernel
theorem d_Run_jump_62 : decode b_Run_jump 62 = .ok (.iload 4, 2) := by decide +kernel
theorem d_Run_jump_64 : decode b_Run_jump 64 = .ok (.if_icmp .ge 7, 3) := by decide +kernel
theorem d_Run_jump_67 : decode b_Run_jump 67 = .ok (.iconst 1, 1) := by decide +kernel
theorem d_Run_jump_68 : decode b_Run_jump 68 = .ok (.goto 4, 3) := by decide +kernel
theorem d_Run_jump_71 : decode b_Run_jump 71 = .ok (.iconst 0, 1) := by decide +kernel
theorem d_Run_jump_72 : decode b_Run_jump 72 = .ok (.istore_n 3, 1) := by decide +kernel
theorem d_Run_jump_73 : decode b_Run_jump 73 = .ok (.iload_n 3, 1) := by decide +kernel
theorem d_Run_jump_74 : decode b_Run_jump 74 = .ok (.ifCond .eq 11, 3) := by decide +kernel
theorem d_Run_jump_77 : decode b_Run_jump 77 = .ok (.aload_n 0, 1) := by decide +kernel
theorem d_Run_jump_78 : decode b_Run_jump 78 = .ok (.getfield 39, 3) := by decide +kernel
theorem d_Run_jump_81 : decode b_Run_jump 81 = .ok (.iload_n 2, 1) := by decide +kernel
theorem d_Run_jump_82 : decode b_Run_jump 82 = .ok (.putfield 98, 3) := by decide +kernel
theorem d_Run_jump_85 : decode b_Run_jump 85 = .ok (.return_, 1) := by decide +kernel
theorem d_Run_doOther_0 : decode b_Run_doOther 0 = .ok (.iload_n 1, 1) := by decide +kernel
theorem d_Run_doOther_1 : decode b_Run_doOther 1 = .ok (.tableswitch 160 19 27 #[51, 68, 88, 105, 122, 160, 130, 130, 138], 51) := by decide +kernel
theorem d_Run_doOther_52 : decode b_Run_doOther 52 = .ok (.aload_n 0, 1) := by decide +kernel
theorem d_Run_doOther_53 : decode b_Run_doOther 53 = .ok (.aload_n 0, 1) := by decide +kernel
theorem d_Run_doOther_54 : decode b_Run_doOther 54 = .ok (.getfield 39, 3) := by decide +kernel
theorem d_Run_doOther_57 : decode b_Run_doOther 57 = .ok (.getfield 131, 3) := by decide +kernel
theorem d_Run_doOther_60 : decode b_Run_doOther 60 = .ok (.invokevirtual 144, 3) := by decide +kernel
theorem d_Run_doOther_63 : decode b_Run_doOther 63 = .ok (.invokevirtual 157, 3) := by decide +kernel
theorem d_Run_doOther_66 : decode b_Run_doOther 66 = .ok (.goto 100, 3) := by decide +kernel
theorem d_Run_doOther_69 : decode b_Run_doOther 69 = .ok (.aload_n 0, 1) := by decide +kernel
theorem d_Run_doOther_70 : decode b_Run_doOther 70 = .ok (.getfield 39, 3) := by decide +kernel
theorem d_Run_doOther_73 : decode b_Run_doOther 73 = .ok (.getfield 131, 3) := by decide +kernel
theorem d_Run_doOther_76 : decode b_Run_doOther 76 = .ok (.aload_n 0, 1) := by decide +kernel
theorem d_Run_doOther_77 : decode b_Run_doOther 77 = .ok (.getfield 20, 3) := by decide +kernel
theorem d_Run_doOther_80 : decode b_Run_doOther 80 = .ok (.getfield 101, 3) := by decide +kernel
theorem d_Run_doOther_83 : decode b_Run_doOther 83 = .ok (.invokevirtual 134, 3) := by decide +kernel
theorem d_Run_doOther_86 : decode b_Run_doOther 86 = .ok (.goto 80, 3) := by decide +kernel
theorem d_Run_doOther_89 : decode b_Run_doOther 89 = .ok (.aload_n 0, 1) := by decide +kernel
theorem d_Run_doOther_90 : decode b_Run_doOther 90 = .ok (.aload_n 0, 1) := by decide +kernel
theorem d_Run_doOther_91 : decode b_Run_doOther 91 = .ok (.getfield 39, 3) := by decide +kernel
theorem d_Run_doOther_94 : decode b_Run_doOther 94 = .ok (.getfield 131, 3) := by decide +kernel
theorem d_Run_doOther_97 : decode b_Run_doOther 97 = .ok (.invokevirtual 144, 3) := by decide +kernel
theorem d_Run_doOther_100 : decode b_Run_doOther 100 = .ok (.invokevirtual 160, 3) := by decide +kernel
theorem d_Run_doOther_103 : decode b_Run_doOther 103 = .ok (.goto 63, 3) := by decide +kernel
theorem d_Run_doOther_106 : decode b_Run_doOther 106 = .ok (.aload_n 0, 1) := by decide +kernel
theorem d_Run_doOther_107 : decode b_Run_doOther 107 = .ok (.aload_n 0, 1) := by decide +kernel
theorem d_Run_doOther_108 : decode b_Run_doOther 108 = .ok (.getfield 39, 3) := by decide +kernel
theorem d_Run_doOther_111 : decode b_Run_doOther 111 = .ok (.getfield 131, 3) := by decide +kernel
theorem d_Run_doOther_114 : decode b_Run_doOther 114 = .ok (.invokevirtual 144, 3) := by decide +kernel
theorem d_Run_doOther_117 : decode b_Run_doOther 117 = .ok (.invokevirtual 163, 3) := by decide +kernel
theorem d_Run_doOther_120 : decode b_Run_doOther 120 = .ok (.goto 46, 3) := by decide +kernel
theorem d_Run_doOther_123 : decode b_Run_doOther 123 = .ok (.aload_n 0, 1) := by decide +kernel
theorem d_Run_doOther_124 : decode b_Run_doOther 124 = .ok (.iconst 0, 1) := by decide +kernel
theorem d_Run_doOther_125 : decode b_Run_doOther 125 = .ok (.invokevirtual 163, 3) := by decide +kernel
theorem d_Run_doOther_128 : decode b_Run_doOther 128 = .ok (.goto 38, 3) := by decide +kernel
theorem d_Run_doOther_131 : decode b_Run_doOther 131 = .ok (.aload_n 0, 1) := by decide +kernel
theorem d_Run_doOther_132 : decode b_Run_doOther 132 = .ok (.iload_n 1, 1) := by decide +kernel
theorem d_Run_doOther_133 : decode b_Run_doOther 133 = .ok (.invokevirtual 166, 3) := by decide +kernel
theorem d_Run_doOther_136 : decode b_Run_doOther 136 = .ok (.goto 30, 3) := by decide +kernel
theorem d_Run_doOther_139 : decode b_Run_doOther 139 = .ok (.aload_n 0, 1) := by decide +kernel
theorem d_Run_doOther_140 : decode b_Run_doOther 140 = .ok (.aload_n 0, 1) := by decide +kernel
theorem d_Run_doOther_141 : decode b_Run_doOther 141 = .ok (.getfield 9, 3) := by decide +kernel
theorem d_Run_doOther_144 : decode b_Run_doOther 144 = .ok (.iload_n 2, 1) := by decide +kernel
theorem d_Run_doOther_145 : decode b_Run_doOther 145 = .ok (.bipush 8, 2) := by decide +kernel
theorem d_Run_doOther_147 : decode b_Run_doOther 147 = .ok (.irem, 1) := by decide +kernel
theorem d_Run_doOther_148 : decode b_Run_doOther 148 = .ok (.invokevirtual 169, 3) := by decide +kernel
theorem d_Run_doOther_151 : decode b_Run_doOther 151 = .ok (.iload_n 2, 1) := by decide +kernel
theorem d_Run_doOther_152 : decode b_Run_doOther 152 = .ok (.bipush 8, 2) := by decide +kernel
theorem d_Run_doOther_154 : decode b_Run_doOther 154 = .ok (.idiv, 1) := by decide +kernel
theorem d_Run_doOther_155 : decode b_Run_doOther 155 = .ok (.invokevirtual 173, 3) := by decide +kernel
theorem d_Run_doOther_158 : decode b_Run_doOther 158 = .ok (.goto 8, 3) := by decide +kernel
theorem d_Run_doOther_161 : decode b_Run_doOther 161 = .ok (.aload_n 0, 1) := by decide +kernel
theorem d_Run_doOther_162 : decode b_Run_doOther 162 = .ok (.iconst 1, 1) := by decide +kernel
theorem d_Run_doOther_163 : decode b_Run_doOther 163 = .ok (.invokevirtual 104, 3) := by decide +kernel
theorem d_Run_doOther_166 : decode b_Run_doOther 166 = .ok (.return_, 1) := by decide +kernel
theorem d_Run_readInput_0 : decode b_Run_readInput 0 = .ok (.aload_n 0, 1) := by decide +kernel
theorem d_Run_readInput_1 : decode b_Run_readInput 1 = .ok (.getfield 20, 3) := by decide +kernel
theorem d_Run_readInput_4 : decode b_Run_readInput 4 = .ok (.iload_n 1, 1) := by decide +kernel
theorem d_Run_readInput_5 : decode b_Run_readInput 5 = .ok (.invokevirtual 176, 3) := by decide +kernel
theorem d_Run_readInput_8 : decode b_Run_readInput 8 = .ok (.ifCond .eq 25, 3) := by decide +kernel
theorem d_Run_readInput_11 : decode b_Run_readInput 11 = .ok (.aload_n 0, 1) := by decide +kernel
theorem d_Run_readInput_12 : decode b_Run_readInput 12 = .ok (.getfield 39, 3) := by decide +kernel
theorem d_Run_readInput_15 : decode b_Run_readInput 15 = .ok (.getfield 131, 3) := by decide +kernel
theorem d_Run_readInput_18 : decode b_Run_readInput 18 = .ok (.aload_n 0, 1) := by decide +kernel
theorem d_Run_readInput_19 : decode b_Run_readInput 19 = .ok (.getfield 20, 3) := by decide +kernel
theorem d_Run_readInput_22 : decode b_Run_readInput 22 = .ok (.iload_n 1, 1) := by decide +kernel
theorem d_Run_readInput_23 : decode b_Run_readInput 23 = .ok (.iconst 0, 1) := by decide +kernel
theorem d_Run_readInput_24 : decode b_Run_readInput 24 = .ok (.invokevirtual 140, 3) := by decide +kernel
theorem d_Run_readInput_27 : decode b_Run_readInput 27 = .ok (.invokevirtual 134, 3) := by decide +kernel
theorem d_Run_readInput_30 : decode b_Run_readInput 30 = .ok (.goto 8, 3) := by decide +kernel
theorem d_Run_readInput_33 : decode b_Run_readInput 33 = .ok (.aload_n 0, 1) := by decide +kernel
theorem d_Run_readInput_34 : decode b_Run_readInput 34 = .ok (.iconst 2, 1) := by decide +kernel
theorem d_Run_readInput_35 : decode b_Run_readInput 35 = .ok (.invokevirtual 104, 3) := by decide +kernel
theorem d_Run_readInput_38 : decode b_Run_readInput 38 = .ok (.return_, 1) := by decide +kernel
theorem d_Run_putOut_0 : decode b_Run_putOut 0 = .ok (.aload_n 0, 1) := by decide +kernel
theorem d_Run_putOut_1 : decode b_Run_putOut 1 = .ok (.getfield 24, 3) := by decide +kernel
theorem d_Run_putOut_4 : decode b_Run_putOut 4 = .ok (.getfield 101, 3) := by decide +kernel
theorem d_Run_putOut_7 : decode b_Run_putOut 7 = .ok (.bipush 64, 2) := by decide +kernel
theorem d_Run_putOut_9 : decode b_Run_putOut 9 = .ok (.if_icmp .ge 18, 3) := by decide +kernel
theorem d_Run_putOut_12 : decode b_Run_putOut 12 = .ok (.aload_n 0, 1) := by decide +kernel
theorem d_Run_putOut_13 : decode b_Run_putOut 13 = .ok (.getfield 24, 3) := by decide +kernel
theorem d_Run_putOut_16 : decode b_Run_putOut 16 = .ok (.iload_n 1, 1) := by decide +kernel
theorem d_Run_putOut_17 : decode b_Run_putOut 17 = .ok (.sipush 255, 3) := by decide +kernel
theorem d_Run_putOut_20 : decode b_Run_putOut 20 = .ok (.iand, 1) := by decide +kernel
theorem d_Run_putOut_21 : decode b_Run_putOut 21 = .ok (.invokevirtual 134, 3) := by decide +kernel
theorem d_Run_putOut_24 : decode b_Run_putOut 24 = .ok (.goto 8, 3) := by decide +kernel
theorem d_Run_putOut_27 : decode b_Run_putOut 27 = .ok (.aload_n 0, 1) := by decide +kernel
theorem d_Run_putOut_28 : decode b_Run_putOut 28 = .ok (.iconst 3, 1) := by decide +kernel
theorem d_Run_putOut_29 : decode b_Run_putOut 29 = .ok (.invokevirtual 104, 3) := by decide +kernel
theorem d_Run_putOut_32 : decode b_Run_putOut 32 = .ok (.return_, 1) := by decide +kernel
theorem d_Run_divide_0 : decode b_Run_divide 0 = .ok (.aload_n 0, 1) := by decide +kernel
theorem d_Run_divide_1 : decode b_Run_divide 1 = .ok (.getfield 39, 3) := by decide +kernel
theorem d_Run_divide_4 : decode b_Run_divide 4 = .ok (.getfield 131, 3) := by decide +kernel
theorem d_Run_divide_7 : decode b_Run_divide 7 = .ok (.invokevirtual 144, 3) := by decide +kernel
theorem d_Run_divide_10 : decode b_Run_divide 10 = .ok (.istore_n 2, 1) := by decide +kernel
theorem d_Run_divide_11 : decode b_Run_divide 11 = .ok (.aload_n 0, 1) := by decide +kernel
theorem d_Run_divide_12 : decode b_Run_divide 12 = .ok (.getfield 39, 3) := by decide +kernel
theorem d_Run_divide_15 : decode b_Run_divide 15 = .ok (.getfield 131, 3) := by decide +kernel
theorem d_Run_divide_18 : decode b_Run_divide 18 = .ok (.invokevirtual 144, 3) := by decide +kernel
theorem d_Run_divide_21 : decode b_Run_divide 21 = .ok (.istore_n 3, 1) := by decide +kernel
theorem d_Run_divide_22 : decode b_Run_divide 22 = .ok (.iload_n 2, 1) := by decide +kernel
theorem d_Run_divide_23 : decode b_Run_divide 23 = .ok (.ifCond .ne 11, 3) := by decide +kernel
theorem d_Run_divide_26 : decode b_Run_divide 26 = .ok (.aload_n 0, 1) := by decide +kernel
theorem d_Run_divide_27 : decode b_Run_divide 27 = .ok (.iconst 1, 1) := by decide +kernel
theorem d_Run_divide_28 : decode b_Run_divide 28 = .ok (.invokevirtual 104, 3) := by decide +kernel
theorem d_Run_divide_31 : decode b_Run_divide 31 = .ok (.goto 28, 3) := by decide +kernel
theorem d_Run_divide_34 : decode b_Run_divide 34 = .ok (.aload_n 0, 1) := by decide +kernel
theorem d_Run_divide_35 : decode b_Run_divide 35 = .ok (.getfield 39, 3) := by decide +kernel
theorem d_Run_divide_38 : decode b_Run_divide 38 = .ok (.getfield 131, 3) := by decide +kernel
theorem d_Run_divide_41 : decode b_Run_divide 41 = .ok (.iload_n 1, 1) := by decide +kernel
theorem d_Run_divide_42 : decode b_Run_divide 42 = .ok (.bipush 25, 2) := by decide +kernel
theorem d_Run_divide_44 : decode b_Run_divide 44 = .ok (.if_icmp .ne 9, 3) := by decide +kernel
theorem d_Run_divide_47 : decode b_Run_divide 47 = .ok (.iload_n 3, 1) := by decide +kernel
theorem d_Run_divide_48 : decode b_Run_divide 48 = .ok (.iload_n 2, 1) := by decide +kernel
theorem d_Run_divide_49 : decode b_Run_divide 49 = .ok (.idiv, 1) := by decide +kernel
theorem d_Run_divide_50 : decode b_Run_divide 50 = .ok (.goto 6, 3) := by decide +kernel
theorem d_Run_divide_53 : decode b_Run_divide 53 = .ok (.iload_n 3, 1) := by decide +kernel
theorem d_Run_divide_54 : decode b_Run_divide 54 = .ok (.iload_n 2, 1) := by decide +kernel
theorem d_Run_divide_55 : decode b_Run_divide 55 = .ok (.irem, 1) := by decide +kernel
theorem d_Run_divide_56 : decode b_Run_divide 56 = .ok (.invokevirtual 134, 3) := by decide +kernel
theorem d_Run_divide_59 : decode b_Run_divide 59 = .ok (.return_, 1) := by decide +kernel
theorem d_Run_callCode_0 : decode b_Run_callCode 0 = .ok (.aload_n 0, 1) := by decide +kernel
theorem d_Run_callCode_1 : decode b_Run_callCode 1 = .ok (.getfield 39, 3) := by decide +kernel
theorem d_Run_callCode_4 : decode b_Run_callCode 4 = .ok (.getfield 42, 3) := by decide +kernel
theorem d_Run_callCode_7 : decode b_Run_callCode 7 = .ok (.astore_n 3, 1) := by decide +kernel
theorem d_Run_callCode_8 : decode b_Run_callCode 8 = .ok (.aload_n 1, 1) := by decide +kernel
theorem d_Run_callCode_9 : decode b_Run_callCode 9 = .ok (.ifnonnull 11, 3) := by decide +kernel
theorem d_Run_callCode_12 : decode b_Run_callCode 12 = .ok (.aload_n 0, 1) := by decide +kernel
theorem d_Run_callCode_13 : decode b_Run_callCode 13 = .ok (.iconst 4, 1) := by decide +kernel
theorem d_Run_callCode_14 : decode b_Run_callCode 14 = .ok (.invokevirtual 104, 3) := by decide +kernel
theorem d_Run_callCode_17 : decode b_Run_callCode 17 = .ok (.goto 26, 3) := by decide +kernel
theorem d_Run_callCode_20 : decode b_Run_callCode 20 = .ok (.aload_n 3, 1) := by decide +kernel
theorem d_Run_callCode_21 : decode b_Run_callCode 21 = .ok (.ifnonnull 11, 3) := by decide +kernel
theorem d_Run_callCode_24 : decode b_Run_callCode 24 = .ok (.aload_n 0, 1) := by decide +kernel
theorem d_Run_callCode_25 : decode b_Run_callCode 25 = .ok (.iconst 5, 1) := by decide +kernel
theorem d_Run_callCode_26 : decode b_Run_callCode 26 = .ok (.invokevirtual 104, 3) := by decide +kernel
theorem d_Run_callCode_29 : decode b_Run_callCode 29 = .ok (.goto 14, 3) := by decide +kernel
theorem d_Run_callCode_32 : decode b_Run_callCode 32 = .ok (.aload_n 3, 1) := by decide +kernel
theorem d_Run_callCode_33 : decode b_Run_callCode 33 = .ok (.aload_n 1, 1) := by decide +kernel
theorem d_Run_callCode_34 : decode b_Run_callCode 34 = .ok (.iload_n 2, 1) := by decide +kernel
theorem d_Run_callCode_35 : decode b_Run_callCode 35 = .ok (.invokevirtual 72, 3) := by decide +kernel
theorem d_Run_callCode_38 : decode b_Run_callCode 38 = .ok (.aload_n 0, 1) := by decide +kernel
theorem d_Run_callCode_39 : decode b_Run_callCode 39 = .ok (.aload_n 3, 1) := by decide +kernel
theorem d_Run_callCode_40 : decode b_Run_callCode 40 = .ok (.putfield 39, 3) := by decide +kernel
theorem d_Run_callCode_43 : decode b_Run_callCode 43 = .ok (.return_, 1) := by decide +kernel
theorem d_Run_finish_0 : decode b_Run_finish 0 = .ok (.aload_n 0, 1) := by decide +kernel
theorem d_Run_finish_1 : decode b_Run_finish 1 = .ok (.getfield 39, 3) := by decide +kernel
theorem d_Run_finish_4 : decode b_Run_finish 4 = .ok (.getfield 179, 3) := by decide +kernel
theorem d_Run_finish_7 : decode b_Run_finish 7 = .ok (.astore_n 2, 1) := by decide +kernel
theorem d_Run_finish_8 : decode b_Run_finish 8 = .ok (.aload_n 2, 1) := by decide +kernel
theorem d_Run_finish_9 : decode b_Run_finish 9 = .ok (.ifnonnull 16, 3) := by decide +kernel
theorem d_Run_finish_12 : decode b_Run_finish 12 = .ok (.aload_n 0, 1) := by decide +kernel
theorem d_Run_finish_13 : decode b_Run_finish 13 = .ok (.iconst 0, 1) := by decide +kernel
theorem d_Run_finish_14 : decode b_Run_finish 14 = .ok (.putfield 49, 3) := by decide +kernel
theorem d_Run_finish_17 : decode b_Run_finish 17 = .ok (.aload_n 0, 1) := by decide +kernel
theorem d_Run_finish_18 : decode b_Run_finish 18 = .ok (.iload_n 1, 1) := by decide +kernel
theorem d_Run_finish_19 : decode b_Run_finish 19 = .ok (.putfield 76, 3) := by decide +kernel
theorem d_Run_finish_22 : decode b_Run_finish 22 = .ok (.goto 16, 3) := by decide +kernel
theorem d_Run_finish_25 : decode b_Run_finish 25 = .ok (.aload_n 2, 1) := by decide +kernel
theorem d_Run_finish_26 : decode b_Run_finish 26 = .ok (.getfield 131, 3) := by decide +kernel
theorem d_Run_finish_29 : decode b_Run_finish 29 = .ok (.iload_n 1, 1) := by decide +kernel
theorem d_Run_finish_30 : decode b_Run_finish 30 = .ok (.invokevirtual 134, 3) := by decide +kernel
theorem d_Run_finish_33 : decode b_Run_finish 33 = .ok (.aload_n 0, 1) := by decide +kernel
theorem d_Run_finish_34 : decode b_Run_finish 34 = .ok (.aload_n 2, 1) := by decide +kernel
theorem d_Run_finish_35 : decode b_Run_finish 35 = .ok (.putfield 39, 3) := by decide +kernel
theorem d_Run_finish_38 : decode b_Run_finish 38 = .ok (.return_, 1) := by decide +kernel
theorem d_Survey_init_0 : decode b_Survey_init 0 = .ok (.aload_n 0, 1) := by decide +kernel
theorem d_Survey_init_1 : decode b_Survey_init 1 = .ok (.invokespecial 3, 3) := by decide +kernel
theorem d_Survey_init_4 : decode b_Survey_init 4 = .ok (.aload_n 0, 1) := by decide +kernel
theorem d_Survey_init_5 : decode b_Survey_init 5 = .ok (.new 9, 3) := by decide +kernel
theorem d_Survey_init_8 : decode b_Survey_init 8 = .ok (.dup, 1) := by decide +kernel
theorem d_Survey_init_9 : decode b_Survey_init 9 = .ok (.sipush 256, 3) := by decide +kernel
theorem d_Survey_init_12 : decode b_Survey_init 12 = .ok (.invokespecial 11, 3) := by decide +kernel
theorem d_Survey_init_15 : decode b_Survey_init 15 = .ok (.putfield 14, 3) := by decide +kernel
theorem d_Survey_init_18 : decode b_Survey_init 18 = .ok (.aload_n 0, 1) := by decide +kernel
theorem d_Survey_init_19 : decode b_Survey_init 19 = .ok (.new 9, 3) := by decide +kernel
theorem d_Survey_init_22 : decode b_Survey_init 22 = .ok (.dup, 1) := by decide +kernel
theorem d_Survey_init_23 : decode b_Survey_init 23 = .ok (.sipush 256, 3) := by decide +kernel
theorem d_Survey_init_26 : decode b_Survey_init 26 = .ok (.invokespecial 11, 3) := by decide +kernel
theorem d_Survey_init_29 : decode b_Survey_init 29 = .ok (.putfield 20, 3) := by decide +kernel
theorem d_Survey_init_32 : decode b_Survey_init 32 = .ok (.aload_n 0, 1) := by decide +kernel
theorem d_Survey_init_33 : decode b_Survey_init 33 = .ok (.new 9, 3) := by decide +kernel
theorem d_Survey_init_36 : decode b_Survey_init 36 = .ok (.dup, 1) := by decide +kernel
theorem d_Survey_init_37 : decode b_Survey_init 37 = .ok (.sipush 256, 3) := by decide +kernel
theorem d_Survey_init_40 : decode b_Survey_init 40 = .ok (.invokespecial 11, 3) := by decide +kernel
theorem d_Survey_init_43 : decode b_Survey_init 43 = .ok (.putfield 23, 3) := by decide +kernel
theorem d_Survey_init_46 : decode b_Survey_init 46 = .ok (.return_, 1) := by decide +kernel
theorem d_Survey_lookOver_0 : decode b_Survey_lookOver 0 = .ok (.aload_n 1, 1) := by decide +kernel
theorem d_Survey_lookOver_1 : decode b_Survey_lookOver 1 = .ok (.getfield 26, 3) := by decide +kernel
theorem d_Survey_lookOver_4 : decode b_Survey_lookOver 4 = .ok (.iconst 4, 1) := by decide +kernel
theorem d_Survey_lookOver_5 : decode b_Survey_lookOver 5 = .ok (.if_icmp .lt 13, 3) := by decide +kernel
theorem d_Survey_lookOver_8 : decode b_Survey_lookOver 8 = .ok (.aload_n 1, 1) := by decide +kernel
theorem d_Survey_lookOver_9 : decode b_Survey_lookOver 9 = .ok (.getfield 26, 3) := by decide +kernel
theorem d_Survey_lookOver_12 : decode b_Survey_lookOver 12 = .ok (.sipush 256, 3) := by decide +kernel
theorem d_Survey_lookOver_15 : decode b_Survey_lookOver 15 = .ok (.if_icmp .le 12, 3) := by decide +kernel
theorem d_Survey_lookOver_18 : decode b_Survey_lookOver 18 = .ok (.iconst 1, 1) := by decide +kernel
theorem d_Survey_lookOver_19 : decode b_Survey_lookOver 19 = .ok (.aload_n 1, 1) := by decide +kernel
theorem d_Survey_lookOver_20 : decode b_Survey_lookOver 20 = .ok (.getfield 26, 3) := by decide +kernel
theorem d_Survey_lookOver_23 : decode b_Survey_lookOver 23 = .ok (.invokestatic 30, 3) := by decide +kernel
theorem d_Survey_lookOver_26 : decode b_Survey_lookOver 26 = .ok (.ireturn, 1) := by decide +kernel
theorem d_Survey_lookOver_27 : decode b_Survey_lookOver 27 = .ok (.aload_n 0, 1) := by decide +kernel
theorem d_Survey_lookOver_28 : decode b_Survey_lookOver 28 = .ok (.aload_n 1, 1) := by decide +kernel
theorem d_Survey_lookOver_29 : decode b_Survey_lookOver 29 = .ok (.getfield 26, 3) := by decide +kernel
theorem d_Survey_lookOver_32 : decode b_Survey_lookOver 32 = .ok (.invokevirtual 34, 3) := by decide +kernel
theorem d_Survey_lookOver_35 : decode b_Survey_lookOver 35 = .ok (.aload_n 0, 1) := by decide +kernel
theorem d_Survey_lookOver_36 : decode b_Survey_lookOver 36 = .ok (.aload_n 1, 1) := by decide +kernel
theorem d_Survey_lookOver_37 : decode b_Survey_lookOver 37 = .ok (.invokevirtual 37, 3) := by decide +kernel
theorem d_Survey_lookOver_40 : decode b_Survey_lookOver 40 = .ok (.istore_n 2, 1) := by decide +kernel
theorem d_Survey_lookOver_41 : decode b_Survey_lookOver 41 = .ok (.iload_n 2, 1) := by decide +kernel
theorem d_Survey_lookOver_42 : decode b_Survey_lookOver 42 = .ok (.ifCond .ne 9, 3) := by decide +kernel
theorem d_Survey_lookOver_45 : decode b_Survey_lookOver 45 = .ok (.aload_n 0, 1) := by decide +kernel
theorem d_Survey_lookOver_46 : decode b_Survey_lookOver 46 = .ok (.aload_n 1, 1) := by decide +kernel
theorem d_Survey_lookOver_47 : decode b_Survey_lookOver 47 = .ok (.invokevirtual 41, 3) := by decide +kernel
theorem d_Survey_lookOver_50 : decode b_Survey_lookOver 50 = .ok (.istore_n 2, 1) := by decide +kernel
theorem d_Survey_lookOver_51 : decode b_Survey_lookOver 51 = .ok (.iload_n 2, 1) := by decide +kernel
theorem d_Survey_lookOver_52 : decode b_Survey_lookOver 52 = .ok (.ifCond .ne 9, 3) := by decide +kernel
theorem d_Survey_lookOver_55 : decode b_Survey_lookOver 55 = .ok (.aload_n 0, 1) := by decide +kernel
theorem d_Survey_lookOver_56 : decode b_Survey_lookOver 56 = .ok (.aload_n 1, 1) := by decide +kernel
theorem d_Survey_lookOver_57 : decode b_Survey_lookOver 57 = .ok (.invokevirtual 44, 3) := by decide +kernel
theorem d_Survey_lookOver_60 : decode b_Survey_lookOver 60 = .ok (.istore_n 2, 1) := by decide +kernel
theorem d_Survey_lookOver_61 : decode b_Survey_lookOver 61 = .ok (.iload_n 2, 1) := by decide +kernel
theorem d_Survey_lookOver_62 : decode b_Survey_lookOver 62 = .ok (.ireturn, 1) := by decide +kernel
theorem d_Survey_fault_0 : decode b_Survey_fault 0 = .ok (.sipush (-1000), 3) := by decide +kernel
theorem d_Survey_fault_3 : decode b_Survey_fault 3 = .ok (.iload_n 0, 1) := by decide +kernel
theorem d_Survey_fault_4 : decode b_Survey_fault 4 = .ok (.imul, 1) := by decide +kernel
theorem d_Survey_fault_5 : decode b_Survey_fault 5 = .ok (.iload_n 1, 1) := by decide +kernel
theorem d_Survey_fault_6 : decode b_Survey_fault 6 = .ok (.isub, 1) := by decide +kernel
theorem d_Survey_fault_7 : decode b_Survey_fault 7 = .ok (.ireturn, 1) := by decide +kernel
theorem d_Survey_clear_0 : decode b_Survey_clear 0 = .ok (.aload_n 0, 1) := by decide +kernel
theorem d_Survey_clear_1 : decode b_Survey_clear 1 = .ok (.getfield 14, 3) := by decide +kernel
theorem d_Survey_clear_4 : decode b_Survey_clear 4 = .ok (.iload_n 1, 1) := by decide +kernel
theorem d_Survey_clear_5 : decode b_Survey_clear 5 = .ok (.iconst 0, 1) := by decide +kernel
theorem d_Survey_clear_6 : decode b_Survey_clear 6 = .ok (.invokevirtual 47, 3) := by decide +kernel
theorem d_Survey_clear_9 : decode b_Survey_clear 9 = .ok (.aload_n 0, 1) := by decide +kernel
theorem d_Survey_clear_10 : decode b_Survey_clear 10 = .ok (.getfield 20, 3) := by decide +kernel
theorem d_Survey_clear_13 : decode b_Survey_clear 13 = .ok (.iload_n 1, 1) := by decide +kernel
theorem d_Survey_clear_14 : decode b_Survey_clear 14 = .ok (.iconst (-1), 1) := by decide +kernel
theorem d_Survey_clear_15 : decode b_Survey_clear 15 = .ok (.invokevirtual 47, 3) := by decide +kernel
theorem d_Survey_clear_18 : decode b_Survey_clear 18 = .ok (.aload_n 0, 1) := by decide +kernel
theorem d_Survey_clear_19 : decode b_Survey_clear 19 = .ok (.getfield 23, 3) := by decide +kernel
theorem d_Survey_clear_22 : decode b_Survey_clear 22 = .ok (.iload_n 1, 1) := by decide +kernel
theorem d_Survey_clear_23 : decode b_Survey_clear 23 = .ok (.iconst 0, 1) := by decide +kernel
theorem d_Survey_clear_24 : decode b_Survey_clear 24 = .ok (.invokevirtual 47, 3) := by decide +kernel
theorem d_Survey_clear_27 : decode b_Survey_clear 27 = .ok (.aload_n 0, 1) := by decide +kernel
theorem d_Survey_clear_28 : decode b_Survey_clear 28 = .ok (.iconst 0, 1) := by decide +kernel
theorem d_Survey_clear_29 : decode b_Survey_clear 29 = .ok (.putfield 51, 3) := by decide +kernel
theorem d_Survey_clear_32 : decode b_Survey_clear 32 = .ok (.aload_n 0, 1) := by decide +kernel
theorem d_Survey_clear_33 : decode b_Survey_clear 33 = .ok (.iconst 3, 1) := by decide +kernel
theorem d_Survey_clear_34 : decode b_Survey_clear 34 = .ok (.putfield 54, 3) := by decide +kernel
theorem d_Survey_clear_37 : decode b_Survey_clear 37 = .ok (.aload_n 0, 1) := by decide +kernel
theorem d_Survey_clear_38 : decode b_Survey_clear 38 = .ok (.iload_n 1, 1) := by decide +kernel
theorem d_Survey_clear_39 : decode b_Survey_clear 39 = .ok (.putfield 57, 3) := by decide +kernel
theorem d_Survey_clear_42 : decode b_Survey_clear 42 = .ok (.return_, 1) := by decide +kernel
theorem d_Survey_readInstructions_0 : decode b_Survey_readInstructions 0 = .ok (.iconst 3, 1) := by decide +kernel
theorem d_Survey_readInstructions_1 : decode b_Survey_readInstructions 1 = .ok (.istore_n 2, 1) := by decide +kernel
theorem d_Survey_readInstructions_2 : decode b_Survey_readInstructions 2 = .ok (.iload_n 2, 1) := by decide +kernel
theorem d_Survey_readInstructions_3 : decode b_Survey_readInstructions 3 = .ok (.aload_n 1, 1) := by decide +kernel
theorem d_Survey_readInstructions_4 : decode b_Survey_readInstructions 4 = .ok (.getfield 26, 3) := by decide +kernel
theorem d_Survey_readInstructions_7 : decode b_Survey_readInstructions 7 = .ok (.if_icmp .ge 60, 3) := by decide +kernel
theorem d_Survey_readInstructions_10 : decode b_Survey_readInstructions 10 = .ok (.aload_n 1, 1) := by decide +kernel
theorem d_Survey_readInstructions_11 : decode b_Survey_readInstructions 11 = .ok (.iload_n 2, 1) := by decide +kernel
theorem d_Survey_readInstructions_12 : decode b_Survey_readInstructions 12 = .ok (.invokestatic 60, 3) := by decide +kernel
theorem d_Survey_readInstructions_15 : decode b_Survey_readInstructions 15 = .ok (.istore_n 3, 1) := by decide +kernel
theorem d_Survey_readInstructions_16 : decode b_Survey_readInstructions 16 = .ok (.iload_n 3, 1) := by decide +kernel
theorem d_Survey_readInstructions_17 : decode b_Survey_readInstructions 17 = .ok (.ifCond .eq 5, 3) := by decide +kernel
theorem d_Survey_readInstructions_20 : decode b_Survey_readInstructions 20 = .ok (.iload_n 3, 1) := by decide +kernel
theorem d_Survey_readInstructions_21 : decode b_Survey_readInstructions 21 = .ok (.ireturn, 1) := by decide +kernel
theorem d_Survey_readInstructions_22 : decode b_Survey_readInstructions 22 = .ok (.aload_n 0, 1) := by decide +kernel
theorem d_Survey_readInstructions_23 : decode b_Survey_readInstructions 23 = .ok (.getfield 14, 3) := by decide +kernel
theorem d_Survey_readInstructions_26 : decode b_Survey_readInstructions 26 = .ok (.iload_n 2, 1) := by decide +kernel
theorem d_Survey_readInstructions_27 : decode b_Survey_readInstructions 27 = .ok (.iconst 1, 1) := by decide +kernel
theorem d_Survey_readInstructions_28 : decode b_Survey_readInstructions 28 = .ok (.invokevirtual 64, 3) := by decide +kernel
theorem d_Survey_readInstructions_31 : decode b_Survey_readInstructions 31 = .ok (.aload_n 0, 1) := by decide +kernel
theorem d_Survey_readInstructions_32 : decode b_Survey_readInstructions 32 = .ok (.dup, 1) := by decide +kernel
theorem d_Survey_readInstructions_33 : decode b_Survey_readInstructions 33 = .ok (.getfield 51, 3) := by decide +kernel
theorem d_Survey_readInstructions_36 : decode b_Survey_readInstructions 36 = .ok (.iconst 1, 1) := by decide +kernel
theorem d_Survey_readInstructions_37 : decode b_Survey_readInstructions 37 = .ok (.iadd, 1) := by decide +kernel
theorem d_Survey_readInstructions_38 : decode b_Survey_readInstructions 38 = .ok (.putfield 51, 3) := by decide +kernel
theorem d_Survey_readInstructions_41 : decode b_Survey_readInstructions 41 = .ok (.aload_n 0, 1) := by decide +kernel
theorem d_Survey_readInstructions_42 : decode b_Survey_readInstructions 42 = .ok (.iload_n 2, 1) := by decide +kernel
theorem d_Survey_readInstructions_43 : decode b_Survey_readInstructions 43 = .ok (.putfield 54, 3) := by decide +kernel
theorem d_Survey_readInstructions_46 : decode b_Survey_readInstructions 46 = .ok (.aload_n 1, 1) := by decide +kernel
theorem d_Survey_readInstructions_47 : decode b_Survey_readInstructions 47 = .ok (.iload_n 2, 1) := by decide +kernel
theorem d_Survey_readInstructions_48 : decode b_Survey_readInstructions 48 = .ok (.iconst (-1), 1) := by decide +kernel
theorem d_Survey_readInstructions_49 : decode b_Survey_readInstructions 49 = .ok (.invokevirtual 67, 3) := by decide +kernel
theorem d_Survey_readInstructions_52 : decode b_Survey_readInstructions 52 = .ok (.invokestatic 70, 3) := by decide +kernel
theorem d_Survey_readInstructions_55 : decode b_Survey_readInstructions 55 = .ok (.ifCond .eq 6, 3) := by decide +kernel
theorem d_Survey_readInstructions_58 : decode b_Survey_readInstructions 58 = .ok (.iinc 2 1, 3) := by decide +kernel
theorem d_Survey_readInstructions_61 : decode b_Survey_readInstructions 61 = .ok (.iinc 2 1, 3) := by decide +kernel
theorem d_Survey_readInstructions_64 : decode b_Survey_readInstructions 64 = .ok (.goto (-62), 3) := by decide +kernel
theorem d_Survey_readInstructions_67 : decode b_Survey_readInstructions 67 = .ok (.aload_n 1, 1) := by decide +kernel
theorem d_Survey_readInstructions_68 : decode b_Survey_readInstructions 68 = .ok (.aload_n 0, 1) := by decide +kernel
theorem d_Survey_readInstructions_69 : decode b_Survey_readInstructions 69 = .ok (.getfield 54, 3) := by decide +kernel
theorem d_Survey_readInstructions_72 : decode b_Survey_readInstructions 72 = .ok (.iconst 0, 1) := by decide +kernel
theorem d_Survey_readInstructions_73 : decode b_Survey_readInstructions 73 = .ok (.invokevirtual 67, 3) := by decide +kernel
theorem d_Survey_readInstructions_76 : decode b_Survey_readInstructions 76 = .ok (.istore_n 2, 1) := by decide +kernel
theorem d_Survey_readInstructions_77 : decode b_Survey_readInstructions 77 = .ok (.iload_n 2, 1) := by decide +kernel
theorem d_Survey_readInstructions_78 : decode b_Survey_readInstructions 78 = .ok (.bipush 16, 2) := by decide +kernel
theorem d_Survey_readInstructions_80 : decode b_Survey_readInstructions 80 = .ok (.if_icmp .eq 10, 3) := by decide +kernel
theorem d_Survey_readInstructions_83 : decode b_Survey_readInstructions 83 = .ok (.iload_n 2, 1) := by decide +kernel
theorem d_Survey_readInstructions_84 : decode b_Survey_readInstructions 84 = .ok (.invokestatic 74, 3) := by decide +kernel
theorem d_Survey_readInstructions_87 : decode b_Survey_readInstructions 87 = .ok (.ifCond .eq 7, 3) := by decide +kernel
theorem d_Survey_readInstructions_90 : decode b_Survey_readInstructions 90 = .ok (.iconst 0, 1) := by decide +kernel
theorem d_Survey_readInstructions_91 : decode b_Survey_readInstructions 91 = .ok (.goto 11, 3) := by decide +kernel
theorem d_Survey_readInstructions_94 : decode b_Survey_readInstructions 94 = .ok (.iconst 5, 1) := by decide +kernel
theorem d_Survey_readInstructions_95 : decode b_Survey_readInstructions 95 = .ok (.aload_n 0, 1) := by decide +kernel
theorem d_Survey_readInstructions_96 : decode b_Survey_readInstructions 96 = .ok (.getfield 54, 3) := by decide +kernel
theorem d_Survey_readInstructions_99 : decode b_Survey_readInstructions 99 = .ok (.invokestatic 30, 3) := by decide +kernel
theorem d_Survey_readInstructions_102 : decode b_Survey_readInstructions 102 = .ok (.ireturn, 1) := by decide +kernel
theorem d_Survey_readingFault_0 : decode b_Survey_readingFault 0 = .ok (.aload_n 0, 1) := by decide +kernel
theorem d_Survey_readingFault_1 : decode b_Survey_readingFault 1 = .ok (.iload_n 1, 1) := by decide +kernel
theorem d_Survey_readingFault_2 : decode b_Survey_readingFault 2 = .ok (.iconst (-1), 1) := by decide +kernel
theorem d_Survey_readingFault_3 : decode b_Survey_readingFault 3 = .ok (.invokevirtual 67, 3) := by decide +kernel
theorem d_Survey_readingFault_6 : decode b_Survey_readingFault 6 = .ok (.istore_n 2, 1) := by decide +kernel
theorem d_Survey_readingFault_7 : decode b_Survey_readingFault 7 = .ok (.iload_n 2, 1) := by decide +kernel
theorem d_Survey_readingFault_8 : decode b_Survey_readingFault 8 = .ok (.invokestatic 77, 3) := by decide +kernel
theorem d_Survey_readingFault_11 : decode b_Survey_readingFault 11 = .ok (.ifCond .ne 9, 3) := by decide +kernel
theorem d_Survey_readingFault_14 : decode b_Survey_readingFault 14 = .ok (.iconst 2, 1) := by decide +kernel
theorem d_Survey_readingFault_15 : decode b_Survey_readingFault 15 = .ok (.iload_n 1, 1) := by decide +kernel
theorem d_Survey_readingFault_16 : decode b_Survey_readingFault 16 = .ok (.invokestatic 30, 3) := by decide +kernel
theorem d_Survey_readingFault_19 : decode b_Survey_readingFault 19 = .ok (.ireturn, 1) := by decide +kernel
theorem d_Survey_readingFault_20 : decode b_Survey_readingFault 20 = .ok (.iload_n 2, 1) := by decide +kernel
theorem d_Survey_readingFault_21 : decode b_Survey_readingFault 21 = .ok (.invokestatic 70, 3) := by decide +kernel
theorem d_Survey_readingFault_24 : decode b_Survey_readingFault 24 = .ok (.ifCond .ne 5, 3) := by decide +kernel
theorem d_Survey_readingFault_27 : decode b_Survey_readingFault 27 = .ok (.iconst 0, 1) := by decide +kernel
theorem d_Survey_readingFault_28 : decode b_Survey_readingFault 28 = .ok (.ireturn, 1) := by decide +kernel
theorem d_Survey_readingFault_29 : decode b_Survey_readingFault 29 = .ok (.aload_n 0, 1) := by decide +kernel
theorem d_Survey_readingFault_30 : decode b_Survey_readingFault 30 = .ok (.iload_n 1, 1) := by decide +kernel
theorem d_Survey_readingFault_31 : decode b_Survey_readingFault 31 = .ok (.iconst 1, 1) := by decide +kernel
theorem d_Survey_readingFault_32 : decode b_Survey_readingFault 32 = .ok (.iadd, 1) := by decide +kernel
theorem d_Survey_readingFault_33 : decode b_Survey_readingFault 33 = .ok (.invokevirtual 80, 3) := by decide +kernel
theorem d_Survey_readingFault_36 : decode b_Survey_readingFault 36 = .ok (.ifCond .ne 9, 3) := by decide +kernel
theorem d_Survey_readingFault_39 : decode b_Survey_readingFault 39 = .ok (.iconst 3, 1) := by decide +kernel
theorem d_Survey_readingFault_40 : decode b_Survey_readingFault 40 = .ok (.iload_n 1, 1) := by decide +kernel
theorem d_Survey_readingFault_41 : decode b_Survey_readingFault 41 = .ok (.invokestatic 30, 3) := by decide +kernel
theorem d_Survey_readingFault_44 : decode b_Survey_readingFault 44 = .ok (.ireturn, 1) := by decide +kernel
theorem d_Survey_readingFault_45 : decode b_Survey_readingFault 45 = .ok (.aload_n 0, 1) := by decide +kernel
theorem d_Survey_readingFault_46 : decode b_Survey_readingFault 46 = .ok (.iload_n 1, 1) := by decide +kernel
theorem d_Survey_readingFault_47 : decode b_Survey_readingFault 47 = .ok (.iconst 1, 1) := by decide +kernel
theorem d_Survey_readingFault_48 : decode b_Survey_readingFault 48 = .ok (.iadd, 1) := by decide +kernel
theorem d_Survey_readingFault_49 : decode b_Survey_readingFault 49 = .ok (.iconst 0, 1) := by decide +kernel
theorem d_Survey_readingFault_50 : decode b_Survey_readingFault 50 = .ok (.invokevirtual 67, 3) := by decide +kernel
theorem d_Survey_readingFault_53 : decode b_Survey_readingFault 53 = .ok (.iload_n 2, 1) := by decide +kernel
theorem d_Survey_readingFault_54 : decode b_Survey_readingFault 54 = .ok (.invokestatic 83, 3) := by decide +kernel
theorem d_Survey_readingFault_57 : decode b_Survey_readingFault 57 = .ok (.if_icmp .le 11, 3) := by decide +kernel
theorem d_Survey_readingFault_60 : decode b_Survey_readingFault 60 = .ok (.iconst 4, 1) := by decide +kernel
theorem d_Survey_readingFault_61 : decode b_Survey_readingFault 61 = .ok (.iload_n 1, 1) := by decide +kernel
theorem d_Survey_readingFault_62 : decode b_Survey_readingFault 62 = .ok (.invokestatic 30, 3) := by decide +kernel
theorem d_Survey_readingFault_65 : decode b_Survey_readingFault 65 = .ok (.goto 4, 3) := by decide +kernel
theorem d_Survey_readingFault_68 : decode b_Survey_readingFault 68 = .ok (.iconst 0, 1) := by decide +kernel
theorem d_Survey_readingFault_69 : decode b_Survey_readingFault 69 = .ok (.ireturn, 1) := by decide +kernel
theorem d_Survey_lookAtPlaces_0 : decode b_Survey_lookAtPlaces 0 = .ok (.iconst 0, 1) := by decide +kernel
theorem d_Survey_lookAtPlaces_1 : decode b_Survey_lookAtPlaces 1 = .ok (.istore_n 2, 1) := by decide +kernel
theorem d_Survey_lookAtPlaces_2 : decode b_Survey_lookAtPlaces 2 = .ok (.iload_n 2, 1) := by decide +kernel
theorem d_Survey_lookAtPlaces_3 : decode b_Survey_lookAtPlaces 3 = .ok (.aload_n 1, 1) := by decide +kernel
theorem d_Survey_lookAtPlaces_4 : decode b_Survey_lookAtPlaces 4 = .ok (.getfield 26, 3) := by decide +kernel
theorem d_Survey_lookAtPlaces_7 : decode b_Survey_lookAtPlaces 7 = .ok (.if_icmp .ge 42, 3) := by decide +kernel
theorem d_Survey_lookAtPlaces_10 : decode b_Survey_lookAtPlaces 10 = .ok (.aload_n 0, 1) := by decide +kernel
theorem d_Survey_lookAtPlaces_11 : decode b_Survey_lookAtPlaces 11 = .ok (.aload_n 1, 1) := by decide +kernel
theorem d_Survey_lookAtPlaces_12 : decode b_Survey_lookAtPlaces 12 = .ok (.iload_n 2, 1) := by decide +kernel
theorem d_Survey_lookAtPlaces_13 : decode b_Survey_lookAtPlaces 13 = .ok (.invokevirtual 87, 3) := by decide +kernel
theorem d_Survey_lookAtPlaces_16 : decode b_Survey_lookAtPlaces 16 = .ok (.ifCond .eq 27, 3) := by decide +kernel
theorem d_Survey_lookAtPlaces_19 : decode b_Survey_lookAtPlaces 19 = .ok (.aload_n 0, 1) := by decide +kernel
theorem d_Survey_lookAtPlaces_20 : decode b_Survey_lookAtPlaces 20 = .ok (.getfield 14, 3) := by decide +kernel
theorem d_Survey_lookAtPlaces_23 : decode b_Survey_lookAtPlaces 23 = .ok (.aload_n 1, 1) := by decide +kernel
theorem d_Survey_lookAtPlaces_24 : decode b_Survey_lookAtPlaces 24 = .ok (.iload_n 2, 1) := by decide +kernel
theorem d_Survey_lookAtPlaces_25 : decode b_Survey_lookAtPlaces 25 = .ok (.iconst (-1), 1) := by decide +kernel
theorem d_Survey_lookAtPlaces_26 : decode b_Survey_lookAtPlaces 26 = .ok (.invokevirtual 67, 3) := by decide +kernel
theorem d_Survey_lookAtPlaces_29 : decode b_Survey_lookAtPlaces 29 = .ok (.iconst 0, 1) := by decide +kernel
theorem d_Survey_lookAtPlaces_30 : decode b_Survey_lookAtPlaces 30 = .ok (.invokevirtual 67, 3) := by decide +kernel
theorem d_Survey_lookAtPlaces_33 : decode b_Survey_lookAtPlaces 33 = .ok (.ifCond .ne 10, 3) := by decide +kernel
theorem d_Survey_lookAtPlaces_36 : decode b_Survey_lookAtPlaces 36 = .ok (.bipush 6, 2) := by decide +kernel
theorem d_Survey_lookAtPlaces_38 : decode b_Survey_lookAtPlaces 38 = .ok (.iload_n 2, 1) := by decide +kernel
theorem d_Survey_lookAtPlaces_39 : decode b_Survey_lookAtPlaces 39 = .ok (.invokestatic 30, 3) := by decide +kernel
theorem d_Survey_lookAtPlaces_42 : decode b_Survey_lookAtPlaces 42 = .ok (.ireturn, 1) := by decide +kernel
theorem d_Survey_lookAtPlaces_43 : decode b_Survey_lookAtPlaces 43 = .ok (.iinc 2 1, 3) := by decide +kernel
theorem d_Survey_lookAtPlaces_46 : decode b_Survey_lookAtPlaces 46 = .ok (.goto (-44), 3) := by decide +kernel
theorem d_Survey_lookAtPlaces_49 : decode b_Survey_lookAtPlaces 49 = .ok (.iconst 0, 1) := by decide +kernel
theorem d_Survey_lookAtPlaces_50 : decode b_Survey_lookAtPlaces 50 = .ok (.ireturn, 1) := by decide +kernel
theorem d_Survey_tellsPlace_0 : decode b_Survey_tellsPlace 0 = .ok (.iload_n 2, 1) := by decide +kernel
theorem d_Survey_tellsPlace_1 : decode b_Survey_tellsPlace 1 = .ok (.iconst 3, 1) := by decide +kernel
theorem d_Survey_tellsPlace_2 : decode b_Survey_tellsPlace 2 = .ok (.if_icmp .lt 32, 3) := by decide +kernel
theorem d_Survey_tellsPlace_5 : decode b_Survey_tellsPlace 5 = .ok (.aload_n 0, 1) := by decide +kernel
theorem d_Survey_tellsPlace_6 : decode b_Survey_tellsPlace 6 = .ok (.getfield 14, 3) := by decide +kernel
theorem d_Survey_tellsPlace_9 : decode b_Survey_tellsPlace 9 = .ok (.iload_n 2, 1) := by decide +kernel
theorem d_Survey_tellsPlace_10 : decode b_Survey_tellsPlace 10 = .ok (.iconst 1, 1) := by decide +kernel
theorem d_Survey_tellsPlace_11 : decode b_Survey_tellsPlace 11 = .ok (.isub, 1) := by decide +kernel
theorem d_Survey_tellsPlace_12 : decode b_Survey_tellsPlace 12 = .ok (.iconst 0, 1) := by decide +kernel
theorem d_Survey_tellsPlace_13 : decode b_Survey_tellsPlace 13 = .ok (.invokevirtual 67, 3) := by decide +kernel
theorem d_Survey_tellsPlace_16 : decode b_Survey_tellsPlace 16 = .ok (.iconst 1, 1) := by decide +kernel
theorem d_Survey_tellsPlace_17 : decode b_Survey_tellsPlace 17 = .ok (.if_icmp .ne 21, 3) := by decide +kernel
theorem d_Survey_tellsPlace_20 : decode b_Survey_tellsPlace 20 = .ok (.aload_n 1, 1) := by decide +kernel
theorem d_Survey_tellsPlace_21 : decode b_Survey_tellsPlace 21 = .ok (.iload_n 2, 1) := by decide +kernel
theorem d_Survey_tellsPlace_22 : decode b_Survey_tellsPlace 22 = .ok (.iconst 1, 1) := by decide +kernel
theorem d_Survey_tellsPlace_23 : decode b_Survey_tellsPlace 23 = .ok (.isub, 1) := by decide +kernel
theorem d_Survey_tellsPlace_24 : decode b_Survey_tellsPlace 24 = .ok (.iconst (-1), 1) := by decide +kernel
theorem d_Survey_tellsPlace_25 : decode b_Survey_tellsPlace 25 = .ok (.invokevirtual 67, 3) := by decide +kernel
theorem d_Survey_tellsPlace_28 : decode b_Survey_tellsPlace 28 = .ok (.invokestatic 91, 3) := by decide +kernel
theorem d_Survey_tellsPlace_31 : decode b_Survey_tellsPlace 31 = .ok (.ifCond .eq 7, 3) := by decide +kernel
theorem d_Survey_tellsPlace_34 : decode b_Survey_tellsPlace 34 = .ok (.iconst 1, 1) := by decide +kernel
theorem d_Survey_tellsPlace_35 : decode b_Survey_tellsPlace 35 = .ok (.goto 4, 3) := by decide +kernel
theorem d_Survey_tellsPlace_38 : decode b_Survey_tellsPlace 38 = .ok (.iconst 0, 1) := by decide +kernel
theorem d_Survey_tellsPlace_39 : decode b_Survey_tellsPlace 39 = .ok (.ireturn, 1) := by decide +kernel
theorem d_Survey_goThroughAll_0 : decode b_Survey_goThroughAll 0 = .ok (.iconst 0, 1) := by decide +kernel
theorem d_Survey_goThroughAll_1 : decode b_Survey_goThroughAll 1 = .ok (.istore_n 2, 1) := by decide +kernel
theorem d_Survey_goThroughAll_2 : decode b_Survey_goThroughAll 2 = .ok (.iload_n 2, 1) := by decide +kernel
theorem d_Survey_goThroughAll_3 : decode b_Survey_goThroughAll 3 = .ok (.iconst 3, 1) := by decide +kernel
theorem d_Survey_goThroughAll_4 : decode b_Survey_goThroughAll 4 = .ok (.if_icmp .ge 21, 3) := by decide +kernel
theorem d_Survey_goThroughAll_7 : decode b_Survey_goThroughAll 7 = .ok (.aload_n 0, 1) := by decide +kernel
theorem d_Survey_goThroughAll_8 : decode b_Survey_goThroughAll 8 = .ok (.aload_n 1, 1) := by decide +kernel
theorem d_Survey_goThroughAll_9 : decode b_Survey_goThroughAll 9 = .ok (.iload_n 2, 1) := by decide +kernel
theorem d_Survey_goThroughAll_10 : decode b_Survey_goThroughAll 10 = .ok (.iconst (-1), 1) := by decide +kernel
theorem d_Survey_goThroughAll_11 : decode b_Survey_goThroughAll 11 = .ok (.invokevirtual 67, 3) := by decide +kernel
theorem d_Survey_goThroughAll_14 : decode b_Survey_goThroughAll 14 = .ok (.iconst 0, 1) := by decide +kernel
theorem d_Survey_goThroughAll_15 : decode b_Survey_goThroughAll 15 = .ok (.invokevirtual 94, 3) := by decide +kernel
theorem d_Survey_goThroughAll_18 : decode b_Survey_goThroughAll 18 = .ok (.pop, 1) := by decide +kernel
theorem d_Survey_goThroughAll_19 : decode b_Survey_goThroughAll 19 = .ok (.iinc 2 1, 3) := by decide +kernel
theorem d_Survey_goThroughAll_22 : decode b_Survey_goThroughAll 22 = .ok (.goto (-20), 3) := by decide +kernel
theorem d_Survey_goThroughAll_25 : decode b_Survey_goThroughAll 25 = .ok (.iconst 0, 1) := by decide +kernel
theorem d_Survey_goThroughAll_26 : decode b_Survey_goThroughAll 26 = .ok (.istore_n 2, 1) := by decide +kernel
theorem d_Survey_goThroughAll_27 : decode b_Survey_goThroughAll 27 = .ok (.iload_n 2, 1) := by decide +kernel
theorem d_Survey_goThroughAll_28 : decode b_Survey_goThroughAll 28 = .ok (.sipush 256, 3) := by decide +kernel
theorem d_Survey_goThroughAll_31 : decode b_Survey_goThroughAll 31 = .ok (.if_icmp .ge 37, 3) := by decide +kernel
theorem d_Survey_goThroughAll_34 : decode b_Survey_goThroughAll 34 = .ok (.aload_n 0, 1) := by decide +kernel
theorem d_Survey_goThroughAll_35 : decode b_Survey_goThroughAll 35 = .ok (.invokevirtual 97, 3) := by decide +kernel
theorem d_Survey_goThroughAll_38 : decode b_Survey_goThroughAll 38 = .ok (.istore_n 3, 1) := by decide +kernel
theorem d_Survey_goThroughAll_39 : decode b_Survey_goThroughAll 39 = .ok (.iload_n 3, 1) := by decide +kernel
theorem d_Survey_goThroughAll_40 : decode b_Survey_goThroughAll 40 = .ok (.iconst (-1), 1) := by decide +kernel
theorem d_Survey_goThroughAll_41 : decode b_Survey_goThroughAll 41 = .ok (.if_icmp .ne 5, 3) := by decide +kernel
theorem d_Survey_goThroughAll_44 : decode b_Survey_goThroughAll 44 = .ok (.iconst 0, 1) := by decide +kernel
theorem d_Survey_goThroughAll_45 : decode b_Survey_goThroughAll 45 = .ok (.ireturn, 1) := by decide +kernel
theorem d_Survey_goThroughAll_46 : decode b_Survey_goThroughAll 46 = .ok (.aload_n 0, 1) := by decide +kernel
theorem d_Survey_goThroughAll_47 : decode b_Survey_goThroughAll 47 = .ok (.aload_n 1, 1) := by decide +kernel
theorem d_Survey_goThroughAll_48 : decode b_Survey_goThroughAll 48 = .ok (.iload_n 3, 1) := by decide +kernel
theorem d_Survey_goThroughAll_49 : decode b_Survey_goThroughAll 49 = .ok (.invokevirtual 101, 3) := by decide +kernel
theorem d_Survey_goThroughAll_52 : decode b_Survey_goThroughAll 52 = .ok (.istore 4, 2) := by decide +kernel
theorem d_Survey_goThroughAll_54 : decode b_Survey_goThroughAll 54 = .ok (.iload 4, 2) := by decide +kernel
theorem d_Survey_goThroughAll_56 : decode b_Survey_goThroughAll 56 = .ok (.ifCond .eq 6, 3) := by decide +kernel
theorem d_Survey_goThroughAll_59 : decode b_Survey_goThroughAll 59 = .ok (.iload 4, 2) := by decide +kernel
theorem d_Survey_goThroughAll_61 : decode b_Survey_goThroughAll 61 = .ok (.ireturn, 1) := by decide +kernel
theorem d_Survey_goThroughAll_62 : decode b_Survey_goThroughAll 62 = .ok (.iinc 2 1, 3) := by decide +kernel
theorem d_Survey_goThroughAll_65 : decode b_Survey_goThroughAll 65 = .ok (.goto (-38), 3) := by decide +kernel
theorem d_Survey_goThroughAll_68 : decode b_Survey_goThroughAll 68 = .ok (.iconst 0, 1) := by decide +kernel
theorem d_Survey_goThroughAll_69 : decode b_Survey_goThroughAll 69 = .ok (.ireturn, 1) := by decide +kernel
theorem d_Survey_leastWaiting_0 : decode b_Survey_leastWaiting 0 = .ok (.aload_n 0, 1) := by decide +kernel
theorem d_Survey_leastWaiting_1 : decode b_Survey_leastWaiting 1 = .ok (.getfield 57, 3) := by decide +kernel
theorem d_Survey_leastWaiting_4 : decode b_Survey_leastWaiting 4 = .ok (.istore_n 1, 1) := by decide +kernel
theorem d_Survey_leastWaiting_5 : decode b_Survey_leastWaiting 5 = .ok (.iload_n 1, 1) := by decide +kernel
theorem d_Survey_leastWaiting_6 : decode b_Survey_leastWaiting 6 = .ok (.aload_n 0, 1) := by decide +kernel
theorem d_Survey_leastWaiting_7 : decode b_Survey_leastWaiting 7 = .ok (.getfield 23, 3) := by decide +kernel
theorem d_Survey_leastWaiting_10 : decode b_Survey_leastWaiting 10 = .ok (.getfield 26, 3) := by decide +kernel
theorem d_Survey_leastWaiting_13 : decode b_Survey_leastWaiting 13 = .ok (.if_icmp .ge 29, 3) := by decide +kernel
theorem d_Survey_leastWaiting_16 : decode b_Survey_leastWaiting 16 = .ok (.aload_n 0, 1) := by decide +kernel
theorem d_Survey_leastWaiting_17 : decode b_Survey_leastWaiting 17 = .ok (.getfield 23, 3) := by decide +kernel
theorem d_Survey_leastWaiting_20 : decode b_Survey_leastWaiting 20 = .ok (.iload_n 1, 1) := by decide +kernel
theorem d_Survey_leastWaiting_21 : decode b_Survey_leastWaiting 21 = .ok (.iconst 0, 1) := by decide +kernel
theorem d_Survey_leastWaiting_22 : decode b_Survey_leastWaiting 22 = .ok (.invokevirtual 67, 3) := by decide +kernel
theorem d_Survey_leastWaiting_25 : decode b_Survey_leastWaiting 25 = .ok (.iconst 1, 1) := by decide +kernel
theorem d_Survey_leastWaiting_26 : decode b_Survey_leastWaiting 26 = .ok (.if_icmp .ne 10, 3) := by decide +kernel
theorem d_Survey_leastWaiting_29 : decode b_Survey_leastWaiting 29 = .ok (.aload_n 0, 1) := by decide +kernel
theorem d_Survey_leastWaiting_30 : decode b_Survey_leastWaiting 30 = .ok (.iload_n 1, 1) := by decide +kernel
theorem d_Survey_leastWaiting_31 : decode b_Survey_leastWaiting 31 = .ok (.putfield 57, 3) := by decide +kernel
theorem d_Survey_leastWaiting_34 : decode b_Survey_leastWaiting 34 = .ok (.iload_n 1, 1) := by decide +kernel
theorem d_Survey_leastWaiting_35 : decode b_Survey_leastWaiting 35 = .ok (.ireturn, 1) := by decide +kernel
theorem d_Survey_leastWaiting_36 : decode b_Survey_leastWaiting 36 = .ok (.iinc 1 1, 3) := by decide +kernel
theorem d_Survey_leastWaiting_39 : decode b_Survey_leastWaiting 39 = .ok (.goto (-34), 3) := by decide +kernel
theorem d_Survey_leastWaiting_42 : decode b_Survey_leastWaiting 42 = .ok (.iconst (-1), 1) := by decide +kernel
theorem d_Survey_leastWaiting_43 : decode b_Survey_leastWaiting 43 = .ok (.ireturn, 1) := by decide +kernel
theorem d_Survey_goThrough_0 : decode b_Survey_goThrough 0 = .ok (.aload_n 0, 1) := by decide +kernel
theorem d_Survey_goThrough_1 : decode b_Survey_goThrough 1 = .ok (.getfield 23, 3) := by decide +kernel
theorem d_Survey_goThrough_4 : decode b_Survey_goThrough 4 = .ok (.iload_n 2, 1) := by decide +kernel
theorem d_Survey_goThrough_5 : decode b_Survey_goThrough 5 = .ok (.iconst 0, 1) := by decide +kernel
theorem d_Survey_goThrough_6 : decode b_Survey_goThrough 6 = .ok (.invokevirtual 64, 3) := by decide +kernel
theorem d_Survey_goThrough_9 : decode b_Survey_goThrough 9 = .ok (.aload_n 1, 1) := by decide +kernel
theorem d_Survey_goThrough_10 : decode b_Survey_goThrough 10 = .ok (.iload_n 2, 1) := by decide +kernel
theorem d_Survey_goThrough_11 : decode b_Survey_goThrough 11 = .ok (.iconst (-1), 1) := by decide +kernel
theorem d_Survey_goThrough_12 : decode b_Survey_goThrough 12 = .ok (.invokevirtual 67, 3) := by decide +kernel
theorem d_Survey_goThrough_15 : decode b_Survey_goThrough 15 = .ok (.istore_n 3, 1) := by decide +kernel
theorem d_Survey_goThrough_16 : decode b_Survey_goThrough 16 = .ok (.aload_n 0, 1) := by decide +kernel
theorem d_Survey_goThrough_17 : decode b_Survey_goThrough 17 = .ok (.getfield 20, 3) := by decide +kernel
theorem d_Survey_goThrough_20 : decode b_Survey_goThrough 20 = .ok (.iload_n 2, 1) := by decide +kernel
theorem d_Survey_goThrough_21 : decode b_Survey_goThrough 21 = .ok (.iconst 0, 1) := by decide +kernel
theorem d_Survey_goThrough_22 : decode b_Survey_goThrough 22 = .ok (.invokevirtual 67, 3) := by decide +kernel
theorem d_Survey_goThrough_25 : decode b_Survey_goThrough 25 = .ok (.iload_n 3, 1) := by decide +kernel
theorem d_Survey_goThrough_26 : decode b_Survey_goThrough 26 = .ok (.invokestatic 104, 3) := by decide +kernel
theorem d_Survey_goThrough_29 : decode b_Survey_goThrough 29 = .ok (.isub, 1) := by decide +kernel
theorem d_Survey_goThrough_30 : decode b_Survey_goThrough 30 = .ok (.istore 4, 2) := by decide +kernel
theorem d_Survey_goThrough_32 : decode b_Survey_goThrough 32 = .ok (.iload 4, 2) := by decide +kernel
theorem d_Survey_goThrough_34 : decode b_Survey_goThrough 34 = .ok (.iload_n 3, 1) := by decide +kernel
theorem d_Survey_goThrough_35 : decode b_Survey_goThrough 35 = .ok (.invokestatic 107, 3) := by decide +kernel
theorem d_Survey_goThrough_38 : decode b_Survey_goThrough 38 = .ok (.iadd, 1) := by decide +kernel
theorem d_Survey_goThrough_39 : decode b_Survey_goThrough 39 = .ok (.istore 5, 2) := by decide +kernel
theorem d_Survey_goThrough_41 : decode b_Survey_goThrough 41 = .ok (.iload 4, 2) := by decide +kernel
theorem d_Survey_goThrough_43 : decode b_Survey_goThrough 43 = .ok (.ifCond .lt 10, 3) := by decide +kernel
theorem d_Survey_goThrough_46 : decode b_Survey_goThrough 46 = .ok (.iload 5, 2) := by decide +kernel
theorem d_Survey_goThrough_48 : decode b_Survey_goThrough 48 = .ok (.bipush 8, 2) := by decide +kernel
theorem d_Survey_goThrough_50 : decode b_Survey_goThrough 50 = .ok (.if_icmp .le 10, 3) := by decide +kernel
theorem d_Survey_goThrough_53 : decode b_Survey_goThrough 53 = .ok (.bipush 7, 2) := by decide +kernel
theorem d_Survey_goThrough_55 : decode b_Survey_goThrough 55 = .ok (.iload_n 2, 1) := by decide +kernel
theorem d_Survey_goThrough_56 : decode b_Survey_goThrough 56 = .ok (.invokestatic 30, 3) := by decide +kernel
theorem d_Survey_goThrough_59 : decode b_Survey_goThrough 59 = .ok (.ireturn, 1) := by decide +kernel
theorem d_Survey_goThrough_60 : decode b_Survey_goThrough 60 = .ok (.iload_n 3, 1) := by decide +kernel
theorem d_Survey_goThrough_61 : decode b_Survey_goThrough 61 = .ok (.invokestatic 74, 3) := by decide +kernel
theorem d_Survey_goThrough_64 : decode b_Survey_goThrough 64 = .ok (.ifCond .eq 5, 3) := by decide +kernel
theorem d_Survey_goThrough_67 : decode b_Survey_goThrough 67 = .ok (.iconst 0, 1) := by decide +kernel
theorem d_Survey_goThrough_68 : decode b_Survey_goThrough 68 = .ok (.ireturn, 1) := by decide +kernel
theorem d_Survey_goThrough_69 : decode b_Survey_goThrough 69 = .ok (.iload_n 2, 1) := by decide +kernel
theorem d_Survey_goThrough_70 : decode b_Survey_goThrough 70 = .ok (.iload_n 3, 1) := by decide +kernel
theorem d_Survey_goThrough_71 : decode b_Survey_goThrough 71 = .ok (.invokestatic 70, 3) := by decide +kernel
theorem d_Survey_goThrough_74 : decode b_Survey_goThrough 74 = .ok (.ifCond .eq 7, 3) := by decide +kernel
theorem d_Survey_goThrough_77 : decode b_Survey_goThrough 77 = .ok (.iconst 2, 1) := by decide +kernel
theorem d_Survey_goThrough_78 : decode b_Survey_goThrough 78 = .ok (.goto 4, 3) := by decide +kernel
theorem d_Survey_goThrough_81 : decode b_Survey_goThrough 81 = .ok (.iconst 1, 1) := by decide +kernel
theorem d_Survey_goThrough_82 : decode b_Survey_goThrough 82 = .ok (.iadd, 1) := by decide +kernel
theorem d_Survey_goThrough_83 : decode b_Survey_goThrough 83 = .ok (.istore 6, 2) := by decide +kernel
theorem d_Survey_goThrough_85 : decode b_Survey_goThrough 85 = .ok (.iload_n 3, 1) := by decide +kernel
theorem d_Survey_goThrough_86 : decode b_Survey_goThrough 86 = .ok (.invokestatic 91, 3) := by decide +kernel
theorem d_Survey_goThrough_89 : decode b_Survey_goThrough 89 = .ok (.ifCond .ne 12, 3) := by decide +kernel
theorem d_Survey_goThrough_92 : decode b_Survey_goThrough 92 = .ok (.aload_n 0, 1) := by decide +kernel
theorem d_Survey_goThrough_93 : decode b_Survey_goThrough 93 = .ok (.iload 6, 2) := by decide +kernel
theorem d_Survey_goThrough_95 : decode b_Survey_goThrough 95 = .ok (.iload 5, 2) := by decide +kernel
theorem d_Survey_goThrough_97 : decode b_Survey_goThrough 97 = .ok (.invokevirtual 94, 3) := by decide +kernel
theorem d_Survey_goThrough_100 : decode b_Survey_goThrough 100 = .ok (.ireturn, 1) := by decide +kernel
theorem d_Survey_goThrough_101 : decode b_Survey_goThrough 101 = .ok (.aload_n 1, 1) := by decide +kernel
theorem d_Survey_goThrough_102 : decode b_Survey_goThrough 102 = .ok (.iload_n 2, 1) := by decide +kernel
theorem d_Survey_goThrough_103 : decode b_Survey_goThrough 103 = .ok (.iconst 1, 1) := by decide +kernel
theorem d_Survey_goThrough_104 : decode b_Survey_goThrough 104 = .ok (.iadd, 1) := by decide +kernel
theorem d_Survey_goThrough_105 : decode b_Survey_goThrough 105 = .ok (.iconst (-1), 1) := by decide +kernel
theorem d_Survey_goThrough_106 : decode b_Survey_goThrough 106 = .ok (.invokevirtual 67, 3) := by decide +kernel
theorem d_Survey_goThrough_109 : decode b_Survey_goThrough 109 = .ok (.istore 7, 2) := by decide +kernel
theorem d_Survey_goThrough_111 : decode b_Survey_goThrough 111 = .ok (.iload_n 3, 1) := by decide +kernel
theorem d_Survey_goThrough_112 : decode b_Survey_goThrough 112 = .ok (.bipush 16, 2) := by decide +kernel
theorem d_Survey_goThrough_114 : decode b_Survey_goThrough 114 = .ok (.if_icmp .ne 12, 3) := by decide +kernel
theorem d_Survey_goThrough_117 : decode b_Survey_goThrough 117 = .ok (.aload_n 0, 1) := by decide +kernel
theorem d_Survey_goThrough_118 : decode b_Survey_goThrough 118 = .ok (.iload 7, 2) := by decide +kernel
theorem d_Survey_goThrough_120 : decode b_Survey_goThrough 120 = .ok (.iload 5, 2) := by decide +kernel
theorem d_Survey_goThrough_122 : decode b_Survey_goThrough 122 = .ok (.invokevirtual 94, 3) := by decide +kernel
theorem d_Survey_goThrough_125 : decode b_Survey_goThrough 125 = .ok (.ireturn, 1) := by decide +kernel
theorem d_Survey_goThrough_126 : decode b_Survey_goThrough 126 = .ok (.aload_n 0, 1) := by decide +kernel
theorem d_Survey_goThrough_127 : decode b_Survey_goThrough 127 = .ok (.iload 6, 2) := by decide +kernel
theorem d_Survey_goThrough_129 : decode b_Survey_goThrough 129 = .ok (.iload 7, 2) := by decide +kernel
theorem d_Survey_goThrough_131 : decode b_Survey_goThrough 131 = .ok (.invokestatic 110, 3) := by decide +kernel
theorem d_Survey_goThrough_134 : decode b_Survey_goThrough 134 = .ok (.iload 5, 2) := by decide +kernel
theorem d_Survey_goThrough_136 : decode b_Survey_goThrough 136 = .ok (.invokevirtual 94, 3) := by decide +kernel
theorem d_Survey_goThrough_139 : decode b_Survey_goThrough 139 = .ok (.istore 8, 2) := by decide +kernel
theorem d_Survey_goThrough_141 : decode b_Survey_goThrough 141 = .ok (.iload 8, 2) := by decide +kernel
theorem d_Survey_goThrough_143 : decode b_Survey_goThrough 143 = .ok (.ifCond .eq 8, 3) := by decide +kernel
theorem d_Survey_goThrough_146 : decode b_Survey_goThrough 146 = .ok (.iload 8, 2) := by decide +kernel
theorem d_Survey_goThrough_148 : decode b_Survey_goThrough 148 = .ok (.goto 16, 3) := by decide +kernel
theorem d_Survey_goThrough_151 : decode b_Survey_goThrough 151 = .ok (.aload_n 0, 1) := by decide +kernel
theorem d_Survey_goThrough_152 : decode b_Survey_goThrough 152 = .ok (.iload 6, 2) := by decide +kernel
theorem d_Survey_goThrough_154 : decode b_Survey_goThrough 154 = .ok (.iload 7, 2) := by decide +kernel
theorem d_Survey_goThrough_156 : decode b_Survey_goThrough 156 = .ok (.invokestatic 115, 3) := by decide +kernel
theorem d_Survey_goThrough_159 : decode b_Survey_goThrough 159 = .ok (.iload 5, 2) := by decide +kernel
theorem d_Survey_goThrough_161 : decode b_Survey_goThrough 161 = .ok (.invokevirtual 94, 3) := by decide +kernel
theorem d_Survey_goThrough_164 : decode b_Survey_goThrough 164 = .ok (.ireturn, 1) := by decide +kernel
theorem d_Survey_comeTo_0 : decode b_Survey_comeTo 0 = .ok (.aload_n 0, 1) := by decide +kernel
theorem d_Survey_comeTo_1 : decode b_Survey_comeTo 1 = .ok (.getfield 20, 3) := by decide +kernel
theorem d_Survey_comeTo_4 : decode b_Survey_comeTo 4 = .ok (.iload_n 1, 1) := by decide +kernel
theorem d_Survey_comeTo_5 : decode b_Survey_comeTo 5 = .ok (.iconst (-1), 1) := by decide +kernel
theorem d_Survey_comeTo_6 : decode b_Survey_comeTo 6 = .ok (.invokevirtual 67, 3) := by decide +kernel
theorem d_Survey_comeTo_9 : decode b_Survey_comeTo 9 = .ok (.istore_n 3, 1) := by decide +kernel
theorem d_Survey_comeTo_10 : decode b_Survey_comeTo 10 = .ok (.iload_n 3, 1) := by decide +kernel
theorem d_Survey_comeTo_11 : decode b_Survey_comeTo 11 = .ok (.iconst (-1), 1) := by decide +kernel
theorem d_Survey_comeTo_12 : decode b_Survey_comeTo 12 = .ok (.if_icmp .ne 35, 3) := by decide +kernel
theorem d_Survey_comeTo_15 : decode b_Survey_comeTo 15 = .ok (.aload_n 0, 1) := by decide +kernel
theorem d_Survey_comeTo_16 : decode b_Survey_comeTo 16 = .ok (.getfield 20, 3) := by decide +kernel
theorem d_Survey_comeTo_19 : decode b_Survey_comeTo 19 = .ok (.iload_n 1, 1) := by decide +kernel
theorem d_Survey_comeTo_20 : decode b_Survey_comeTo 20 = .ok (.iload_n 2, 1) := by decide +kernel
theorem d_Survey_comeTo_21 : decode b_Survey_comeTo 21 = .ok (.invokevirtual 64, 3) := by decide +kernel
theorem d_Survey_comeTo_24 : decode b_Survey_comeTo 24 = .ok (.aload_n 0, 1) := by decide +kernel
theorem d_Survey_comeTo_25 : decode b_Survey_comeTo 25 = .ok (.getfield 23, 3) := by decide +kernel
theorem d_Survey_comeTo_28 : decode b_Survey_comeTo 28 = .ok (.iload_n 1, 1) := by decide +kernel
theorem d_Survey_comeTo_29 : decode b_Survey_comeTo 29 = .ok (.iconst 1, 1) := by decide +kernel
theorem d_Survey_comeTo_30 : decode b_Survey_comeTo 30 = .ok (.invokevirtual 64, 3) := by decide +kernel
theorem d_Survey_comeTo_33 : decode b_Survey_comeTo 33 = .ok (.aload_n 0, 1) := by decide +kernel
theorem d_Survey_comeTo_34 : decode b_Survey_comeTo 34 = .ok (.aload_n 0, 1) := by decide +kernel
theorem d_Survey_comeTo_35 : decode b_Survey_comeTo 35 = .ok (.getfield 57, 3) := by decide +kernel
theorem d_Survey_comeTo_38 : decode b_Survey_comeTo 38 = .ok (.iload_n 1, 1) := by decide +kernel
theorem d_Survey_comeTo_39 : decode b_Survey_comeTo 39 = .ok (.invokestatic 110, 3) := by decide +kernel
theorem d_Survey_comeTo_42 : decode b_Survey_comeTo 42 = .ok (.putfield 57, 3) := by decide +kernel
theorem d_Survey_comeTo_45 : decode b_Survey_comeTo 45 = .ok (.iconst 0, 1) := by decide +kernel
theorem d_Survey_comeTo_46 : decode b_Survey_comeTo 46 = .ok (.ireturn, 1) := by decide +kernel
theorem d_Survey_comeTo_47 : decode b_Survey_comeTo 47 = .ok (.iload_n 3, 1) := by decide +kernel
theorem d_Survey_comeTo_48 : decode b_Survey_comeTo 48 = .ok (.iload_n 2, 1) := by decide +kernel
theorem d_Survey_comeTo_49 : decode b_Survey_comeTo 49 = .ok (.if_icmp .ne 7, 3) := by decide +kernel
theorem d_Survey_comeTo_52 : decode b_Survey_comeTo 52 = .ok (.iconst 0, 1) := by decide +kernel
theorem d_Survey_comeTo_53 : decode b_Survey_comeTo 53 = .ok (.goto 9, 3) := by decide +kernel
theorem d_Survey_comeTo_56 : decode b_Survey_comeTo 56 = .ok (.bipush 8, 2) := by decide +kernel
theorem d_Survey_comeTo_58 : decode b_Survey_comeTo 58 = .ok (.iload_n 1, 1) := by decide +kernel
theorem d_Survey_comeTo_59 : decode b_Survey_comeTo 59 = .ok (.invokestatic 30, 3) := by decide +kernel
theorem d_Survey_comeTo_62 : decode b_Survey_comeTo 62 = .ok (.ireturn, 1) := by decide +kernel

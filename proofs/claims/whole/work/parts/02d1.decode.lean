theorem d_Yard_init_0 : decode b_Yard_init 0 = .ok (.aload_n 0, 1) := by decide +kernel
theorem d_Yard_init_1 : decode b_Yard_init 1 = .ok (.invokespecial 1, 3) := by decide +kernel
theorem d_Yard_init_4 : decode b_Yard_init 4 = .ok (.aload_n 0, 1) := by decide +kernel
theorem d_Yard_init_5 : decode b_Yard_init 5 = .ok (.new 7, 3) := by decide +kernel
theorem d_Yard_init_8 : decode b_Yard_init 8 = .ok (.dup, 1) := by decide +kernel
theorem d_Yard_init_9 : decode b_Yard_init 9 = .ok (.sipush 300, 3) := by decide +kernel
theorem d_Yard_init_12 : decode b_Yard_init 12 = .ok (.invokespecial 11, 3) := by decide +kernel
theorem d_Yard_init_15 : decode b_Yard_init 15 = .ok (.putfield 14, 3) := by decide +kernel
theorem d_Yard_init_18 : decode b_Yard_init 18 = .ok (.aload_n 0, 1) := by decide +kernel
theorem d_Yard_init_19 : decode b_Yard_init 19 = .ok (.new 18, 3) := by decide +kernel
theorem d_Yard_init_22 : decode b_Yard_init 22 = .ok (.dup, 1) := by decide +kernel
theorem d_Yard_init_23 : decode b_Yard_init 23 = .ok (.invokespecial 20, 3) := by decide +kernel
theorem d_Yard_init_26 : decode b_Yard_init 26 = .ok (.putfield 21, 3) := by decide +kernel
theorem d_Yard_init_29 : decode b_Yard_init 29 = .ok (.aload_n 0, 1) := by decide +kernel
theorem d_Yard_init_30 : decode b_Yard_init 30 = .ok (.new 25, 3) := by decide +kernel
theorem d_Yard_init_33 : decode b_Yard_init 33 = .ok (.dup, 1) := by decide +kernel
theorem d_Yard_init_34 : decode b_Yard_init 34 = .ok (.invokespecial 27, 3) := by decide +kernel
theorem d_Yard_init_37 : decode b_Yard_init 37 = .ok (.putfield 28, 3) := by decide +kernel
theorem d_Yard_init_40 : decode b_Yard_init 40 = .ok (.aload_n 0, 1) := by decide +kernel
theorem d_Yard_init_41 : decode b_Yard_init 41 = .ok (.new 32, 3) := by decide +kernel
theorem d_Yard_init_44 : decode b_Yard_init 44 = .ok (.dup, 1) := by decide +kernel
theorem d_Yard_init_45 : decode b_Yard_init 45 = .ok (.aload_n 0, 1) := by decide +kernel
theorem d_Yard_init_46 : decode b_Yard_init 46 = .ok (.getfield 21, 3) := by decide +kernel
theorem d_Yard_init_49 : decode b_Yard_init 49 = .ok (.invokespecial 34, 3) := by decide +kernel
theorem d_Yard_init_52 : decode b_Yard_init 52 = .ok (.putfield 37, 3) := by decide +kernel
theorem d_Yard_init_55 : decode b_Yard_init 55 = .ok (.return_, 1) := by decide +kernel
theorem d_Yard_feed_0 : decode b_Yard_feed 0 = .ok (.aload_n 0, 1) := by decide +kernel
theorem d_Yard_feed_1 : decode b_Yard_feed 1 = .ok (.getfield 14, 3) := by decide +kernel
theorem d_Yard_feed_4 : decode b_Yard_feed 4 = .ok (.getfield 41, 3) := by decide +kernel
theorem d_Yard_feed_7 : decode b_Yard_feed 7 = .ok (.bipush 20, 2) := by decide +kernel
theorem d_Yard_feed_9 : decode b_Yard_feed 9 = .ok (.iadd, 1) := by decide +kernel
theorem d_Yard_feed_10 : decode b_Yard_feed 10 = .ok (.sipush 300, 3) := by decide +kernel
theorem d_Yard_feed_13 : decode b_Yard_feed 13 = .ok (.if_icmp .le 5, 3) := by decide +kernel
theorem d_Yard_feed_16 : decode b_Yard_feed 16 = .ok (.iconst (-1), 1) := by decide +kernel
theorem d_Yard_feed_17 : decode b_Yard_feed 17 = .ok (.ireturn, 1) := by decide +kernel
theorem d_Yard_feed_18 : decode b_Yard_feed 18 = .ok (.aload_n 0, 1) := by decide +kernel
theorem d_Yard_feed_19 : decode b_Yard_feed 19 = .ok (.iload_n 1, 1) := by decide +kernel
theorem d_Yard_feed_20 : decode b_Yard_feed 20 = .ok (.invokevirtual 45, 3) := by decide +kernel
theorem d_Yard_feed_23 : decode b_Yard_feed 23 = .ok (.aload_n 0, 1) := by decide +kernel
theorem d_Yard_feed_24 : decode b_Yard_feed 24 = .ok (.iload_n 2, 1) := by decide +kernel
theorem d_Yard_feed_25 : decode b_Yard_feed 25 = .ok (.invokevirtual 45, 3) := by decide +kernel
theorem d_Yard_feed_28 : decode b_Yard_feed 28 = .ok (.aload_n 0, 1) := by decide +kernel
theorem d_Yard_feed_29 : decode b_Yard_feed 29 = .ok (.iload_n 3, 1) := by decide +kernel
theorem d_Yard_feed_30 : decode b_Yard_feed 30 = .ok (.invokevirtual 45, 3) := by decide +kernel
theorem d_Yard_feed_33 : decode b_Yard_feed 33 = .ok (.aload_n 0, 1) := by decide +kernel
theorem d_Yard_feed_34 : decode b_Yard_feed 34 = .ok (.iload 4, 2) := by decide +kernel
theorem d_Yard_feed_36 : decode b_Yard_feed 36 = .ok (.invokevirtual 45, 3) := by decide +kernel
theorem d_Yard_feed_39 : decode b_Yard_feed 39 = .ok (.aload_n 0, 1) := by decide +kernel
theorem d_Yard_feed_40 : decode b_Yard_feed 40 = .ok (.iload 5, 2) := by decide +kernel
theorem d_Yard_feed_42 : decode b_Yard_feed 42 = .ok (.invokevirtual 45, 3) := by decide +kernel
theorem d_Yard_feed_45 : decode b_Yard_feed 45 = .ok (.aload_n 0, 1) := by decide +kernel
theorem d_Yard_feed_46 : decode b_Yard_feed 46 = .ok (.getfield 14, 3) := by decide +kernel
theorem d_Yard_feed_49 : decode b_Yard_feed 49 = .ok (.getfield 41, 3) := by decide +kernel
theorem d_Yard_feed_52 : decode b_Yard_feed 52 = .ok (.ireturn, 1) := by decide +kernel
theorem d_Yard_addBytes_0 : decode b_Yard_addBytes 0 = .ok (.bipush 24, 2) := by decide +kernel
theorem d_Yard_addBytes_2 : decode b_Yard_addBytes 2 = .ok (.istore_n 2, 1) := by decide +kernel
theorem d_Yard_addBytes_3 : decode b_Yard_addBytes 3 = .ok (.iload_n 2, 1) := by decide +kernel
theorem d_Yard_addBytes_4 : decode b_Yard_addBytes 4 = .ok (.ifCond .lt 23, 3) := by decide +kernel
theorem d_Yard_addBytes_7 : decode b_Yard_addBytes 7 = .ok (.aload_n 0, 1) := by decide +kernel
theorem d_Yard_addBytes_8 : decode b_Yard_addBytes 8 = .ok (.getfield 14, 3) := by decide +kernel
theorem d_Yard_addBytes_11 : decode b_Yard_addBytes 11 = .ok (.iload_n 1, 1) := by decide +kernel
theorem d_Yard_addBytes_12 : decode b_Yard_addBytes 12 = .ok (.iload_n 2, 1) := by decide +kernel
theorem d_Yard_addBytes_13 : decode b_Yard_addBytes 13 = .ok (.iushr, 1) := by decide +kernel
theorem d_Yard_addBytes_14 : decode b_Yard_addBytes 14 = .ok (.sipush 255, 3) := by decide +kernel
theorem d_Yard_addBytes_17 : decode b_Yard_addBytes 17 = .ok (.iand, 1) := by decide +kernel
theorem d_Yard_addBytes_18 : decode b_Yard_addBytes 18 = .ok (.invokevirtual 48, 3) := by decide +kernel
theorem d_Yard_addBytes_21 : decode b_Yard_addBytes 21 = .ok (.iinc 2 (-8), 3) := by decide +kernel
theorem d_Yard_addBytes_24 : decode b_Yard_addBytes 24 = .ok (.goto (-21), 3) := by decide +kernel
theorem d_Yard_addBytes_27 : decode b_Yard_addBytes 27 = .ok (.return_, 1) := by decide +kernel
theorem d_Yard_end_0 : decode b_Yard_end 0 = .ok (.iload_n 1, 1) := by decide +kernel
theorem d_Yard_end_1 : decode b_Yard_end 1 = .ok (.ifCond .lt 14, 3) := by decide +kernel
theorem d_Yard_end_4 : decode b_Yard_end 4 = .ok (.iload_n 1, 1) := by decide +kernel
theorem d_Yard_end_5 : decode b_Yard_end 5 = .ok (.aload_n 0, 1) := by decide +kernel
theorem d_Yard_end_6 : decode b_Yard_end 6 = .ok (.getfield 14, 3) := by decide +kernel
theorem d_Yard_end_9 : decode b_Yard_end 9 = .ok (.getfield 41, 3) := by decide +kernel
theorem d_Yard_end_12 : decode b_Yard_end 12 = .ok (.if_icmp .le 5, 3) := by decide +kernel
theorem d_Yard_end_15 : decode b_Yard_end 15 = .ok (.iconst (-1), 1) := by decide +kernel
theorem d_Yard_end_16 : decode b_Yard_end 16 = .ok (.ireturn, 1) := by decide +kernel
theorem d_Yard_end_17 : decode b_Yard_end 17 = .ok (.aload_n 0, 1) := by decide +kernel
theorem d_Yard_end_18 : decode b_Yard_end 18 = .ok (.getfield 14, 3) := by decide +kernel
theorem d_Yard_end_21 : decode b_Yard_end 21 = .ok (.iload_n 1, 1) := by decide +kernel
theorem d_Yard_end_22 : decode b_Yard_end 22 = .ok (.invokevirtual 51, 3) := by decide +kernel
theorem d_Yard_end_25 : decode b_Yard_end 25 = .ok (.iload_n 1, 1) := by decide +kernel
theorem d_Yard_end_26 : decode b_Yard_end 26 = .ok (.ireturn, 1) := by decide +kernel
theorem d_Yard_poke_0 : decode b_Yard_poke 0 = .ok (.aload_n 0, 1) := by decide +kernel
theorem d_Yard_poke_1 : decode b_Yard_poke 1 = .ok (.getfield 14, 3) := by decide +kernel
theorem d_Yard_poke_4 : decode b_Yard_poke 4 = .ok (.iload_n 1, 1) := by decide +kernel
theorem d_Yard_poke_5 : decode b_Yard_poke 5 = .ok (.iconst (-1), 1) := by decide +kernel
theorem d_Yard_poke_6 : decode b_Yard_poke 6 = .ok (.invokevirtual 54, 3) := by decide +kernel
theorem d_Yard_poke_9 : decode b_Yard_poke 9 = .ok (.istore_n 3, 1) := by decide +kernel
theorem d_Yard_poke_10 : decode b_Yard_poke 10 = .ok (.aload_n 0, 1) := by decide +kernel
theorem d_Yard_poke_11 : decode b_Yard_poke 11 = .ok (.getfield 14, 3) := by decide +kernel
theorem d_Yard_poke_14 : decode b_Yard_poke 14 = .ok (.iload_n 1, 1) := by decide +kernel
theorem d_Yard_poke_15 : decode b_Yard_poke 15 = .ok (.iload_n 2, 1) := by decide +kernel
theorem d_Yard_poke_16 : decode b_Yard_poke 16 = .ok (.sipush 255, 3) := by decide +kernel
theorem d_Yard_poke_19 : decode b_Yard_poke 19 = .ok (.iand, 1) := by decide +kernel
theorem d_Yard_poke_20 : decode b_Yard_poke 20 = .ok (.invokevirtual 58, 3) := by decide +kernel
theorem d_Yard_poke_23 : decode b_Yard_poke 23 = .ok (.iload_n 3, 1) := by decide +kernel
theorem d_Yard_poke_24 : decode b_Yard_poke 24 = .ok (.ireturn, 1) := by decide +kernel
theorem d_Yard_load_0 : decode b_Yard_load 0 = .ok (.aload_n 0, 1) := by decide +kernel
theorem d_Yard_load_1 : decode b_Yard_load 1 = .ok (.getfield 21, 3) := by decide +kernel
theorem d_Yard_load_4 : decode b_Yard_load 4 = .ok (.iload_n 1, 1) := by decide +kernel
theorem d_Yard_load_5 : decode b_Yard_load 5 = .ok (.invokevirtual 62, 3) := by decide +kernel
theorem d_Yard_load_8 : decode b_Yard_load 8 = .ok (.astore_n 2, 1) := by decide +kernel
theorem d_Yard_load_9 : decode b_Yard_load 9 = .ok (.aload_n 2, 1) := by decide +kernel
theorem d_Yard_load_10 : decode b_Yard_load 10 = .ok (.ifnull 13, 3) := by decide +kernel
theorem d_Yard_load_13 : decode b_Yard_load 13 = .ok (.aload_n 0, 1) := by decide +kernel
theorem d_Yard_load_14 : decode b_Yard_load 14 = .ok (.getfield 37, 3) := by decide +kernel
theorem d_Yard_load_17 : decode b_Yard_load 17 = .ok (.invokevirtual 66, 3) := by decide +kernel
theorem d_Yard_load_20 : decode b_Yard_load 20 = .ok (.ifCond .eq 5, 3) := by decide +kernel
theorem d_Yard_load_23 : decode b_Yard_load 23 = .ok (.iconst (-1), 1) := by decide +kernel
theorem d_Yard_load_24 : decode b_Yard_load 24 = .ok (.ireturn, 1) := by decide +kernel
theorem d_Yard_load_25 : decode b_Yard_load 25 = .ok (.aload_n 0, 1) := by decide +kernel
theorem d_Yard_load_26 : decode b_Yard_load 26 = .ok (.getfield 28, 3) := by decide +kernel
theorem d_Yard_load_29 : decode b_Yard_load 29 = .ok (.aload_n 0, 1) := by decide +kernel
theorem d_Yard_load_30 : decode b_Yard_load 30 = .ok (.getfield 14, 3) := by decide +kernel
theorem d_Yard_load_33 : decode b_Yard_load 33 = .ok (.invokevirtual 70, 3) := by decide +kernel
theorem d_Yard_load_36 : decode b_Yard_load 36 = .ok (.istore_n 3, 1) := by decide +kernel
theorem d_Yard_load_37 : decode b_Yard_load 37 = .ok (.iload_n 3, 1) := by decide +kernel
theorem d_Yard_load_38 : decode b_Yard_load 38 = .ok (.ifCond .ne 18, 3) := by decide +kernel
theorem d_Yard_load_41 : decode b_Yard_load 41 = .ok (.aload_n 2, 1) := by decide +kernel
theorem d_Yard_load_42 : decode b_Yard_load 42 = .ok (.aload_n 0, 1) := by decide +kernel
theorem d_Yard_load_43 : decode b_Yard_load 43 = .ok (.getfield 14, 3) := by decide +kernel
theorem d_Yard_load_46 : decode b_Yard_load 46 = .ok (.aload_n 0, 1) := by decide +kernel
theorem d_Yard_load_47 : decode b_Yard_load 47 = .ok (.getfield 28, 3) := by decide +kernel
theorem d_Yard_load_50 : decode b_Yard_load 50 = .ok (.getfield 74, 3) := by decide +kernel
theorem d_Yard_load_53 : decode b_Yard_load 53 = .ok (.invokevirtual 77, 3) := by decide +kernel
theorem d_Yard_load_56 : decode b_Yard_load 56 = .ok (.aload_n 0, 1) := by decide +kernel
theorem d_Yard_load_57 : decode b_Yard_load 57 = .ok (.getfield 14, 3) := by decide +kernel
theorem d_Yard_load_60 : decode b_Yard_load 60 = .ok (.iconst 0, 1) := by decide +kernel
theorem d_Yard_load_61 : decode b_Yard_load 61 = .ok (.invokevirtual 51, 3) := by decide +kernel
theorem d_Yard_load_64 : decode b_Yard_load 64 = .ok (.iload_n 3, 1) := by decide +kernel
theorem d_Yard_load_65 : decode b_Yard_load 65 = .ok (.ifCond .ne 13, 3) := by decide +kernel
theorem d_Yard_load_68 : decode b_Yard_load 68 = .ok (.aload_n 0, 1) := by decide +kernel
theorem d_Yard_load_69 : decode b_Yard_load 69 = .ok (.getfield 28, 3) := by decide +kernel
theorem d_Yard_load_72 : decode b_Yard_load 72 = .ok (.getfield 83, 3) := by decide +kernel
theorem d_Yard_load_75 : decode b_Yard_load 75 = .ok (.goto 4, 3) := by decide +kernel
theorem d_Yard_load_78 : decode b_Yard_load 78 = .ok (.iload_n 3, 1) := by decide +kernel
theorem d_Yard_load_79 : decode b_Yard_load 79 = .ok (.ireturn, 1) := by decide +kernel
theorem d_Yard_begin_0 : decode b_Yard_begin 0 = .ok (.aload_n 0, 1) := by decide +kernel
theorem d_Yard_begin_1 : decode b_Yard_begin 1 = .ok (.getfield 21, 3) := by decide +kernel
theorem d_Yard_begin_4 : decode b_Yard_begin 4 = .ok (.iload_n 1, 1) := by decide +kernel
theorem d_Yard_begin_5 : decode b_Yard_begin 5 = .ok (.invokevirtual 86, 3) := by decide +kernel
theorem d_Yard_begin_8 : decode b_Yard_begin 8 = .ok (.astore_n 3, 1) := by decide +kernel
theorem d_Yard_begin_9 : decode b_Yard_begin 9 = .ok (.aload_n 3, 1) := by decide +kernel
theorem d_Yard_begin_10 : decode b_Yard_begin 10 = .ok (.ifnull 12, 3) := by decide +kernel
theorem d_Yard_begin_13 : decode b_Yard_begin 13 = .ok (.iload_n 2, 1) := by decide +kernel
theorem d_Yard_begin_14 : decode b_Yard_begin 14 = .ok (.ifCond .lt 8, 3) := by decide +kernel
theorem d_Yard_begin_17 : decode b_Yard_begin 17 = .ok (.iload_n 2, 1) := by decide +kernel
theorem d_Yard_begin_18 : decode b_Yard_begin 18 = .ok (.iconst 3, 1) := by decide +kernel
theorem d_Yard_begin_19 : decode b_Yard_begin 19 = .ok (.if_icmp .lt 5, 3) := by decide +kernel
theorem d_Yard_begin_22 : decode b_Yard_begin 22 = .ok (.iconst (-1), 1) := by decide +kernel
theorem d_Yard_begin_23 : decode b_Yard_begin 23 = .ok (.ireturn, 1) := by decide +kernel
theorem d_Yard_begin_24 : decode b_Yard_begin 24 = .ok (.aload_n 0, 1) := by decide +kernel
theorem d_Yard_begin_25 : decode b_Yard_begin 25 = .ok (.getfield 37, 3) := by decide +kernel
theorem d_Yard_begin_28 : decode b_Yard_begin 28 = .ok (.aload_n 3, 1) := by decide +kernel
theorem d_Yard_begin_29 : decode b_Yard_begin 29 = .ok (.iload_n 2, 1) := by decide +kernel
theorem d_Yard_begin_30 : decode b_Yard_begin 30 = .ok (.aload_n 0, 1) := by decide +kernel
theorem d_Yard_begin_31 : decode b_Yard_begin 31 = .ok (.getfield 14, 3) := by decide +kernel
theorem d_Yard_begin_34 : decode b_Yard_begin 34 = .ok (.invokevirtual 89, 3) := by decide +kernel
theorem d_Yard_begin_37 : decode b_Yard_begin 37 = .ok (.aload_n 0, 1) := by decide +kernel
theorem d_Yard_begin_38 : decode b_Yard_begin 38 = .ok (.getfield 14, 3) := by decide +kernel
theorem d_Yard_begin_41 : decode b_Yard_begin 41 = .ok (.iconst 0, 1) := by decide +kernel
theorem d_Yard_begin_42 : decode b_Yard_begin 42 = .ok (.invokevirtual 51, 3) := by decide +kernel
theorem d_Yard_begin_45 : decode b_Yard_begin 45 = .ok (.iconst 1, 1) := by decide +kernel
theorem d_Yard_begin_46 : decode b_Yard_begin 46 = .ok (.ireturn, 1) := by decide +kernel
theorem d_Yard_go_0 : decode b_Yard_go 0 = .ok (.iload_n 1, 1) := by decide +kernel
theorem d_Yard_go_1 : decode b_Yard_go 1 = .ok (.ifCond .lt 20, 3) := by decide +kernel
theorem d_Yard_go_4 : decode b_Yard_go 4 = .ok (.iload_n 1, 1) := by decide +kernel
theorem d_Yard_go_5 : decode b_Yard_go 5 = .ok (.sipush 2001, 3) := by decide +kernel
theorem d_Yard_go_8 : decode b_Yard_go 8 = .ok (.if_icmp .gt 13, 3) := by decide +kernel
theorem d_Yard_go_11 : decode b_Yard_go 11 = .ok (.aload_n 0, 1) := by decide +kernel
theorem d_Yard_go_12 : decode b_Yard_go 12 = .ok (.getfield 37, 3) := by decide +kernel
theorem d_Yard_go_15 : decode b_Yard_go 15 = .ok (.invokevirtual 66, 3) := by decide +kernel
theorem d_Yard_go_18 : decode b_Yard_go 18 = .ok (.ifCond .ne 5, 3) := by decide +kernel
theorem d_Yard_go_21 : decode b_Yard_go 21 = .ok (.iconst (-1), 1) := by decide +kernel
theorem d_Yard_go_22 : decode b_Yard_go 22 = .ok (.ireturn, 1) := by decide +kernel
theorem d_Yard_go_23 : decode b_Yard_go 23 = .ok (.aload_n 0, 1) := by decide +kernel
theorem d_Yard_go_24 : decode b_Yard_go 24 = .ok (.getfield 37, 3) := by decide +kernel
theorem d_Yard_go_27 : decode b_Yard_go 27 = .ok (.iload_n 1, 1) := by decide +kernel
theorem d_Yard_go_28 : decode b_Yard_go 28 = .ok (.invokevirtual 93, 3) := by decide +kernel
theorem d_Yard_go_31 : decode b_Yard_go 31 = .ok (.ireturn, 1) := by decide +kernel
theorem d_Yard_state_0 : decode b_Yard_state 0 = .ok (.aload_n 0, 1) := by decide +kernel
theorem d_Yard_state_1 : decode b_Yard_state 1 = .ok (.getfield 37, 3) := by decide +kernel
theorem d_Yard_state_4 : decode b_Yard_state 4 = .ok (.iload_n 1, 1) := by decide +kernel
theorem d_Yard_state_5 : decode b_Yard_state 5 = .ok (.invokevirtual 97, 3) := by decide +kernel
theorem d_Yard_state_8 : decode b_Yard_state 8 = .ok (.ireturn, 1) := by decide +kernel
theorem d_Yard_stack_0 : decode b_Yard_stack 0 = .ok (.aload_n 0, 1) := by decide +kernel
theorem d_Yard_stack_1 : decode b_Yard_stack 1 = .ok (.getfield 37, 3) := by decide +kernel
theorem d_Yard_stack_4 : decode b_Yard_stack 4 = .ok (.invokevirtual 66, 3) := by decide +kernel
theorem d_Yard_stack_7 : decode b_Yard_stack 7 = .ok (.ifCond .eq 21, 3) := by decide +kernel
theorem d_Yard_stack_10 : decode b_Yard_stack 10 = .ok (.aload_n 0, 1) := by decide +kernel
theorem d_Yard_stack_11 : decode b_Yard_stack 11 = .ok (.getfield 37, 3) := by decide +kernel
theorem d_Yard_stack_14 : decode b_Yard_stack 14 = .ok (.getfield 100, 3) := by decide +kernel
theorem d_Yard_stack_17 : decode b_Yard_stack 17 = .ok (.getfield 104, 3) := by decide +kernel
theorem d_Yard_stack_20 : decode b_Yard_stack 20 = .ok (.iload_n 1, 1) := by decide +kernel
theorem d_Yard_stack_21 : decode b_Yard_stack 21 = .ok (.iconst 0, 1) := by decide +kernel
theorem d_Yard_stack_22 : decode b_Yard_stack 22 = .ok (.invokevirtual 54, 3) := by decide +kernel
theorem d_Yard_stack_25 : decode b_Yard_stack 25 = .ok (.goto 4, 3) := by decide +kernel
theorem d_Yard_stack_28 : decode b_Yard_stack 28 = .ok (.iconst 0, 1) := by decide +kernel
theorem d_Yard_stack_29 : decode b_Yard_stack 29 = .ok (.ireturn, 1) := by decide +kernel
theorem d_Yard_local_0 : decode b_Yard_local 0 = .ok (.aload_n 0, 1) := by decide +kernel
theorem d_Yard_local_1 : decode b_Yard_local 1 = .ok (.getfield 37, 3) := by decide +kernel
theorem d_Yard_local_4 : decode b_Yard_local 4 = .ok (.invokevirtual 66, 3) := by decide +kernel
theorem d_Yard_local_7 : decode b_Yard_local 7 = .ok (.ifCond .eq 21, 3) := by decide +kernel
theorem d_Yard_local_10 : decode b_Yard_local 10 = .ok (.aload_n 0, 1) := by decide +kernel
theorem d_Yard_local_11 : decode b_Yard_local 11 = .ok (.getfield 37, 3) := by decide +kernel
theorem d_Yard_local_14 : decode b_Yard_local 14 = .ok (.getfield 100, 3) := by decide +kernel
theorem d_Yard_local_17 : decode b_Yard_local 17 = .ok (.getfield 109, 3) := by decide +kernel
theorem d_Yard_local_20 : decode b_Yard_local 20 = .ok (.iload_n 1, 1) := by decide +kernel
theorem d_Yard_local_21 : decode b_Yard_local 21 = .ok (.iconst 0, 1) := by decide +kernel
theorem d_Yard_local_22 : decode b_Yard_local 22 = .ok (.invokevirtual 54, 3) := by decide +kernel
theorem d_Yard_local_25 : decode b_Yard_local 25 = .ok (.goto 4, 3) := by decide +kernel
theorem d_Yard_local_28 : decode b_Yard_local 28 = .ok (.iconst 0, 1) := by decide +kernel
theorem d_Yard_local_29 : decode b_Yard_local 29 = .ok (.ireturn, 1) := by decide +kernel
theorem d_Yard_cell_0 : decode b_Yard_cell 0 = .ok (.aload_n 0, 1) := by decide +kernel
theorem d_Yard_cell_1 : decode b_Yard_cell 1 = .ok (.getfield 21, 3) := by decide +kernel
theorem d_Yard_cell_4 : decode b_Yard_cell 4 = .ok (.iload_n 1, 1) := by decide +kernel
theorem d_Yard_cell_5 : decode b_Yard_cell 5 = .ok (.invokevirtual 86, 3) := by decide +kernel
theorem d_Yard_cell_8 : decode b_Yard_cell 8 = .ok (.astore_n 3, 1) := by decide +kernel
theorem d_Yard_cell_9 : decode b_Yard_cell 9 = .ok (.aload_n 3, 1) := by decide +kernel
theorem d_Yard_cell_10 : decode b_Yard_cell 10 = .ok (.ifnonnull 7, 3) := by decide +kernel
theorem d_Yard_cell_13 : decode b_Yard_cell 13 = .ok (.iconst 0, 1) := by decide +kernel
theorem d_Yard_cell_14 : decode b_Yard_cell 14 = .ok (.goto 12, 3) := by decide +kernel
theorem d_Yard_cell_17 : decode b_Yard_cell 17 = .ok (.aload_n 3, 1) := by decide +kernel
theorem d_Yard_cell_18 : decode b_Yard_cell 18 = .ok (.getfield 112, 3) := by decide +kernel
theorem d_Yard_cell_21 : decode b_Yard_cell 21 = .ok (.iload_n 2, 1) := by decide +kernel
theorem d_Yard_cell_22 : decode b_Yard_cell 22 = .ok (.iconst 0, 1) := by decide +kernel
theorem d_Yard_cell_23 : decode b_Yard_cell 23 = .ok (.invokevirtual 54, 3) := by decide +kernel
theorem d_Yard_cell_26 : decode b_Yard_cell 26 = .ok (.ireturn, 1) := by decide +kernel
theorem d_Yard_out_0 : decode b_Yard_out 0 = .ok (.aload_n 0, 1) := by decide +kernel
theorem d_Yard_out_1 : decode b_Yard_out 1 = .ok (.getfield 37, 3) := by decide +kernel
theorem d_Yard_out_4 : decode b_Yard_out 4 = .ok (.getfield 115, 3) := by decide +kernel
theorem d_Yard_out_7 : decode b_Yard_out 7 = .ok (.iload_n 1, 1) := by decide +kernel
theorem d_Yard_out_8 : decode b_Yard_out 8 = .ok (.iconst (-1), 1) := by decide +kernel
theorem d_Yard_out_9 : decode b_Yard_out 9 = .ok (.invokevirtual 54, 3) := by decide +kernel
theorem d_Yard_out_12 : decode b_Yard_out 12 = .ok (.ireturn, 1) := by decide +kernel
theorem d_Yard_height_0 : decode b_Yard_height 0 = .ok (.aload_n 0, 1) := by decide +kernel
theorem d_Yard_height_1 : decode b_Yard_height 1 = .ok (.getfield 21, 3) := by decide +kernel
theorem d_Yard_height_4 : decode b_Yard_height 4 = .ok (.iload_n 1, 1) := by decide +kernel
theorem d_Yard_height_5 : decode b_Yard_height 5 = .ok (.invokevirtual 86, 3) := by decide +kernel
theorem d_Yard_height_8 : decode b_Yard_height 8 = .ok (.astore_n 3, 1) := by decide +kernel
theorem d_Yard_height_9 : decode b_Yard_height 9 = .ok (.aload_n 3, 1) := by decide +kernel
theorem d_Yard_height_10 : decode b_Yard_height 10 = .ok (.ifnonnull 7, 3) := by decide +kernel
theorem d_Yard_height_13 : decode b_Yard_height 13 = .ok (.iconst (-1), 1) := by decide +kernel
theorem d_Yard_height_14 : decode b_Yard_height 14 = .ok (.goto 12, 3) := by decide +kernel
theorem d_Yard_height_17 : decode b_Yard_height 17 = .ok (.aload_n 3, 1) := by decide +kernel
theorem d_Yard_height_18 : decode b_Yard_height 18 = .ok (.getfield 118, 3) := by decide +kernel
theorem d_Yard_height_21 : decode b_Yard_height 21 = .ok (.iload_n 2, 1) := by decide +kernel
theorem d_Yard_height_22 : decode b_Yard_height 22 = .ok (.iconst (-1), 1) := by decide +kernel
theorem d_Yard_height_23 : decode b_Yard_height 23 = .ok (.invokevirtual 54, 3) := by decide +kernel
theorem d_Yard_height_26 : decode b_Yard_height 26 = .ok (.ireturn, 1) := by decide +kernel
theorem d_Yard_size_0 : decode b_Yard_size 0 = .ok (.aload_n 0, 1) := by decide +kernel
theorem d_Yard_size_1 : decode b_Yard_size 1 = .ok (.getfield 21, 3) := by decide +kernel
theorem d_Yard_size_4 : decode b_Yard_size 4 = .ok (.iload_n 1, 1) := by decide +kernel
theorem d_Yard_size_5 : decode b_Yard_size 5 = .ok (.invokevirtual 86, 3) := by decide +kernel
theorem d_Yard_size_8 : decode b_Yard_size 8 = .ok (.astore_n 2, 1) := by decide +kernel
theorem d_Yard_size_9 : decode b_Yard_size 9 = .ok (.aload_n 2, 1) := by decide +kernel
theorem d_Yard_size_10 : decode b_Yard_size 10 = .ok (.ifnonnull 7, 3) := by decide +kernel
theorem d_Yard_size_13 : decode b_Yard_size 13 = .ok (.iconst (-1), 1) := by decide +kernel
theorem d_Yard_size_14 : decode b_Yard_size 14 = .ok (.goto 10, 3) := by decide +kernel
theorem d_Yard_size_17 : decode b_Yard_size 17 = .ok (.aload_n 2, 1) := by decide +kernel
theorem d_Yard_size_18 : decode b_Yard_size 18 = .ok (.getfield 119, 3) := by decide +kernel
theorem d_Yard_size_21 : decode b_Yard_size 21 = .ok (.getfield 41, 3) := by decide +kernel
theorem d_Yard_size_24 : decode b_Yard_size 24 = .ok (.ireturn, 1) := by decide +kernel
theorem d_Yard_isInstruction_0 : decode b_Yard_isInstruction 0 = .ok (.iload_n 0, 1) := by decide +kernel
theorem d_Yard_isInstruction_1 : decode b_Yard_isInstruction 1 = .ok (.ifCond .lt 15, 3) := by decide +kernel
theorem d_Yard_isInstruction_4 : decode b_Yard_isInstruction 4 = .ok (.iload_n 0, 1) := by decide +kernel
theorem d_Yard_isInstruction_5 : decode b_Yard_isInstruction 5 = .ok (.getstatic 122, 3) := by decide +kernel
theorem d_Yard_isInstruction_8 : decode b_Yard_isInstruction 8 = .ok (.arraylength, 1) := by decide +kernel
theorem d_Yard_isInstruction_9 : decode b_Yard_isInstruction 9 = .ok (.if_icmp .ge 7, 3) := by decide +kernel
theorem d_Yard_isInstruction_12 : decode b_Yard_isInstruction 12 = .ok (.iconst 1, 1) := by decide +kernel
theorem d_Yard_isInstruction_13 : decode b_Yard_isInstruction 13 = .ok (.goto 4, 3) := by decide +kernel
theorem d_Yard_isInstruction_16 : decode b_Yard_isInstruction 16 = .ok (.iconst 0, 1) := by decide +kernel
theorem d_Yard_isInstruction_17 : decode b_Yard_isInstruction 17 = .ok (.ireturn, 1) := by decide +kernel
theorem d_Yard_operandMost_0 : decode b_Yard_operandMost 0 = .ok (.iload_n 0, 1) := by decide +kernel
theorem d_Yard_operandMost_1 : decode b_Yard_operandMost 1 = .ok (.invokestatic 126, 3) := by decide +kernel
theorem d_Yard_operandMost_4 : decode b_Yard_operandMost 4 = .ok (.ifCond .eq 11, 3) := by decide +kernel
theorem d_Yard_operandMost_7 : decode b_Yard_operandMost 7 = .ok (.getstatic 122, 3) := by decide +kernel
theorem d_Yard_operandMost_10 : decode b_Yard_operandMost 10 = .ok (.iload_n 0, 1) := by decide +kernel
theorem d_Yard_operandMost_11 : decode b_Yard_operandMost 11 = .ok (.iaload, 1) := by decide +kernel
theorem d_Yard_operandMost_12 : decode b_Yard_operandMost 12 = .ok (.goto 4, 3) := by decide +kernel
theorem d_Yard_operandMost_15 : decode b_Yard_operandMost 15 = .ok (.iconst (-1), 1) := by decide +kernel
theorem d_Yard_operandMost_16 : decode b_Yard_operandMost 16 = .ok (.ireturn, 1) := by decide +kernel
theorem d_Yard_hasOperand_0 : decode b_Yard_hasOperand 0 = .ok (.iload_n 0, 1) := by decide +kernel
theorem d_Yard_hasOperand_1 : decode b_Yard_hasOperand 1 = .ok (.invokestatic 130, 3) := by decide +kernel
theorem d_Yard_hasOperand_4 : decode b_Yard_hasOperand 4 = .ok (.iconst (-1), 1) := by decide +kernel
theorem d_Yard_hasOperand_5 : decode b_Yard_hasOperand 5 = .ok (.if_icmp .eq 7, 3) := by decide +kernel
theorem d_Yard_hasOperand_8 : decode b_Yard_hasOperand 8 = .ok (.iconst 1, 1) := by decide +kernel
theorem d_Yard_hasOperand_9 : decode b_Yard_hasOperand 9 = .ok (.goto 4, 3) := by decide +kernel
theorem d_Yard_hasOperand_12 : decode b_Yard_hasOperand 12 = .ok (.iconst 0, 1) := by decide +kernel
theorem d_Yard_hasOperand_13 : decode b_Yard_hasOperand 13 = .ok (.ireturn, 1) := by decide +kernel
theorem d_Yard_takes_0 : decode b_Yard_takes 0 = .ok (.iload_n 0, 1) := by decide +kernel
theorem d_Yard_takes_1 : decode b_Yard_takes 1 = .ok (.ifCond .lt 19, 3) := by decide +kernel
theorem d_Yard_takes_4 : decode b_Yard_takes 4 = .ok (.iload_n 0, 1) := by decide +kernel
theorem d_Yard_takes_5 : decode b_Yard_takes 5 = .ok (.getstatic 133, 3) := by decide +kernel
theorem d_Yard_takes_8 : decode b_Yard_takes 8 = .ok (.arraylength, 1) := by decide +kernel
theorem d_Yard_takes_9 : decode b_Yard_takes 9 = .ok (.if_icmp .ge 11, 3) := by decide +kernel
theorem d_Yard_takes_12 : decode b_Yard_takes 12 = .ok (.getstatic 133, 3) := by decide +kernel
theorem d_Yard_takes_15 : decode b_Yard_takes 15 = .ok (.iload_n 0, 1) := by decide +kernel
theorem d_Yard_takes_16 : decode b_Yard_takes 16 = .ok (.iaload, 1) := by decide +kernel
theorem d_Yard_takes_17 : decode b_Yard_takes 17 = .ok (.goto 4, 3) := by decide +kernel
theorem d_Yard_takes_20 : decode b_Yard_takes 20 = .ok (.iconst 0, 1) := by decide +kernel
theorem d_Yard_takes_21 : decode b_Yard_takes 21 = .ok (.ireturn, 1) := by decide +kernel
theorem d_Yard_gives_0 : decode b_Yard_gives 0 = .ok (.iload_n 0, 1) := by decide +kernel
theorem d_Yard_gives_1 : decode b_Yard_gives 1 = .ok (.ifCond .lt 19, 3) := by decide +kernel
theorem d_Yard_gives_4 : decode b_Yard_gives 4 = .ok (.iload_n 0, 1) := by decide +kernel
theorem d_Yard_gives_5 : decode b_Yard_gives 5 = .ok (.getstatic 136, 3) := by decide +kernel
theorem d_Yard_gives_8 : decode b_Yard_gives 8 = .ok (.arraylength, 1) := by decide +kernel
theorem d_Yard_gives_9 : decode b_Yard_gives 9 = .ok (.if_icmp .ge 11, 3) := by decide +kernel
theorem d_Yard_gives_12 : decode b_Yard_gives 12 = .ok (.getstatic 136, 3) := by decide +kernel
theorem d_Yard_gives_15 : decode b_Yard_gives 15 = .ok (.iload_n 0, 1) := by decide +kernel
theorem d_Yard_gives_16 : decode b_Yard_gives 16 = .ok (.iaload, 1) := by decide +kernel
theorem d_Yard_gives_17 : decode b_Yard_gives 17 = .ok (.goto 4, 3) := by decide +kernel
theorem d_Yard_gives_20 : decode b_Yard_gives 20 = .ok (.iconst 0, 1) := by decide +kernel
theorem d_Yard_gives_21 : decode b_Yard_gives 21 = .ok (.ireturn, 1) := by decide +kernel
theorem d_Yard_isEnding_0 : decode b_Yard_isEnding 0 = .ok (.iload_n 0, 1) := by decide +kernel
theorem d_Yard_isEnding_1 : decode b_Yard_isEnding 1 = .ok (.bipush 22, 2) := by decide +kernel
theorem d_Yard_isEnding_3 : decode b_Yard_isEnding 3 = .ok (.if_icmp .eq 15, 3) := by decide +kernel
theorem d_Yard_isEnding_6 : decode b_Yard_isEnding 6 = .ok (.iload_n 0, 1) := by decide +kernel
theorem d_Yard_isEnding_7 : decode b_Yard_isEnding 7 = .ok (.bipush 23, 2) := by decide +kernel
theorem d_Yard_isEnding_9 : decode b_Yard_isEnding 9 = .ok (.if_icmp .eq 9, 3) := by decide +kernel
theorem d_Yard_isEnding_12 : decode b_Yard_isEnding 12 = .ok (.iload_n 0, 1) := by decide +kernel
theorem d_Yard_isEnding_13 : decode b_Yard_isEnding 13 = .ok (.bipush 24, 2) := by decide +kernel
theorem d_Yard_isEnding_15 : decode b_Yard_isEnding 15 = .ok (.if_icmp .ne 7, 3) := by decide +kernel
theorem d_Yard_isEnding_18 : decode b_Yard_isEnding 18 = .ok (.iconst 1, 1) := by decide +kernel
theorem d_Yard_isEnding_19 : decode b_Yard_isEnding 19 = .ok (.goto 4, 3) := by decide +kernel
theorem d_Yard_isEnding_22 : decode b_Yard_isEnding 22 = .ok (.iconst 0, 1) := by decide +kernel
theorem d_Yard_isEnding_23 : decode b_Yard_isEnding 23 = .ok (.ireturn, 1) := by decide +kernel
theorem d_Yard_isJump_0 : decode b_Yard_isJump 0 = .ok (.iload_n 0, 1) := by decide +kernel
theorem d_Yard_isJump_1 : decode b_Yard_isJump 1 = .ok (.bipush 16, 2) := by decide +kernel
theorem d_Yard_isJump_3 : decode b_Yard_isJump 3 = .ok (.if_icmp .eq 15, 3) := by decide +kernel
theorem d_Yard_isJump_6 : decode b_Yard_isJump 6 = .ok (.iload_n 0, 1) := by decide +kernel
theorem d_Yard_isJump_7 : decode b_Yard_isJump 7 = .ok (.bipush 17, 2) := by decide +kernel
theorem d_Yard_isJump_9 : decode b_Yard_isJump 9 = .ok (.if_icmp .eq 9, 3) := by decide +kernel
theorem d_Yard_isJump_12 : decode b_Yard_isJump 12 = .ok (.iload_n 0, 1) := by decide +kernel
theorem d_Yard_isJump_13 : decode b_Yard_isJump 13 = .ok (.bipush 18, 2) := by decide +kernel
theorem d_Yard_isJump_15 : decode b_Yard_isJump 15 = .ok (.if_icmp .ne 7, 3) := by decide +kernel
theorem d_Yard_isJump_18 : decode b_Yard_isJump 18 = .ok (.iconst 1, 1) := by decide +kernel
theorem d_Yard_isJump_19 : decode b_Yard_isJump 19 = .ok (.goto 4, 3) := by decide +kernel
theorem d_Yard_isJump_22 : decode b_Yard_isJump 22 = .ok (.iconst 0, 1) := by decide +kernel
theorem d_Yard_isJump_23 : decode b_Yard_isJump 23 = .ok (.ireturn, 1) := by decide +kernel
theorem d_Code_init_0 : decode b_Code_init 0 = .ok (.aload_n 0, 1) := by decide +kernel
theorem d_Code_init_1 : decode b_Code_init 1 = .ok (.invokespecial 3, 3) := by decide +kernel
theorem d_Code_init_4 : decode b_Code_init 4 = .ok (.aload_n 0, 1) := by decide +kernel
theorem d_Code_init_5 : decode b_Code_init 5 = .ok (.iload_n 1, 1) := by decide +kernel
theorem d_Code_init_6 : decode b_Code_init 6 = .ok (.putfield 9, 3) := by decide +kernel
theorem d_Code_init_9 : decode b_Code_init 9 = .ok (.aload_n 0, 1) := by decide +kernel
theorem d_Code_init_10 : decode b_Code_init 10 = .ok (.new 15, 3) := by decide +kernel
theorem d_Code_init_13 : decode b_Code_init 13 = .ok (.dup, 1) := by decide +kernel
theorem d_Code_init_14 : decode b_Code_init 14 = .ok (.sipush 256, 3) := by decide +kernel
theorem d_Code_init_17 : decode b_Code_init 17 = .ok (.invokespecial 17, 3) := by decide +kernel
theorem d_Code_init_20 : decode b_Code_init 20 = .ok (.putfield 20, 3) := by decide +kernel
theorem d_Code_init_23 : decode b_Code_init 23 = .ok (.aload_n 0, 1) := by decide +kernel
theorem d_Code_init_24 : decode b_Code_init 24 = .ok (.new 15, 3) := by decide +kernel
theorem d_Code_init_27 : decode b_Code_init 27 = .ok (.dup, 1) := by decide +kernel
theorem d_Code_init_28 : decode b_Code_init 28 = .ok (.sipush 256, 3) := by decide +kernel
theorem d_Code_init_31 : decode b_Code_init 31 = .ok (.invokespecial 17, 3) := by decide +kernel
theorem d_Code_init_34 : decode b_Code_init 34 = .ok (.putfield 24, 3) := by decide +kernel
theorem d_Code_init_37 : decode b_Code_init 37 = .ok (.aload_n 0, 1) := by decide +kernel
theorem d_Code_init_38 : decode b_Code_init 38 = .ok (.new 15, 3) := by decide +kernel
theorem d_Code_init_41 : decode b_Code_init 41 = .ok (.dup, 1) := by decide +kernel
theorem d_Code_init_42 : decode b_Code_init 42 = .ok (.bipush 16, 2) := by decide +kernel
theorem d_Code_init_44 : decode b_Code_init 44 = .ok (.invokespecial 17, 3) := by decide +kernel
theorem d_Code_init_47 : decode b_Code_init 47 = .ok (.putfield 27, 3) := by decide +kernel
theorem d_Code_init_50 : decode b_Code_init 50 = .ok (.aload_n 0, 1) := by decide +kernel
theorem d_Code_init_51 : decode b_Code_init 51 = .ok (.new 15, 3) := by decide +kernel
theorem d_Code_init_54 : decode b_Code_init 54 = .ok (.dup, 1) := by decide +kernel
theorem d_Code_init_55 : decode b_Code_init 55 = .ok (.bipush 16, 2) := by decide +kernel
theorem d_Code_init_57 : decode b_Code_init 57 = .ok (.invokespecial 17, 3) := by decide +kernel
theorem d_Code_init_60 : decode b_Code_init 60 = .ok (.putfield 30, 3) := by decide +kernel
theorem d_Code_init_63 : decode b_Code_init 63 = .ok (.return_, 1) := by decide +kernel
theorem d_Code_isTaken_0 : decode b_Code_isTaken 0 = .ok (.aload_n 0, 1) := by decide +kernel
theorem d_Code_isTaken_1 : decode b_Code_isTaken 1 = .ok (.getfield 20, 3) := by decide +kernel
theorem d_Code_isTaken_4 : decode b_Code_isTaken 4 = .ok (.getfield 33, 3) := by decide +kernel
theorem d_Code_isTaken_7 : decode b_Code_isTaken 7 = .ok (.ifCond .le 7, 3) := by decide +kernel
theorem d_Code_isTaken_10 : decode b_Code_isTaken 10 = .ok (.iconst 1, 1) := by decide +kernel
theorem d_Code_isTaken_11 : decode b_Code_isTaken 11 = .ok (.goto 4, 3) := by decide +kernel
theorem d_Code_isTaken_14 : decode b_Code_isTaken 14 = .ok (.iconst 0, 1) := by decide +kernel
theorem d_Code_isTaken_15 : decode b_Code_isTaken 15 = .ok (.ireturn, 1) := by decide +kernel
theorem d_Code_take_0 : decode b_Code_take 0 = .ok (.aload_n 0, 1) := by decide +kernel
theorem d_Code_take_1 : decode b_Code_take 1 = .ok (.getfield 20, 3) := by decide +kernel
theorem d_Code_take_4 : decode b_Code_take 4 = .ok (.aload_n 1, 1) := by decide +kernel
theorem d_Code_take_5 : decode b_Code_take 5 = .ok (.invokevirtual 36, 3) := by decide +kernel
theorem d_Code_take_8 : decode b_Code_take 8 = .ok (.aload_n 0, 1) := by decide +kernel
theorem d_Code_take_9 : decode b_Code_take 9 = .ok (.getfield 24, 3) := by decide +kernel
theorem d_Code_take_12 : decode b_Code_take 12 = .ok (.aload_n 2, 1) := by decide +kernel
theorem d_Code_take_13 : decode b_Code_take 13 = .ok (.invokevirtual 36, 3) := by decide +kernel
theorem d_Code_take_16 : decode b_Code_take 16 = .ok (.aload_n 0, 1) := by decide +kernel
theorem d_Code_take_17 : decode b_Code_take 17 = .ok (.getfield 27, 3) := by decide +kernel
theorem d_Code_take_20 : decode b_Code_take 20 = .ok (.bipush 16, 2) := by decide +kernel
theorem d_Code_take_22 : decode b_Code_take 22 = .ok (.iconst 0, 1) := by decide +kernel
theorem d_Code_take_23 : decode b_Code_take 23 = .ok (.invokevirtual 40, 3) := by decide +kernel
theorem d_Code_take_26 : decode b_Code_take 26 = .ok (.return_, 1) := by decide +kernel
theorem d_Frame_init_0 : decode b_Frame_init 0 = .ok (.aload_n 0, 1) := by decide +kernel
theorem d_Frame_init_1 : decode b_Frame_init 1 = .ok (.invokespecial 3, 3) := by decide +kernel
theorem d_Frame_init_4 : decode b_Frame_init 4 = .ok (.aload_n 0, 1) := by decide +kernel
theorem d_Frame_init_5 : decode b_Frame_init 5 = .ok (.iload_n 1, 1) := by decide +kernel
theorem d_Frame_init_6 : decode b_Frame_init 6 = .ok (.putfield 9, 3) := by decide +kernel
theorem d_Frame_init_9 : decode b_Frame_init 9 = .ok (.aload_n 0, 1) := by decide +kernel
theorem d_Frame_init_10 : decode b_Frame_init 10 = .ok (.aload_n 2, 1) := by decide +kernel
theorem d_Frame_init_11 : decode b_Frame_init 11 = .ok (.putfield 15, 3) := by decide +kernel
theorem d_Frame_init_14 : decode b_Frame_init 14 = .ok (.aload_n 0, 1) := by decide +kernel
theorem d_Frame_init_15 : decode b_Frame_init 15 = .ok (.new 19, 3) := by decide +kernel
theorem d_Frame_init_18 : decode b_Frame_init 18 = .ok (.dup, 1) := by decide +kernel
theorem d_Frame_init_19 : decode b_Frame_init 19 = .ok (.bipush 8, 2) := by decide +kernel
theorem d_Frame_init_21 : decode b_Frame_init 21 = .ok (.invokespecial 21, 3) := by decide +kernel
theorem d_Frame_init_24 : decode b_Frame_init 24 = .ok (.putfield 24, 3) := by decide +kernel
theorem d_Frame_init_27 : decode b_Frame_init 27 = .ok (.aload_n 0, 1) := by decide +kernel
theorem d_Frame_init_28 : decode b_Frame_init 28 = .ok (.new 19, 3) := by decide +kernel
theorem d_Frame_init_31 : decode b_Frame_init 31 = .ok (.dup, 1) := by decide +kernel
theorem d_Frame_init_32 : decode b_Frame_init 32 = .ok (.bipush 8, 2) := by decide +kernel
theorem d_Frame_init_34 : decode b_Frame_init 34 = .ok (.invokespecial 21, 3) := by decide +kernel
theorem d_Frame_init_37 : decode b_Frame_init 37 = .ok (.putfield 28, 3) := by decide +kernel
theorem d_Frame_init_40 : decode b_Frame_init 40 = .ok (.aload_n 0, 1) := by decide +kernel
theorem d_Frame_init_41 : decode b_Frame_init 41 = .ok (.aload_n 3, 1) := by decide +kernel
theorem d_Frame_init_42 : decode b_Frame_init 42 = .ok (.putfield 31, 3) := by decide +kernel
theorem d_Frame_init_45 : decode b_Frame_init 45 = .ok (.return_, 1) := by decide +kernel
theorem d_Frame_enter_0 : decode b_Frame_enter 0 = .ok (.aload_n 0, 1) := by decide +kernel
theorem d_Frame_enter_1 : decode b_Frame_enter 1 = .ok (.aload_n 1, 1) := by decide +kernel
theorem d_Frame_enter_2 : decode b_Frame_enter 2 = .ok (.putfield 31, 3) := by decide +kernel
theorem d_Frame_enter_5 : decode b_Frame_enter 5 = .ok (.aload_n 0, 1) := by decide +kernel
theorem d_Frame_enter_6 : decode b_Frame_enter 6 = .ok (.aload_n 1, 1) := by decide +kernel
theorem d_Frame_enter_7 : decode b_Frame_enter 7 = .ok (.getfield 35, 3) := by decide +kernel
theorem d_Frame_enter_10 : decode b_Frame_enter 10 = .ok (.iload_n 2, 1) := by decide +kernel
theorem d_Frame_enter_11 : decode b_Frame_enter 11 = .ok (.iconst 0, 1) := by decide +kernel
theorem d_Frame_enter_12 : decode b_Frame_enter 12 = .ok (.invokevirtual 40, 3) := by decide +kernel
theorem d_Frame_enter_15 : decode b_Frame_enter 15 = .ok (.putfield 44, 3) := by decide +kernel
theorem d_Frame_enter_18 : decode b_Frame_enter 18 = .ok (.aload_n 0, 1) := by decide +kernel
theorem d_Frame_enter_19 : decode b_Frame_enter 19 = .ok (.getfield 24, 3) := by decide +kernel
theorem d_Frame_enter_22 : decode b_Frame_enter 22 = .ok (.iconst 0, 1) := by decide +kernel
theorem d_Frame_enter_23 : decode b_Frame_enter 23 = .ok (.invokevirtual 47, 3) := by decide +kernel
theorem d_Frame_enter_26 : decode b_Frame_enter 26 = .ok (.aload_n 0, 1) := by decide +kernel
theorem d_Frame_enter_27 : decode b_Frame_enter 27 = .ok (.getfield 28, 3) := by decide +kernel
theorem d_Frame_enter_30 : decode b_Frame_enter 30 = .ok (.bipush 8, 2) := by decide +kernel
theorem d_Frame_enter_32 : decode b_Frame_enter 32 = .ok (.iconst 0, 1) := by decide +kernel
theorem d_Frame_enter_33 : decode b_Frame_enter 33 = .ok (.invokevirtual 50, 3) := by decide +kernel
theorem d_Frame_enter_36 : decode b_Frame_enter 36 = .ok (.return_, 1) := by decide +kernel
theorem d_Frame_nextByte_0 : decode b_Frame_nextByte 0 = .ok (.aload_n 0, 1) := by decide +kernel
theorem d_Frame_nextByte_1 : decode b_Frame_nextByte 1 = .ok (.getfield 31, 3) := by decide +kernel
theorem d_Frame_nextByte_4 : decode b_Frame_nextByte 4 = .ok (.getfield 35, 3) := by decide +kernel
theorem d_Frame_nextByte_7 : decode b_Frame_nextByte 7 = .ok (.aload_n 0, 1) := by decide +kernel
theorem d_Frame_nextByte_8 : decode b_Frame_nextByte 8 = .ok (.getfield 44, 3) := by decide +kernel
theorem d_Frame_nextByte_11 : decode b_Frame_nextByte 11 = .ok (.iconst 0, 1) := by decide +kernel
theorem d_Frame_nextByte_12 : decode b_Frame_nextByte 12 = .ok (.invokevirtual 40, 3) := by decide +kernel
theorem d_Frame_nextByte_15 : decode b_Frame_nextByte 15 = .ok (.istore_n 1, 1) := by decide +kernel
theorem d_Frame_nextByte_16 : decode b_Frame_nextByte 16 = .ok (.aload_n 0, 1) := by decide +kernel
theorem d_Frame_nextByte_17 : decode b_Frame_nextByte 17 = .ok (.dup, 1) := by decide +kernel
theorem d_Frame_nextByte_18 : decode b_Frame_nextByte 18 = .ok (.getfield 44, 3) := by decide +kernel
theorem d_Frame_nextByte_21 : decode b_Frame_nextByte 21 = .ok (.iconst 1, 1) := by decide +kernel
theorem d_Frame_nextByte_22 : decode b_Frame_nextByte 22 = .ok (.iadd, 1) := by decide +kernel
theorem d_Frame_nextByte_23 : decode b_Frame_nextByte 23 = .ok (.putfield 44, 3) := by decide +kernel
theorem d_Frame_nextByte_26 : decode b_Frame_nextByte 26 = .ok (.iload_n 1, 1) := by decide +kernel
theorem d_Frame_nextByte_27 : decode b_Frame_nextByte 27 = .ok (.ireturn, 1) := by decide +kernel
theorem d_Row_init_0 : decode b_Row_init 0 = .ok (.aload_n 0, 1) := by decide +kernel
theorem d_Row_init_1 : decode b_Row_init 1 = .ok (.invokespecial 1, 3) := by decide +kernel
theorem d_Row_init_4 : decode b_Row_init 4 = .ok (.aload_n 0, 1) := by decide +kernel
theorem d_Row_init_5 : decode b_Row_init 5 = .ok (.iload_n 1, 1) := by decide +kernel
theorem d_Row_init_6 : decode b_Row_init 6 = .ok (.iconst 0, 1) := by decide +kernel
theorem d_Row_init_7 : decode b_Row_init 7 = .ok (.invokestatic 7, 3) := by decide +kernel
theorem d_Row_init_10 : decode b_Row_init 10 = .ok (.newarray .int, 2) := by decide +kernel
theorem d_Row_init_12 : decode b_Row_init 12 = .ok (.putfield 13, 3) := by decide +kernel
theorem d_Row_init_15 : decode b_Row_init 15 = .ok (.aload_n 0, 1) := by decide +kernel
theorem d_Row_init_16 : decode b_Row_init 16 = .ok (.iconst 0, 1) := by decide +kernel
theorem d_Row_init_17 : decode b_Row_init 17 = .ok (.putfield 19, 3) := by decide +kernel
theorem d_Row_init_20 : decode b_Row_init 20 = .ok (.return_, 1) := by decide +kernel
theorem d_Row_has_0 : decode b_Row_has 0 = .ok (.iload_n 1, 1) := by decide +kernel
theorem d_Row_has_1 : decode b_Row_has 1 = .ok (.ifCond .lt 24, 3) := by decide +kernel
theorem d_Row_has_4 : decode b_Row_has 4 = .ok (.iload_n 1, 1) := by decide +kernel
theorem d_Row_has_5 : decode b_Row_has 5 = .ok (.aload_n 0, 1) := by decide +kernel
theorem d_Row_has_6 : decode b_Row_has 6 = .ok (.getfield 19, 3) := by decide +kernel
theorem d_Row_has_9 : decode b_Row_has 9 = .ok (.if_icmp .ge 16, 3) := by decide +kernel
theorem d_Row_has_12 : decode b_Row_has 12 = .ok (.iload_n 1, 1) := by decide +kernel
theorem d_Row_has_13 : decode b_Row_has 13 = .ok (.aload_n 0, 1) := by decide +kernel
theorem d_Row_has_14 : decode b_Row_has 14 = .ok (.getfield 13, 3) := by decide +kernel
theorem d_Row_has_17 : decode b_Row_has 17 = .ok (.arraylength, 1) := by decide +kernel
theorem d_Row_has_18 : decode b_Row_has 18 = .ok (.if_icmp .ge 7, 3) := by decide +kernel
theorem d_Row_has_21 : decode b_Row_has 21 = .ok (.iconst 1, 1) := by decide +kernel
theorem d_Row_has_22 : decode b_Row_has 22 = .ok (.goto 4, 3) := by decide +kernel
theorem d_Row_has_25 : decode b_Row_has 25 = .ok (.iconst 0, 1) := by decide +kernel
theorem d_Row_has_26 : decode b_Row_has 26 = .ok (.ireturn, 1) := by decide +kernel
theorem d_Row_at_0 : decode b_Row_at 0 = .ok (.iload_n 1, 1) := by decide +kernel
theorem d_Row_at_1 : decode b_Row_at 1 = .ok (.ifCond .lt 29, 3) := by decide +kernel
theorem d_Row_at_4 : decode b_Row_at 4 = .ok (.iload_n 1, 1) := by decide +kernel
theorem d_Row_at_5 : decode b_Row_at 5 = .ok (.aload_n 0, 1) := by decide +kernel
theorem d_Row_at_6 : decode b_Row_at 6 = .ok (.getfield 19, 3) := by decide +kernel
theorem d_Row_at_9 : decode b_Row_at 9 = .ok (.if_icmp .ge 21, 3) := by decide +kernel
theorem d_Row_at_12 : decode b_Row_at 12 = .ok (.iload_n 1, 1) := by decide +kernel
theorem d_Row_at_13 : decode b_Row_at 13 = .ok (.aload_n 0, 1) := by decide +kernel
theorem d_Row_at_14 : decode b_Row_at 14 = .ok (.getfield 13, 3) := by decide +kernel
theorem d_Row_at_17 : decode b_Row_at 17 = .ok (.arraylength, 1) := by decide +kernel
theorem d_Row_at_18 : decode b_Row_at 18 = .ok (.if_icmp .ge 12, 3) := by decide +kernel
theorem d_Row_at_21 : decode b_Row_at 21 = .ok (.aload_n 0, 1) := by decide +kernel
theorem d_Row_at_22 : decode b_Row_at 22 = .ok (.getfield 13, 3) := by decide +kernel
theorem d_Row_at_25 : decode b_Row_at 25 = .ok (.iload_n 1, 1) := by decide +kernel
theorem d_Row_at_26 : decode b_Row_at 26 = .ok (.iaload, 1) := by decide +kernel
theorem d_Row_at_27 : decode b_Row_at 27 = .ok (.goto 4, 3) := by decide +kernel
theorem d_Row_at_30 : decode b_Row_at 30 = .ok (.iload_n 2, 1) := by decide +kernel
theorem d_Row_at_31 : decode b_Row_at 31 = .ok (.ireturn, 1) := by decide +kernel
theorem d_Row_put_0 : decode b_Row_put 0 = .ok (.iload_n 1, 1) := by decide +kernel
theorem d_Row_put_1 : decode b_Row_put 1 = .ok (.ifCond .lt 27, 3) := by decide +kernel
theorem d_Row_put_4 : decode b_Row_put 4 = .ok (.iload_n 1, 1) := by decide +kernel
theorem d_Row_put_5 : decode b_Row_put 5 = .ok (.aload_n 0, 1) := by decide +kernel
theorem d_Row_put_6 : decode b_Row_put 6 = .ok (.getfield 19, 3) := by decide +kernel
theorem d_Row_put_9 : decode b_Row_put 9 = .ok (.if_icmp .ge 19, 3) := by decide +kernel
theorem d_Row_put_12 : decode b_Row_put 12 = .ok (.iload_n 1, 1) := by decide +kernel
theorem d_Row_put_13 : decode b_Row_put 13 = .ok (.aload_n 0, 1) := by decide +kernel
theorem d_Row_put_14 : decode b_Row_put 14 = .ok (.getfield 13, 3) := by decide +kernel
theorem d_Row_put_17 : decode b_Row_put 17 = .ok (.arraylength, 1) := by decide +kernel
theorem d_Row_put_18 : decode b_Row_put 18 = .ok (.if_icmp .ge 10, 3) := by decide +kernel
theorem d_Row_put_21 : decode b_Row_put 21 = .ok (.aload_n 0, 1) := by decide +kernel
theorem d_Row_put_22 : decode b_Row_put 22 = .ok (.getfield 13, 3) := by decide +kernel
theorem d_Row_put_25 : decode b_Row_put 25 = .ok (.iload_n 1, 1) := by decide +kernel
theorem d_Row_put_26 : decode b_Row_put 26 = .ok (.iload_n 2, 1) := by decide +kernel
theorem d_Row_put_27 : decode b_Row_put 27 = .ok (.iastore, 1) := by decide +kernel
theorem d_Row_put_28 : decode b_Row_put 28 = .ok (.return_, 1) := by decide +kernel
theorem d_Row_add_0 : decode b_Row_add 0 = .ok (.aload_n 0, 1) := by decide +kernel
theorem d_Row_add_1 : decode b_Row_add 1 = .ok (.getfield 19, 3) := by decide +kernel
theorem d_Row_add_4 : decode b_Row_add 4 = .ok (.ifCond .lt 35, 3) := by decide +kernel
theorem d_Row_add_7 : decode b_Row_add 7 = .ok (.aload_n 0, 1) := by decide +kernel
theorem d_Row_add_8 : decode b_Row_add 8 = .ok (.getfield 19, 3) := by decide +kernel
theorem d_Row_add_11 : decode b_Row_add 11 = .ok (.aload_n 0, 1) := by decide +kernel
theorem d_Row_add_12 : decode b_Row_add 12 = .ok (.getfield 13, 3) := by decide +kernel
theorem d_Row_add_15 : decode b_Row_add 15 = .ok (.arraylength, 1) := by decide +kernel
theorem d_Row_add_16 : decode b_Row_add 16 = .ok (.if_icmp .ge 23, 3) := by decide +kernel
theorem d_Row_add_19 : decode b_Row_add 19 = .ok (.aload_n 0, 1) := by decide +kernel
theorem d_Row_add_20 : decode b_Row_add 20 = .ok (.getfield 13, 3) := by decide +kernel
theorem d_Row_add_23 : decode b_Row_add 23 = .ok (.aload_n 0, 1) := by decide +kernel
theorem d_Row_add_24 : decode b_Row_add 24 = .ok (.getfield 19, 3) := by decide +kernel
theorem d_Row_add_27 : decode b_Row_add 27 = .ok (.iload_n 1, 1) := by decide +kernel
theorem d_Row_add_28 : decode b_Row_add 28 = .ok (.iastore, 1) := by decide +kernel
theorem d_Row_add_29 : decode b_Row_add 29 = .ok (.aload_n 0, 1) := by decide +kernel
theorem d_Row_add_30 : decode b_Row_add 30 = .ok (.dup, 1) := by decide +kernel
theorem d_Row_add_31 : decode b_Row_add 31 = .ok (.getfield 19, 3) := by decide +kernel
theorem d_Row_add_34 : decode b_Row_add 34 = .ok (.iconst 1, 1) := by decide +kernel
theorem d_Row_add_35 : decode b_Row_add 35 = .ok (.iadd, 1) := by decide +kernel
theorem d_Row_add_36 : decode b_Row_add 36 = .ok (.putfield 19, 3) := by decide +kernel
theorem d_Row_add_39 : decode b_Row_add 39 = .ok (.return_, 1) := by decide +kernel
theorem d_Row_takeLast_0 : decode b_Row_takeLast 0 = .ok (.aload_n 0, 1) := by decide +kernel
theorem d_Row_takeLast_1 : decode b_Row_takeLast 1 = .ok (.getfield 19, 3) := by decide +kernel
theorem d_Row_takeLast_4 : decode b_Row_takeLast 4 = .ok (.ifCond .le 15, 3) := by decide +kernel
theorem d_Row_takeLast_7 : decode b_Row_takeLast 7 = .ok (.aload_n 0, 1) := by decide +kernel
theorem d_Row_takeLast_8 : decode b_Row_takeLast 8 = .ok (.getfield 19, 3) := by decide +kernel
theorem d_Row_takeLast_11 : decode b_Row_takeLast 11 = .ok (.aload_n 0, 1) := by decide +kernel
theorem d_Row_takeLast_12 : decode b_Row_takeLast 12 = .ok (.getfield 13, 3) := by decide +kernel
theorem d_Row_takeLast_15 : decode b_Row_takeLast 15 = .ok (.arraylength, 1) := by decide +kernel
theorem d_Row_takeLast_16 : decode b_Row_takeLast 16 = .ok (.if_icmp .le 5, 3) := by decide +kernel
theorem d_Row_takeLast_19 : decode b_Row_takeLast 19 = .ok (.iconst 0, 1) := by decide +kernel
theorem d_Row_takeLast_20 : decode b_Row_takeLast 20 = .ok (.ireturn, 1) := by decide +kernel
theorem d_Row_takeLast_21 : decode b_Row_takeLast 21 = .ok (.aload_n 0, 1) := by decide +kernel
theorem d_Row_takeLast_22 : decode b_Row_takeLast 22 = .ok (.dup, 1) := by decide +kernel
theorem d_Row_takeLast_23 : decode b_Row_takeLast 23 = .ok (.getfield 19, 3) := by decide +kernel
theorem d_Row_takeLast_26 : decode b_Row_takeLast 26 = .ok (.iconst 1, 1) := by decide +kernel
theorem d_Row_takeLast_27 : decode b_Row_takeLast 27 = .ok (.isub, 1) := by decide +kernel
theorem d_Row_takeLast_28 : decode b_Row_takeLast 28 = .ok (.putfield 19, 3) := by decide +kernel
theorem d_Row_takeLast_31 : decode b_Row_takeLast 31 = .ok (.aload_n 0, 1) := by decide +kernel
theorem d_Row_takeLast_32 : decode b_Row_takeLast 32 = .ok (.getfield 13, 3) := by decide +kernel
theorem d_Row_takeLast_35 : decode b_Row_takeLast 35 = .ok (.aload_n 0, 1) := by decide +kernel
theorem d_Row_takeLast_36 : decode b_Row_takeLast 36 = .ok (.getfield 19, 3) := by decide +kernel
theorem d_Row_takeLast_39 : decode b_Row_takeLast 39 = .ok (.iaload, 1) := by decide +kernel
theorem d_Row_takeLast_40 : decode b_Row_takeLast 40 = .ok (.ireturn, 1) := by decide +kernel
theorem d_Row_shorten_0 : decode b_Row_shorten 0 = .ok (.aload_n 0, 1) := by decide +kernel
theorem d_Row_shorten_1 : decode b_Row_shorten 1 = .ok (.iconst 0, 1) := by decide +kernel
theorem d_Row_shorten_2 : decode b_Row_shorten 2 = .ok (.iload_n 1, 1) := by decide +kernel
theorem d_Row_shorten_3 : decode b_Row_shorten 3 = .ok (.aload_n 0, 1) := by decide +kernel
theorem d_Row_shorten_4 : decode b_Row_shorten 4 = .ok (.getfield 19, 3) := by decide +kernel
theorem d_Row_shorten_7 : decode b_Row_shorten 7 = .ok (.invokestatic 23, 3) := by decide +kernel
theorem d_Row_shorten_10 : decode b_Row_shorten 10 = .ok (.invokestatic 7, 3) := by decide +kernel
theorem d_Row_shorten_13 : decode b_Row_shorten 13 = .ok (.putfield 19, 3) := by decide +kernel
theorem d_Row_shorten_16 : decode b_Row_shorten 16 = .ok (.return_, 1) := by decide +kernel
theorem d_Row_become_0 : decode b_Row_become 0 = .ok (.aload_n 0, 1) := by decide +kernel
theorem d_Row_become_1 : decode b_Row_become 1 = .ok (.iconst 0, 1) := by decide +kernel
theorem d_Row_become_2 : decode b_Row_become 2 = .ok (.iload_n 1, 1) := by decide +kernel
theorem d_Row_become_3 : decode b_Row_become 3 = .ok (.aload_n 0, 1) := by decide +kernel
theorem d_Row_become_4 : decode b_Row_become 4 = .ok (.getfield 13, 3) := by decide +kernel
theorem d_Row_become_7 : decode b_Row_become 7 = .ok (.arraylength, 1) := by decide +kernel
theorem d_Row_become_8 : decode b_Row_become 8 = .ok (.invokestatic 23, 3) := by decide +kernel
theorem d_Row_become_11 : decode b_Row_become 11 = .ok (.invokestatic 7, 3) := by decide +kernel
theorem d_Row_become_14 : decode b_Row_become 14 = .ok (.putfield 19, 3) := by decide +kernel
theorem d_Row_become_17 : decode b_Row_become 17 = .ok (.iconst 0, 1) := by decide +kernel
theorem d_Row_become_18 : decode b_Row_become 18 = .ok (.istore_n 3, 1) := by decide +kernel
theorem d_Row_become_19 : decode b_Row_become 19 = .ok (.iload_n 3, 1) := by decide +kernel
theorem d_Row_become_20 : decode b_Row_become 20 = .ok (.aload_n 0, 1) := by decide +kernel
theorem d_Row_become_21 : decode b_Row_become 21 = .ok (.getfield 19, 3) := by decide +kernel
theorem d_Row_become_24 : decode b_Row_become 24 = .ok (.if_icmp .ge 25, 3) := by decide +kernel
theorem d_Row_become_27 : decode b_Row_become 27 = .ok (.iload_n 3, 1) := by decide +kernel
theorem d_Row_become_28 : decode b_Row_become 28 = .ok (.aload_n 0, 1) := by decide +kernel
theorem d_Row_become_29 : decode b_Row_become 29 = .ok (.getfield 13, 3) := by decide +kernel
theorem d_Row_become_32 : decode b_Row_become 32 = .ok (.arraylength, 1) := by decide +kernel
theorem d_Row_become_33 : decode b_Row_become 33 = .ok (.if_icmp .ge 16, 3) := by decide +kernel
theorem d_Row_become_36 : decode b_Row_become 36 = .ok (.aload_n 0, 1) := by decide +kernel
theorem d_Row_become_37 : decode b_Row_become 37 = .ok (.getfield 13, 3) := by decide +kernel
theorem d_Row_become_40 : decode b_Row_become 40 = .ok (.iload_n 3, 1) := by decide +kernel
theorem d_Row_become_41 : decode b_Row_become 41 = .ok (.iload_n 2, 1) := by decide +kernel
theorem d_Row_become_42 : decode b_Row_become 42 = .ok (.iastore, 1) := by decide +kernel
theorem d_Row_become_43 : decode b_Row_become 43 = .ok (.iinc 3 1, 3) := by decide +kernel
theorem d_Row_become_46 : decode b_Row_become 46 = .ok (.goto (-27), 3) := by decide +kernel
theorem d_Row_become_49 : decode b_Row_become 49 = .ok (.return_, 1) := by decide +kernel
theorem d_Row_becomeLike_0 : decode b_Row_becomeLike 0 = .ok (.aload_n 0, 1) := by decide +kernel
theorem d_Row_becomeLike_1 : decode b_Row_becomeLike 1 = .ok (.iconst 0, 1) := by decide +kernel
theorem d_Row_becomeLike_2 : decode b_Row_becomeLike 2 = .ok (.putfield 19, 3) := by decide +kernel
theorem d_Row_becomeLike_5 : decode b_Row_becomeLike 5 = .ok (.iconst 0, 1) := by decide +kernel
theorem d_Row_becomeLike_6 : decode b_Row_becomeLike 6 = .ok (.istore_n 2, 1) := by decide +kernel
theorem d_Row_becomeLike_7 : decode b_Row_becomeLike 7 = .ok (.iload_n 2, 1) := by decide +kernel
theorem d_Row_becomeLike_8 : decode b_Row_becomeLike 8 = .ok (.aload_n 1, 1) := by decide +kernel
theorem d_Row_becomeLike_9 : decode b_Row_becomeLike 9 = .ok (.getfield 19, 3) := by decide +kernel
theorem d_Row_becomeLike_12 : decode b_Row_becomeLike 12 = .ok (.if_icmp .ge 19, 3) := by decide +kernel
theorem d_Row_becomeLike_15 : decode b_Row_becomeLike 15 = .ok (.aload_n 0, 1) := by decide +kernel
theorem d_Row_becomeLike_16 : decode b_Row_becomeLike 16 = .ok (.aload_n 1, 1) := by decide +kernel
theorem d_Row_becomeLike_17 : decode b_Row_becomeLike 17 = .ok (.iload_n 2, 1) := by decide +kernel
theorem d_Row_becomeLike_18 : decode b_Row_becomeLike 18 = .ok (.iconst 0, 1) := by decide +kernel
theorem d_Row_becomeLike_19 : decode b_Row_becomeLike 19 = .ok (.invokevirtual 26, 3) := by decide +kernel
theorem d_Row_becomeLike_22 : decode b_Row_becomeLike 22 = .ok (.invokevirtual 29, 3) := by decide +kernel
theorem d_Row_becomeLike_25 : decode b_Row_becomeLike 25 = .ok (.iinc 2 1, 3) := by decide +kernel
theorem d_Row_becomeLike_28 : decode b_Row_becomeLike 28 = .ok (.goto (-21), 3) := by decide +kernel
theorem d_Row_becomeLike_31 : decode b_Row_becomeLike 31 = .ok (.return_, 1) := by decide +kernel
theorem d_Shelf_init_0 : decode b_Shelf_init 0 = .ok (.aload_n 0, 1) := by decide +kernel
theorem d_Shelf_init_1 : decode b_Shelf_init 1 = .ok (.invokespecial 3, 3) := by decide +kernel
theorem d_Shelf_init_4 : decode b_Shelf_init 4 = .ok (.aload_n 0, 1) := by decide +kernel
theorem d_Shelf_init_5 : decode b_Shelf_init 5 = .ok (.bipush 8, 2) := by decide +kernel
theorem d_Shelf_init_7 : decode b_Shelf_init 7 = .ok (.anewarray 9, 3) := by decide +kernel
theorem d_Shelf_init_10 : decode b_Shelf_init 10 = .ok (.putfield 11, 3) := by decide +kernel
theorem d_Shelf_init_13 : decode b_Shelf_init 13 = .ok (.iconst 0, 1) := by decide +kernel
theorem d_Shelf_init_14 : decode b_Shelf_init 14 = .ok (.istore_n 1, 1) := by decide +kernel
theorem d_Shelf_init_15 : decode b_Shelf_init 15 = .ok (.iload_n 1, 1) := by decide +kernel
theorem d_Shelf_init_16 : decode b_Shelf_init 16 = .ok (.aload_n 0, 1) := by decide +kernel
theorem d_Shelf_init_17 : decode b_Shelf_init 17 = .ok (.getfield 11, 3) := by decide +kernel
theorem d_Shelf_init_20 : decode b_Shelf_init 20 = .ok (.arraylength, 1) := by decide +kernel
theorem d_Shelf_init_21 : decode b_Shelf_init 21 = .ok (.if_icmp .ge 23, 3) := by decide +kernel
theorem d_Shelf_init_24 : decode b_Shelf_init 24 = .ok (.aload_n 0, 1) := by decide +kernel
theorem d_Shelf_init_25 : decode b_Shelf_init 25 = .ok (.getfield 11, 3) := by decide +kernel
theorem d_Shelf_init_28 : decode b_Shelf_init 28 = .ok (.iload_n 1, 1) := by decide +kernel
theorem d_Shelf_init_29 : decode b_Shelf_init 29 = .ok (.new 9, 3) := by decide +kernel
theorem d_Shelf_init_32 : decode b_Shelf_init 32 = .ok (.dup, 1) := by decide +kernel
theorem d_Shelf_init_33 : decode b_Shelf_init 33 = .ok (.iload_n 1, 1) := by decide +kernel
theorem d_Shelf_init_34 : decode b_Shelf_init 34 = .ok (.invokespecial 17, 3) := by decide +kernel
theorem d_Shelf_init_37 : decode b_Shelf_init 37 = .ok (.aastore, 1) := by decide +kernel
theorem d_Shelf_init_38 : decode b_Shelf_init 38 = .ok (.iinc 1 1, 3) := by decide +kernel
theorem d_Shelf_init_41 : decode b_Shelf_init 41 = .ok (.goto (-26), 3) := by decide +kernel
theorem d_Shelf_init_44 : decode b_Shelf_init 44 = .ok (.return_, 1) := by decide +kernel
theorem d_Shelf_slot_0 : decode b_Shelf_slot 0 = .ok (.iload_n 1, 1) := by decide +kernel
theorem d_Shelf_slot_1 : decode b_Shelf_slot 1 = .ok (.ifCond .lt 21, 3) := by decide +kernel
theorem d_Shelf_slot_4 : decode b_Shelf_slot 4 = .ok (.iload_n 1, 1) := by decide +kernel
theorem d_Shelf_slot_5 : decode b_Shelf_slot 5 = .ok (.aload_n 0, 1) := by decide +kernel
theorem d_Shelf_slot_6 : decode b_Shelf_slot 6 = .ok (.getfield 11, 3) := by decide +kernel
theorem d_Shelf_slot_9 : decode b_Shelf_slot 9 = .ok (.arraylength, 1) := by decide +kernel
theorem d_Shelf_slot_10 : decode b_Shelf_slot 10 = .ok (.if_icmp .ge 12, 3) := by decide +kernel
theorem d_Shelf_slot_13 : decode b_Shelf_slot 13 = .ok (.aload_n 0, 1) := by decide +kernel
theorem d_Shelf_slot_14 : decode b_Shelf_slot 14 = .ok (.getfield 11, 3) := by decide +kernel
theorem d_Shelf_slot_17 : decode b_Shelf_slot 17 = .ok (.iload_n 1, 1) := by decide +kernel
theorem d_Shelf_slot_18 : decode b_Shelf_slot 18 = .ok (.aaload, 1) := by decide +kernel
theorem d_Shelf_slot_19 : decode b_Shelf_slot 19 = .ok (.goto 4, 3) := by decide +kernel
theorem d_Shelf_slot_22 : decode b_Shelf_slot 22 = .ok (.aconst_null, 1) := by decide +kernel
theorem d_Shelf_slot_23 : decode b_Shelf_slot 23 = .ok (.areturn, 1) := by decide +kernel
theorem d_Shelf_taken_0 : decode b_Shelf_taken 0 = .ok (.aload_n 0, 1) := by decide +kernel
theorem d_Shelf_taken_1 : decode b_Shelf_taken 1 = .ok (.iload_n 1, 1) := by decide +kernel
theorem d_Shelf_taken_2 : decode b_Shelf_taken 2 = .ok (.invokevirtual 20, 3) := by decide +kernel
theorem d_Shelf_taken_5 : decode b_Shelf_taken 5 = .ok (.astore_n 2, 1) := by decide +kernel
theorem d_Shelf_taken_6 : decode b_Shelf_taken 6 = .ok (.aload_n 2, 1) := by decide +kernel
theorem d_Shelf_taken_7 : decode b_Shelf_taken 7 = .ok (.ifnull 14, 3) := by decide +kernel
theorem d_Shelf_taken_10 : decode b_Shelf_taken 10 = .ok (.aload_n 2, 1) := by decide +kernel
theorem d_Shelf_taken_11 : decode b_Shelf_taken 11 = .ok (.invokevirtual 24, 3) := by decide +kernel
theorem d_Shelf_taken_14 : decode b_Shelf_taken 14 = .ok (.ifCond .eq 7, 3) := by decide +kernel
theorem d_Shelf_taken_17 : decode b_Shelf_taken 17 = .ok (.aload_n 2, 1) := by decide +kernel
theorem d_Shelf_taken_18 : decode b_Shelf_taken 18 = .ok (.goto 4, 3) := by decide +kernel
theorem d_Shelf_taken_21 : decode b_Shelf_taken 21 = .ok (.aconst_null, 1) := by decide +kernel
theorem d_Shelf_taken_22 : decode b_Shelf_taken 22 = .ok (.areturn, 1) := by decide +kernel
theorem d_Shelf_keepCells_0 : decode b_Shelf_keepCells 0 = .ok (.iconst 0, 1) := by decide +kernel
theorem d_Shelf_keepCells_1 : decode b_Shelf_keepCells 1 = .ok (.istore_n 1, 1) := by decide +kernel
theorem d_Shelf_keepCells_2 : decode b_Shelf_keepCells 2 = .ok (.iload_n 1, 1) := by decide +kernel
theorem d_Shelf_keepCells_3 : decode b_Shelf_keepCells 3 = .ok (.bipush 8, 2) := by decide +kernel
theorem d_Shelf_keepCells_5 : decode b_Shelf_keepCells 5 = .ok (.if_icmp .ge 30, 3) := by decide +kernel
theorem d_Shelf_keepCells_8 : decode b_Shelf_keepCells 8 = .ok (.aload_n 0, 1) := by decide +kernel
theorem d_Shelf_keepCells_9 : decode b_Shelf_keepCells 9 = .ok (.iload_n 1, 1) := by decide +kernel
theorem d_Shelf_keepCells_10 : decode b_Shelf_keepCells 10 = .ok (.invokevirtual 20, 3) := by decide +kernel
theorem d_Shelf_keepCells_13 : decode b_Shelf_keepCells 13 = .ok (.astore_n 2, 1) := by decide +kernel
theorem d_Shelf_keepCells_14 : decode b_Shelf_keepCells 14 = .ok (.aload_n 2, 1) := by decide +kernel
theorem d_Shelf_keepCells_15 : decode b_Shelf_keepCells 15 = .ok (.ifnull 14, 3) := by decide +kernel
theorem d_Shelf_keepCells_18 : decode b_Shelf_keepCells 18 = .ok (.aload_n 2, 1) := by decide +kernel
theorem d_Shelf_keepCells_19 : decode b_Shelf_keepCells 19 = .ok (.getfield 28, 3) := by decide +kernel
theorem d_Shelf_keepCells_22 : decode b_Shelf_keepCells 22 = .ok (.aload_n 2, 1) := by decide +kernel
theorem d_Shelf_keepCells_23 : decode b_Shelf_keepCells 23 = .ok (.getfield 32, 3) := by decide +kernel
theorem d_Shelf_keepCells_26 : decode b_Shelf_keepCells 26 = .ok (.invokevirtual 35, 3) := by decide +kernel
theorem d_Shelf_keepCells_29 : decode b_Shelf_keepCells 29 = .ok (.iinc 1 1, 3) := by decide +kernel
theorem d_Shelf_keepCells_32 : decode b_Shelf_keepCells 32 = .ok (.goto (-30), 3) := by decide +kernel
theorem d_Shelf_keepCells_35 : decode b_Shelf_keepCells 35 = .ok (.return_, 1) := by decide +kernel
theorem d_Shelf_bringCellsBack_0 : decode b_Shelf_bringCellsBack 0 = .ok (.iconst 0, 1) := by decide +kernel
theorem d_Shelf_bringCellsBack_1 : decode b_Shelf_bringCellsBack 1 = .ok (.istore_n 1, 1) := by decide +kernel
theorem d_Shelf_bringCellsBack_2 : decode b_Shelf_bringCellsBack 2 = .ok (.iload_n 1, 1) := by decide +kernel
theorem d_Shelf_bringCellsBack_3 : decode b_Shelf_bringCellsBack 3 = .ok (.bipush 8, 2) := by decide +kernel
theorem d_Shelf_bringCellsBack_5 : decode b_Shelf_bringCellsBack 5 = .ok (.if_icmp .ge 30, 3) := by decide +kernel
theorem d_Shelf_bringCellsBack_8 : decode b_Shelf_bringCellsBack 8 = .ok (.aload_n 0, 1) := by decide +kernel
theorem d_Shelf_bringCellsBack_9 : decode b_Shelf_bringCellsBack 9 = .ok (.iload_n 1, 1) := by decide +kernel
theorem d_Shelf_bringCellsBack_10 : decode b_Shelf_bringCellsBack 10 = .ok (.invokevirtual 20, 3) := by decide +kernel
theorem d_Shelf_bringCellsBack_13 : decode b_Shelf_bringCellsBack 13 = .ok (.astore_n 2, 1) := by decide +kernel
theorem d_Shelf_bringCellsBack_14 : decode b_Shelf_bringCellsBack 14 = .ok (.aload_n 2, 1) := by decide +kernel
theorem d_Shelf_bringCellsBack_15 : decode b_Shelf_bringCellsBack 15 = .ok (.ifnull 14, 3) := by decide +kernel
theorem d_Shelf_bringCellsBack_18 : decode b_Shelf_bringCellsBack 18 = .ok (.aload_n 2, 1) := by decide +kernel
theorem d_Shelf_bringCellsBack_19 : decode b_Shelf_bringCellsBack 19 = .ok (.getfield 32, 3) := by decide +kernel
theorem d_Shelf_bringCellsBack_22 : decode b_Shelf_bringCellsBack 22 = .ok (.aload_n 2, 1) := by decide +kernel
theorem d_Shelf_bringCellsBack_23 : decode b_Shelf_bringCellsBack 23 = .ok (.getfield 28, 3) := by decide +kernel
theorem d_Shelf_bringCellsBack_26 : decode b_Shelf_bringCellsBack 26 = .ok (.invokevirtual 35, 3) := by decide +kernel
theorem d_Shelf_bringCellsBack_29 : decode b_Shelf_bringCellsBack 29 = .ok (.iinc 1 1, 3) := by decide +kernel
theorem d_Shelf_bringCellsBack_32 : decode b_Shelf_bringCellsBack 32 = .ok (.goto (-30), 3) := by decide +kernel
theorem d_Shelf_bringCellsBack_35 : decode b_Shelf_bringCellsBack 35 = .ok (.return_, 1) := by decide +kernel

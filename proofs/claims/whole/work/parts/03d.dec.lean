theorem dX4_init_0 : decode cX4_init 0 = .ok (.aload_n 0, 1) := by decide +kernel
theorem dX4_init_1 : decode cX4_init 1 = .ok (.invokespecial 1, 3) := by decide +kernel
theorem dX4_init_4 : decode cX4_init 4 = .ok (.aload_n 0, 1) := by decide +kernel
theorem dX4_init_5 : decode cX4_init 5 = .ok (.iconst 4, 1) := by decide +kernel
theorem dX4_init_6 : decode cX4_init 6 = .ok (.putfield 7, 3) := by decide +kernel
theorem dX4_init_9 : decode cX4_init 9 = .ok (.aload_n 0, 1) := by decide +kernel
theorem dX4_init_10 : decode cX4_init 10 = .ok (.bipush 100, 2) := by decide +kernel
theorem dX4_init_12 : decode cX4_init 12 = .ok (.newarray .int, 2) := by decide +kernel
theorem dX4_init_14 : decode cX4_init 14 = .ok (.putfield 13, 3) := by decide +kernel
theorem dX4_init_17 : decode cX4_init 17 = .ok (.aload_n 0, 1) := by decide +kernel
theorem dX4_init_18 : decode cX4_init 18 = .ok (.iconst 4, 1) := by decide +kernel
theorem dX4_init_19 : decode cX4_init 19 = .ok (.newarray .int, 2) := by decide +kernel
theorem dX4_init_21 : decode cX4_init 21 = .ok (.putfield 17, 3) := by decide +kernel
theorem dX4_init_24 : decode cX4_init 24 = .ok (.aload_n 0, 1) := by decide +kernel
theorem dX4_init_25 : decode cX4_init 25 = .ok (.bipush 50, 2) := by decide +kernel
theorem dX4_init_27 : decode cX4_init 27 = .ok (.putfield 20, 3) := by decide +kernel
theorem dX4_init_30 : decode cX4_init 30 = .ok (.aload_n 0, 1) := by decide +kernel
theorem dX4_init_31 : decode cX4_init 31 = .ok (.sipush 1024, 3) := by decide +kernel
theorem dX4_init_34 : decode cX4_init 34 = .ok (.newarray .int, 2) := by decide +kernel
theorem dX4_init_36 : decode cX4_init 36 = .ok (.putfield 23, 3) := by decide +kernel
theorem dX4_init_39 : decode cX4_init 39 = .ok (.aload_n 0, 1) := by decide +kernel
theorem dX4_init_40 : decode cX4_init 40 = .ok (.sipush 1024, 3) := by decide +kernel
theorem dX4_init_43 : decode cX4_init 43 = .ok (.newarray .int, 2) := by decide +kernel
theorem dX4_init_45 : decode cX4_init 45 = .ok (.putfield 26, 3) := by decide +kernel
theorem dX4_init_48 : decode cX4_init 48 = .ok (.aload_n 0, 1) := by decide +kernel
theorem dX4_init_49 : decode cX4_init 49 = .ok (.sipush 1024, 3) := by decide +kernel
theorem dX4_init_52 : decode cX4_init 52 = .ok (.newarray .int, 2) := by decide +kernel
theorem dX4_init_54 : decode cX4_init 54 = .ok (.putfield 29, 3) := by decide +kernel
theorem dX4_init_57 : decode cX4_init 57 = .ok (.aload_n 0, 1) := by decide +kernel
theorem dX4_init_58 : decode cX4_init 58 = .ok (.getfield 17, 3) := by decide +kernel
theorem dX4_init_61 : decode cX4_init 61 = .ok (.iconst 0, 1) := by decide +kernel
theorem dX4_init_62 : decode cX4_init 62 = .ok (.iconst 1, 1) := by decide +kernel
theorem dX4_init_63 : decode cX4_init 63 = .ok (.iastore, 1) := by decide +kernel
theorem dX4_init_64 : decode cX4_init 64 = .ok (.aload_n 0, 1) := by decide +kernel
theorem dX4_init_65 : decode cX4_init 65 = .ok (.getfield 17, 3) := by decide +kernel
theorem dX4_init_68 : decode cX4_init 68 = .ok (.iconst 3, 1) := by decide +kernel
theorem dX4_init_69 : decode cX4_init 69 = .ok (.iconst 1, 1) := by decide +kernel
theorem dX4_init_70 : decode cX4_init 70 = .ok (.iastore, 1) := by decide +kernel
theorem dX4_init_71 : decode cX4_init 71 = .ok (.return_, 1) := by decide +kernel
theorem dX4_in_0 : decode cX4_in 0 = .ok (.iload_n 0, 1) := by decide +kernel
theorem dX4_in_1 : decode cX4_in 1 = .ok (.iload_n 1, 1) := by decide +kernel
theorem dX4_in_2 : decode cX4_in 2 = .ok (.if_icmp .lt 12, 3) := by decide +kernel
theorem dX4_in_5 : decode cX4_in 5 = .ok (.iload_n 0, 1) := by decide +kernel
theorem dX4_in_6 : decode cX4_in 6 = .ok (.iload_n 2, 1) := by decide +kernel
theorem dX4_in_7 : decode cX4_in 7 = .ok (.if_icmp .gt 7, 3) := by decide +kernel
theorem dX4_in_10 : decode cX4_in 10 = .ok (.iconst 1, 1) := by decide +kernel
theorem dX4_in_11 : decode cX4_in 11 = .ok (.goto 4, 3) := by decide +kernel
theorem dX4_in_14 : decode cX4_in 14 = .ok (.iconst 0, 1) := by decide +kernel
theorem dX4_in_15 : decode cX4_in 15 = .ok (.ireturn, 1) := by decide +kernel
theorem dX4_isOne_0 : decode cX4_isOne 0 = .ok (.iload_n 1, 1) := by decide +kernel
theorem dX4_isOne_1 : decode cX4_isOne 1 = .ok (.iconst 0, 1) := by decide +kernel
theorem dX4_isOne_2 : decode cX4_isOne 2 = .ok (.aload_n 0, 1) := by decide +kernel
theorem dX4_isOne_3 : decode cX4_isOne 3 = .ok (.getfield 7, 3) := by decide +kernel
theorem dX4_isOne_6 : decode cX4_isOne 6 = .ok (.iconst 1, 1) := by decide +kernel
theorem dX4_isOne_7 : decode cX4_isOne 7 = .ok (.isub, 1) := by decide +kernel
theorem dX4_isOne_8 : decode cX4_isOne 8 = .ok (.invokestatic 32, 3) := by decide +kernel
theorem dX4_isOne_11 : decode cX4_isOne 11 = .ok (.ireturn, 1) := by decide +kernel
theorem dX4_states_0 : decode cX4_states 0 = .ok (.iconst 1, 1) := by decide +kernel
theorem dX4_states_1 : decode cX4_states 1 = .ok (.aload_n 0, 1) := by decide +kernel
theorem dX4_states_2 : decode cX4_states 2 = .ok (.getfield 7, 3) := by decide +kernel
theorem dX4_states_5 : decode cX4_states 5 = .ok (.ishl, 1) := by decide +kernel
theorem dX4_states_6 : decode cX4_states 6 = .ok (.ireturn, 1) := by decide +kernel
theorem dX4_isState_0 : decode cX4_isState 0 = .ok (.iload_n 1, 1) := by decide +kernel
theorem dX4_isState_1 : decode cX4_isState 1 = .ok (.iconst 0, 1) := by decide +kernel
theorem dX4_isState_2 : decode cX4_isState 2 = .ok (.aload_n 0, 1) := by decide +kernel
theorem dX4_isState_3 : decode cX4_isState 3 = .ok (.invokevirtual 36, 3) := by decide +kernel
theorem dX4_isState_6 : decode cX4_isState 6 = .ok (.iconst 1, 1) := by decide +kernel
theorem dX4_isState_7 : decode cX4_isState 7 = .ok (.isub, 1) := by decide +kernel
theorem dX4_isState_8 : decode cX4_isState 8 = .ok (.invokestatic 32, 3) := by decide +kernel
theorem dX4_isState_11 : decode cX4_isState 11 = .ok (.ireturn, 1) := by decide +kernel
theorem dX4_players_0 : decode cX4_players 0 = .ok (.iload_n 1, 1) := by decide +kernel
theorem dX4_players_1 : decode cX4_players 1 = .ok (.iconst 2, 1) := by decide +kernel
theorem dX4_players_2 : decode cX4_players 2 = .ok (.bipush 10, 2) := by decide +kernel
theorem dX4_players_4 : decode cX4_players 4 = .ok (.invokestatic 32, 3) := by decide +kernel
theorem dX4_players_7 : decode cX4_players 7 = .ok (.ifCond .ne 6, 3) := by decide +kernel
theorem dX4_players_10 : decode cX4_players 10 = .ok (.bipush (-2), 2) := by decide +kernel
theorem dX4_players_12 : decode cX4_players 12 = .ok (.ireturn, 1) := by decide +kernel
theorem dX4_players_13 : decode cX4_players 13 = .ok (.aload_n 0, 1) := by decide +kernel
theorem dX4_players_14 : decode cX4_players 14 = .ok (.getfield 7, 3) := by decide +kernel
theorem dX4_players_17 : decode cX4_players 17 = .ok (.istore_n 2, 1) := by decide +kernel
theorem dX4_players_18 : decode cX4_players 18 = .ok (.aload_n 0, 1) := by decide +kernel
theorem dX4_players_19 : decode cX4_players 19 = .ok (.iload_n 1, 1) := by decide +kernel
theorem dX4_players_20 : decode cX4_players 20 = .ok (.putfield 7, 3) := by decide +kernel
theorem dX4_players_23 : decode cX4_players 23 = .ok (.aload_n 0, 1) := by decide +kernel
theorem dX4_players_24 : decode cX4_players 24 = .ok (.iconst 0, 1) := by decide +kernel
theorem dX4_players_25 : decode cX4_players 25 = .ok (.putfield 40, 3) := by decide +kernel
theorem dX4_players_28 : decode cX4_players 28 = .ok (.aload_n 0, 1) := by decide +kernel
theorem dX4_players_29 : decode cX4_players 29 = .ok (.iconst 0, 1) := by decide +kernel
theorem dX4_players_30 : decode cX4_players 30 = .ok (.putfield 43, 3) := by decide +kernel
theorem dX4_players_33 : decode cX4_players 33 = .ok (.iconst 0, 1) := by decide +kernel
theorem dX4_players_34 : decode cX4_players 34 = .ok (.istore_n 3, 1) := by decide +kernel
theorem dX4_players_35 : decode cX4_players 35 = .ok (.iload_n 3, 1) := by decide +kernel
theorem dX4_players_36 : decode cX4_players 36 = .ok (.bipush 100, 2) := by decide +kernel
theorem dX4_players_38 : decode cX4_players 38 = .ok (.if_icmp .ge 16, 3) := by decide +kernel
theorem dX4_players_41 : decode cX4_players 41 = .ok (.aload_n 0, 1) := by decide +kernel
theorem dX4_players_42 : decode cX4_players 42 = .ok (.getfield 13, 3) := by decide +kernel
theorem dX4_players_45 : decode cX4_players 45 = .ok (.iload_n 3, 1) := by decide +kernel
theorem dX4_players_46 : decode cX4_players 46 = .ok (.iconst 0, 1) := by decide +kernel
theorem dX4_players_47 : decode cX4_players 47 = .ok (.iastore, 1) := by decide +kernel
theorem dX4_players_48 : decode cX4_players 48 = .ok (.iinc 3 1, 3) := by decide +kernel
theorem dX4_players_51 : decode cX4_players 51 = .ok (.goto (-16), 3) := by decide +kernel
theorem dX4_players_54 : decode cX4_players 54 = .ok (.iload_n 2, 1) := by decide +kernel
theorem dX4_players_55 : decode cX4_players 55 = .ok (.ireturn, 1) := by decide +kernel
theorem dX4_arePair_0 : decode cX4_arePair 0 = .ok (.aload_n 0, 1) := by decide +kernel
theorem dX4_arePair_1 : decode cX4_arePair 1 = .ok (.iload_n 1, 1) := by decide +kernel
theorem dX4_arePair_2 : decode cX4_arePair 2 = .ok (.invokevirtual 46, 3) := by decide +kernel
theorem dX4_arePair_5 : decode cX4_arePair 5 = .ok (.ifCond .eq 20, 3) := by decide +kernel
theorem dX4_arePair_8 : decode cX4_arePair 8 = .ok (.aload_n 0, 1) := by decide +kernel
theorem dX4_arePair_9 : decode cX4_arePair 9 = .ok (.iload_n 2, 1) := by decide +kernel
theorem dX4_arePair_10 : decode cX4_arePair 10 = .ok (.invokevirtual 46, 3) := by decide +kernel
theorem dX4_arePair_13 : decode cX4_arePair 13 = .ok (.ifCond .eq 12, 3) := by decide +kernel
theorem dX4_arePair_16 : decode cX4_arePair 16 = .ok (.iload_n 1, 1) := by decide +kernel
theorem dX4_arePair_17 : decode cX4_arePair 17 = .ok (.iload_n 2, 1) := by decide +kernel
theorem dX4_arePair_18 : decode cX4_arePair 18 = .ok (.if_icmp .eq 7, 3) := by decide +kernel
theorem dX4_arePair_21 : decode cX4_arePair 21 = .ok (.iconst 1, 1) := by decide +kernel
theorem dX4_arePair_22 : decode cX4_arePair 22 = .ok (.goto 4, 3) := by decide +kernel
theorem dX4_arePair_25 : decode cX4_arePair 25 = .ok (.iconst 0, 1) := by decide +kernel
theorem dX4_arePair_26 : decode cX4_arePair 26 = .ok (.ireturn, 1) := by decide +kernel
theorem dX4_line_0 : decode cX4_line 0 = .ok (.aload_n 0, 1) := by decide +kernel
theorem dX4_line_1 : decode cX4_line 1 = .ok (.iload_n 1, 1) := by decide +kernel
theorem dX4_line_2 : decode cX4_line 2 = .ok (.iload_n 2, 1) := by decide +kernel
theorem dX4_line_3 : decode cX4_line 3 = .ok (.invokevirtual 50, 3) := by decide +kernel
theorem dX4_line_6 : decode cX4_line 6 = .ok (.ifCond .ne 5, 3) := by decide +kernel
theorem dX4_line_9 : decode cX4_line 9 = .ok (.iconst (-1), 1) := by decide +kernel
theorem dX4_line_10 : decode cX4_line 10 = .ok (.ireturn, 1) := by decide +kernel
theorem dX4_line_11 : decode cX4_line 11 = .ok (.iload_n 3, 1) := by decide +kernel
theorem dX4_line_12 : decode cX4_line 12 = .ok (.iconst 0, 1) := by decide +kernel
theorem dX4_line_13 : decode cX4_line 13 = .ok (.bipush 9, 2) := by decide +kernel
theorem dX4_line_15 : decode cX4_line 15 = .ok (.invokestatic 32, 3) := by decide +kernel
theorem dX4_line_18 : decode cX4_line 18 = .ok (.ifCond .ne 6, 3) := by decide +kernel
theorem dX4_line_21 : decode cX4_line 21 = .ok (.bipush (-2), 2) := by decide +kernel
theorem dX4_line_23 : decode cX4_line 23 = .ok (.ireturn, 1) := by decide +kernel
theorem dX4_line_24 : decode cX4_line 24 = .ok (.aload_n 0, 1) := by decide +kernel
theorem dX4_line_25 : decode cX4_line 25 = .ok (.getfield 13, 3) := by decide +kernel
theorem dX4_line_28 : decode cX4_line 28 = .ok (.bipush 10, 2) := by decide +kernel
theorem dX4_line_30 : decode cX4_line 30 = .ok (.iload_n 1, 1) := by decide +kernel
theorem dX4_line_31 : decode cX4_line 31 = .ok (.imul, 1) := by decide +kernel
theorem dX4_line_32 : decode cX4_line 32 = .ok (.iload_n 2, 1) := by decide +kernel
theorem dX4_line_33 : decode cX4_line 33 = .ok (.iadd, 1) := by decide +kernel
theorem dX4_line_34 : decode cX4_line 34 = .ok (.iaload, 1) := by decide +kernel
theorem dX4_line_35 : decode cX4_line 35 = .ok (.istore 4, 2) := by decide +kernel
theorem dX4_line_37 : decode cX4_line 37 = .ok (.aload_n 0, 1) := by decide +kernel
theorem dX4_line_38 : decode cX4_line 38 = .ok (.getfield 13, 3) := by decide +kernel
theorem dX4_line_41 : decode cX4_line 41 = .ok (.bipush 10, 2) := by decide +kernel
theorem dX4_line_43 : decode cX4_line 43 = .ok (.iload_n 1, 1) := by decide +kernel
theorem dX4_line_44 : decode cX4_line 44 = .ok (.imul, 1) := by decide +kernel
theorem dX4_line_45 : decode cX4_line 45 = .ok (.iload_n 2, 1) := by decide +kernel
theorem dX4_line_46 : decode cX4_line 46 = .ok (.iadd, 1) := by decide +kernel
theorem dX4_line_47 : decode cX4_line 47 = .ok (.iload_n 3, 1) := by decide +kernel
theorem dX4_line_48 : decode cX4_line 48 = .ok (.iastore, 1) := by decide +kernel
theorem dX4_line_49 : decode cX4_line 49 = .ok (.aload_n 0, 1) := by decide +kernel
theorem dX4_line_50 : decode cX4_line 50 = .ok (.getfield 13, 3) := by decide +kernel
theorem dX4_line_53 : decode cX4_line 53 = .ok (.bipush 10, 2) := by decide +kernel
theorem dX4_line_55 : decode cX4_line 55 = .ok (.iload_n 2, 1) := by decide +kernel
theorem dX4_line_56 : decode cX4_line 56 = .ok (.imul, 1) := by decide +kernel
theorem dX4_line_57 : decode cX4_line 57 = .ok (.iload_n 1, 1) := by decide +kernel
theorem dX4_line_58 : decode cX4_line 58 = .ok (.iadd, 1) := by decide +kernel
theorem dX4_line_59 : decode cX4_line 59 = .ok (.iload_n 3, 1) := by decide +kernel
theorem dX4_line_60 : decode cX4_line 60 = .ok (.iastore, 1) := by decide +kernel
theorem dX4_line_61 : decode cX4_line 61 = .ok (.iload 4, 2) := by decide +kernel
theorem dX4_line_63 : decode cX4_line 63 = .ok (.ireturn, 1) := by decide +kernel
theorem dX4_weight_0 : decode cX4_weight 0 = .ok (.aload_n 0, 1) := by decide +kernel
theorem dX4_weight_1 : decode cX4_weight 1 = .ok (.iload_n 1, 1) := by decide +kernel
theorem dX4_weight_2 : decode cX4_weight 2 = .ok (.iload_n 2, 1) := by decide +kernel
theorem dX4_weight_3 : decode cX4_weight 3 = .ok (.invokevirtual 50, 3) := by decide +kernel
theorem dX4_weight_6 : decode cX4_weight 6 = .ok (.ifCond .eq 17, 3) := by decide +kernel
theorem dX4_weight_9 : decode cX4_weight 9 = .ok (.aload_n 0, 1) := by decide +kernel
theorem dX4_weight_10 : decode cX4_weight 10 = .ok (.getfield 13, 3) := by decide +kernel
theorem dX4_weight_13 : decode cX4_weight 13 = .ok (.bipush 10, 2) := by decide +kernel
theorem dX4_weight_15 : decode cX4_weight 15 = .ok (.iload_n 1, 1) := by decide +kernel
theorem dX4_weight_16 : decode cX4_weight 16 = .ok (.imul, 1) := by decide +kernel
theorem dX4_weight_17 : decode cX4_weight 17 = .ok (.iload_n 2, 1) := by decide +kernel
theorem dX4_weight_18 : decode cX4_weight 18 = .ok (.iadd, 1) := by decide +kernel
theorem dX4_weight_19 : decode cX4_weight 19 = .ok (.iaload, 1) := by decide +kernel
theorem dX4_weight_20 : decode cX4_weight 20 = .ok (.goto 4, 3) := by decide +kernel
theorem dX4_weight_23 : decode cX4_weight 23 = .ok (.iconst (-1), 1) := by decide +kernel
theorem dX4_weight_24 : decode cX4_weight 24 = .ok (.ireturn, 1) := by decide +kernel
theorem dX4_pay_0 : decode cX4_pay 0 = .ok (.iload_n 1, 1) := by decide +kernel
theorem dX4_pay_1 : decode cX4_pay 1 = .ok (.iconst 0, 1) := by decide +kernel
theorem dX4_pay_2 : decode cX4_pay 2 = .ok (.iconst 1, 1) := by decide +kernel
theorem dX4_pay_3 : decode cX4_pay 3 = .ok (.invokestatic 32, 3) := by decide +kernel
theorem dX4_pay_6 : decode cX4_pay 6 = .ok (.ifCond .eq 23, 3) := by decide +kernel
theorem dX4_pay_9 : decode cX4_pay 9 = .ok (.iload_n 2, 1) := by decide +kernel
theorem dX4_pay_10 : decode cX4_pay 10 = .ok (.iconst 0, 1) := by decide +kernel
theorem dX4_pay_11 : decode cX4_pay 11 = .ok (.iconst 1, 1) := by decide +kernel
theorem dX4_pay_12 : decode cX4_pay 12 = .ok (.invokestatic 32, 3) := by decide +kernel
theorem dX4_pay_15 : decode cX4_pay 15 = .ok (.ifCond .eq 14, 3) := by decide +kernel
theorem dX4_pay_18 : decode cX4_pay 18 = .ok (.iload_n 3, 1) := by decide +kernel
theorem dX4_pay_19 : decode cX4_pay 19 = .ok (.bipush (-9), 2) := by decide +kernel
theorem dX4_pay_21 : decode cX4_pay 21 = .ok (.bipush 9, 2) := by decide +kernel
theorem dX4_pay_23 : decode cX4_pay 23 = .ok (.invokestatic 32, 3) := by decide +kernel
theorem dX4_pay_26 : decode cX4_pay 26 = .ok (.ifCond .ne 6, 3) := by decide +kernel
theorem dX4_pay_29 : decode cX4_pay 29 = .ok (.ldc 54, 2) := by decide +kernel
theorem dX4_pay_31 : decode cX4_pay 31 = .ok (.ireturn, 1) := by decide +kernel
theorem dX4_pay_32 : decode cX4_pay 32 = .ok (.aload_n 0, 1) := by decide +kernel
theorem dX4_pay_33 : decode cX4_pay 33 = .ok (.getfield 17, 3) := by decide +kernel
theorem dX4_pay_36 : decode cX4_pay 36 = .ok (.iconst 2, 1) := by decide +kernel
theorem dX4_pay_37 : decode cX4_pay 37 = .ok (.iload_n 1, 1) := by decide +kernel
theorem dX4_pay_38 : decode cX4_pay 38 = .ok (.imul, 1) := by decide +kernel
theorem dX4_pay_39 : decode cX4_pay 39 = .ok (.iload_n 2, 1) := by decide +kernel
theorem dX4_pay_40 : decode cX4_pay 40 = .ok (.iadd, 1) := by decide +kernel
theorem dX4_pay_41 : decode cX4_pay 41 = .ok (.iaload, 1) := by decide +kernel
theorem dX4_pay_42 : decode cX4_pay 42 = .ok (.istore 4, 2) := by decide +kernel
theorem dX4_pay_44 : decode cX4_pay 44 = .ok (.aload_n 0, 1) := by decide +kernel
theorem dX4_pay_45 : decode cX4_pay 45 = .ok (.getfield 17, 3) := by decide +kernel
theorem dX4_pay_48 : decode cX4_pay 48 = .ok (.iconst 2, 1) := by decide +kernel
theorem dX4_pay_49 : decode cX4_pay 49 = .ok (.iload_n 1, 1) := by decide +kernel
theorem dX4_pay_50 : decode cX4_pay 50 = .ok (.imul, 1) := by decide +kernel
theorem dX4_pay_51 : decode cX4_pay 51 = .ok (.iload_n 2, 1) := by decide +kernel
theorem dX4_pay_52 : decode cX4_pay 52 = .ok (.iadd, 1) := by decide +kernel
theorem dX4_pay_53 : decode cX4_pay 53 = .ok (.iload_n 3, 1) := by decide +kernel
theorem dX4_pay_54 : decode cX4_pay 54 = .ok (.iastore, 1) := by decide +kernel
theorem dX4_pay_55 : decode cX4_pay 55 = .ok (.iload 4, 2) := by decide +kernel
theorem dX4_pay_57 : decode cX4_pay 57 = .ok (.ireturn, 1) := by decide +kernel
theorem dX4_bar_0 : decode cX4_bar 0 = .ok (.iload_n 1, 1) := by decide +kernel
theorem dX4_bar_1 : decode cX4_bar 1 = .ok (.iconst 0, 1) := by decide +kernel
theorem dX4_bar_2 : decode cX4_bar 2 = .ok (.bipush 100, 2) := by decide +kernel
theorem dX4_bar_4 : decode cX4_bar 4 = .ok (.invokestatic 32, 3) := by decide +kernel
theorem dX4_bar_7 : decode cX4_bar 7 = .ok (.ifCond .ne 6, 3) := by decide +kernel
theorem dX4_bar_10 : decode cX4_bar 10 = .ok (.bipush (-2), 2) := by decide +kernel
theorem dX4_bar_12 : decode cX4_bar 12 = .ok (.ireturn, 1) := by decide +kernel
theorem dX4_bar_13 : decode cX4_bar 13 = .ok (.aload_n 0, 1) := by decide +kernel
theorem dX4_bar_14 : decode cX4_bar 14 = .ok (.getfield 20, 3) := by decide +kernel
theorem dX4_bar_17 : decode cX4_bar 17 = .ok (.istore_n 2, 1) := by decide +kernel
theorem dX4_bar_18 : decode cX4_bar 18 = .ok (.aload_n 0, 1) := by decide +kernel
theorem dX4_bar_19 : decode cX4_bar 19 = .ok (.iload_n 1, 1) := by decide +kernel
theorem dX4_bar_20 : decode cX4_bar 20 = .ok (.putfield 20, 3) := by decide +kernel
theorem dX4_bar_23 : decode cX4_bar 23 = .ok (.iload_n 2, 1) := by decide +kernel
theorem dX4_bar_24 : decode cX4_bar 24 = .ok (.ireturn, 1) := by decide +kernel
theorem dX4_hold_0 : decode cX4_hold 0 = .ok (.aload_n 0, 1) := by decide +kernel
theorem dX4_hold_1 : decode cX4_hold 1 = .ok (.iload_n 1, 1) := by decide +kernel
theorem dX4_hold_2 : decode cX4_hold 2 = .ok (.invokevirtual 46, 3) := by decide +kernel
theorem dX4_hold_5 : decode cX4_hold 5 = .ok (.ifCond .ne 5, 3) := by decide +kernel
theorem dX4_hold_8 : decode cX4_hold 8 = .ok (.iconst (-1), 1) := by decide +kernel
theorem dX4_hold_9 : decode cX4_hold 9 = .ok (.ireturn, 1) := by decide +kernel
theorem dX4_hold_10 : decode cX4_hold 10 = .ok (.aload_n 0, 1) := by decide +kernel
theorem dX4_hold_11 : decode cX4_hold 11 = .ok (.getfield 40, 3) := by decide +kernel
theorem dX4_hold_14 : decode cX4_hold 14 = .ok (.iload_n 1, 1) := by decide +kernel
theorem dX4_hold_15 : decode cX4_hold 15 = .ok (.ishr, 1) := by decide +kernel
theorem dX4_hold_16 : decode cX4_hold 16 = .ok (.iconst 1, 1) := by decide +kernel
theorem dX4_hold_17 : decode cX4_hold 17 = .ok (.iand, 1) := by decide +kernel
theorem dX4_hold_18 : decode cX4_hold 18 = .ok (.istore_n 3, 1) := by decide +kernel
theorem dX4_hold_19 : decode cX4_hold 19 = .ok (.aload_n 0, 1) := by decide +kernel
theorem dX4_hold_20 : decode cX4_hold 20 = .ok (.iload_n 2, 1) := by decide +kernel
theorem dX4_hold_21 : decode cX4_hold 21 = .ok (.ifCond .eq 14, 3) := by decide +kernel
theorem dX4_hold_24 : decode cX4_hold 24 = .ok (.aload_n 0, 1) := by decide +kernel
theorem dX4_hold_25 : decode cX4_hold 25 = .ok (.getfield 40, 3) := by decide +kernel
theorem dX4_hold_28 : decode cX4_hold 28 = .ok (.iconst 1, 1) := by decide +kernel
theorem dX4_hold_29 : decode cX4_hold 29 = .ok (.iload_n 1, 1) := by decide +kernel
theorem dX4_hold_30 : decode cX4_hold 30 = .ok (.ishl, 1) := by decide +kernel
theorem dX4_hold_31 : decode cX4_hold 31 = .ok (.ior, 1) := by decide +kernel
theorem dX4_hold_32 : decode cX4_hold 32 = .ok (.goto 13, 3) := by decide +kernel
theorem dX4_hold_35 : decode cX4_hold 35 = .ok (.aload_n 0, 1) := by decide +kernel
theorem dX4_hold_36 : decode cX4_hold 36 = .ok (.getfield 40, 3) := by decide +kernel
theorem dX4_hold_39 : decode cX4_hold 39 = .ok (.iconst 1, 1) := by decide +kernel
theorem dX4_hold_40 : decode cX4_hold 40 = .ok (.iload_n 1, 1) := by decide +kernel
theorem dX4_hold_41 : decode cX4_hold 41 = .ok (.ishl, 1) := by decide +kernel
theorem dX4_hold_42 : decode cX4_hold 42 = .ok (.iconst (-1), 1) := by decide +kernel
theorem dX4_hold_43 : decode cX4_hold 43 = .ok (.ixor, 1) := by decide +kernel
theorem dX4_hold_44 : decode cX4_hold 44 = .ok (.iand, 1) := by decide +kernel
theorem dX4_hold_45 : decode cX4_hold 45 = .ok (.putfield 40, 3) := by decide +kernel
theorem dX4_hold_48 : decode cX4_hold 48 = .ok (.iload_n 3, 1) := by decide +kernel
theorem dX4_hold_49 : decode cX4_hold 49 = .ok (.ireturn, 1) := by decide +kernel
theorem dX4_state_0 : decode cX4_state 0 = .ok (.aload_n 0, 1) := by decide +kernel
theorem dX4_state_1 : decode cX4_state 1 = .ok (.iload_n 1, 1) := by decide +kernel
theorem dX4_state_2 : decode cX4_state 2 = .ok (.invokevirtual 55, 3) := by decide +kernel
theorem dX4_state_5 : decode cX4_state 5 = .ok (.ifCond .ne 6, 3) := by decide +kernel
theorem dX4_state_8 : decode cX4_state 8 = .ok (.bipush (-2), 2) := by decide +kernel
theorem dX4_state_10 : decode cX4_state 10 = .ok (.ireturn, 1) := by decide +kernel
theorem dX4_state_11 : decode cX4_state 11 = .ok (.aload_n 0, 1) := by decide +kernel
theorem dX4_state_12 : decode cX4_state 12 = .ok (.getfield 43, 3) := by decide +kernel
theorem dX4_state_15 : decode cX4_state 15 = .ok (.istore_n 2, 1) := by decide +kernel
theorem dX4_state_16 : decode cX4_state 16 = .ok (.aload_n 0, 1) := by decide +kernel
theorem dX4_state_17 : decode cX4_state 17 = .ok (.iload_n 1, 1) := by decide +kernel
theorem dX4_state_18 : decode cX4_state 18 = .ok (.putfield 43, 3) := by decide +kernel
theorem dX4_state_21 : decode cX4_state 21 = .ok (.iload_n 2, 1) := by decide +kernel
theorem dX4_state_22 : decode cX4_state 22 = .ok (.ireturn, 1) := by decide +kernel
theorem dX4_wageOf_0 : decode cX4_wageOf 0 = .ok (.iconst 0, 1) := by decide +kernel
theorem dX4_wageOf_1 : decode cX4_wageOf 1 = .ok (.istore 4, 2) := by decide +kernel
theorem dX4_wageOf_3 : decode cX4_wageOf 3 = .ok (.iconst 0, 1) := by decide +kernel
theorem dX4_wageOf_4 : decode cX4_wageOf 4 = .ok (.istore 5, 2) := by decide +kernel
theorem dX4_wageOf_6 : decode cX4_wageOf 6 = .ok (.iload 5, 2) := by decide +kernel
theorem dX4_wageOf_8 : decode cX4_wageOf 8 = .ok (.aload_n 0, 1) := by decide +kernel
theorem dX4_wageOf_9 : decode cX4_wageOf 9 = .ok (.getfield 7, 3) := by decide +kernel
theorem dX4_wageOf_12 : decode cX4_wageOf 12 = .ok (.if_icmp .ge 42, 3) := by decide +kernel
theorem dX4_wageOf_15 : decode cX4_wageOf 15 = .ok (.iload 4, 2) := by decide +kernel
theorem dX4_wageOf_17 : decode cX4_wageOf 17 = .ok (.aload_n 0, 1) := by decide +kernel
theorem dX4_wageOf_18 : decode cX4_wageOf 18 = .ok (.getfield 13, 3) := by decide +kernel
theorem dX4_wageOf_21 : decode cX4_wageOf 21 = .ok (.bipush 10, 2) := by decide +kernel
theorem dX4_wageOf_23 : decode cX4_wageOf 23 = .ok (.iload_n 2, 1) := by decide +kernel
theorem dX4_wageOf_24 : decode cX4_wageOf 24 = .ok (.imul, 1) := by decide +kernel
theorem dX4_wageOf_25 : decode cX4_wageOf 25 = .ok (.iload 5, 2) := by decide +kernel
theorem dX4_wageOf_27 : decode cX4_wageOf 27 = .ok (.iadd, 1) := by decide +kernel
theorem dX4_wageOf_28 : decode cX4_wageOf 28 = .ok (.iaload, 1) := by decide +kernel
theorem dX4_wageOf_29 : decode cX4_wageOf 29 = .ok (.aload_n 0, 1) := by decide +kernel
theorem dX4_wageOf_30 : decode cX4_wageOf 30 = .ok (.getfield 17, 3) := by decide +kernel
theorem dX4_wageOf_33 : decode cX4_wageOf 33 = .ok (.iconst 2, 1) := by decide +kernel
theorem dX4_wageOf_34 : decode cX4_wageOf 34 = .ok (.iload_n 3, 1) := by decide +kernel
theorem dX4_wageOf_35 : decode cX4_wageOf 35 = .ok (.imul, 1) := by decide +kernel
theorem dX4_wageOf_36 : decode cX4_wageOf 36 = .ok (.iload_n 1, 1) := by decide +kernel
theorem dX4_wageOf_37 : decode cX4_wageOf 37 = .ok (.iload 5, 2) := by decide +kernel
theorem dX4_wageOf_39 : decode cX4_wageOf 39 = .ok (.ishr, 1) := by decide +kernel
theorem dX4_wageOf_40 : decode cX4_wageOf 40 = .ok (.iconst 1, 1) := by decide +kernel
theorem dX4_wageOf_41 : decode cX4_wageOf 41 = .ok (.iand, 1) := by decide +kernel
theorem dX4_wageOf_42 : decode cX4_wageOf 42 = .ok (.iadd, 1) := by decide +kernel
theorem dX4_wageOf_43 : decode cX4_wageOf 43 = .ok (.iaload, 1) := by decide +kernel
theorem dX4_wageOf_44 : decode cX4_wageOf 44 = .ok (.imul, 1) := by decide +kernel
theorem dX4_wageOf_45 : decode cX4_wageOf 45 = .ok (.iadd, 1) := by decide +kernel
theorem dX4_wageOf_46 : decode cX4_wageOf 46 = .ok (.istore 4, 2) := by decide +kernel
theorem dX4_wageOf_48 : decode cX4_wageOf 48 = .ok (.iinc 5 1, 3) := by decide +kernel
theorem dX4_wageOf_51 : decode cX4_wageOf 51 = .ok (.goto (-45), 3) := by decide +kernel
theorem dX4_wageOf_54 : decode cX4_wageOf 54 = .ok (.iload 4, 2) := by decide +kernel
theorem dX4_wageOf_56 : decode cX4_wageOf 56 = .ok (.ireturn, 1) := by decide +kernel
theorem dX4_wage_0 : decode cX4_wage 0 = .ok (.aload_n 0, 1) := by decide +kernel
theorem dX4_wage_1 : decode cX4_wage 1 = .ok (.iload_n 1, 1) := by decide +kernel
theorem dX4_wage_2 : decode cX4_wage 2 = .ok (.invokevirtual 46, 3) := by decide +kernel
theorem dX4_wage_5 : decode cX4_wage 5 = .ok (.ifCond .ne 6, 3) := by decide +kernel
theorem dX4_wage_8 : decode cX4_wage 8 = .ok (.ldc 58, 2) := by decide +kernel
theorem dX4_wage_10 : decode cX4_wage 10 = .ok (.ireturn, 1) := by decide +kernel
theorem dX4_wage_11 : decode cX4_wage 11 = .ok (.iload_n 2, 1) := by decide +kernel
theorem dX4_wage_12 : decode cX4_wage 12 = .ok (.iconst 0, 1) := by decide +kernel
theorem dX4_wage_13 : decode cX4_wage 13 = .ok (.iconst 1, 1) := by decide +kernel
theorem dX4_wage_14 : decode cX4_wage 14 = .ok (.invokestatic 32, 3) := by decide +kernel
theorem dX4_wage_17 : decode cX4_wage 17 = .ok (.ifCond .ne 6, 3) := by decide +kernel
theorem dX4_wage_20 : decode cX4_wage 20 = .ok (.ldc 54, 2) := by decide +kernel
theorem dX4_wage_22 : decode cX4_wage 22 = .ok (.ireturn, 1) := by decide +kernel
theorem dX4_wage_23 : decode cX4_wage 23 = .ok (.aload_n 0, 1) := by decide +kernel
theorem dX4_wage_24 : decode cX4_wage 24 = .ok (.getfield 43, 3) := by decide +kernel
theorem dX4_wage_27 : decode cX4_wage 27 = .ok (.iload_n 1, 1) := by decide +kernel
theorem dX4_wage_28 : decode cX4_wage 28 = .ok (.ishr, 1) := by decide +kernel
theorem dX4_wage_29 : decode cX4_wage 29 = .ok (.iconst 1, 1) := by decide +kernel
theorem dX4_wage_30 : decode cX4_wage 30 = .ok (.iand, 1) := by decide +kernel
theorem dX4_wage_31 : decode cX4_wage 31 = .ok (.istore_n 3, 1) := by decide +kernel
theorem dX4_wage_32 : decode cX4_wage 32 = .ok (.aload_n 0, 1) := by decide +kernel
theorem dX4_wage_33 : decode cX4_wage 33 = .ok (.aload_n 0, 1) := by decide +kernel
theorem dX4_wage_34 : decode cX4_wage 34 = .ok (.getfield 43, 3) := by decide +kernel
theorem dX4_wage_37 : decode cX4_wage 37 = .ok (.iload_n 1, 1) := by decide +kernel
theorem dX4_wage_38 : decode cX4_wage 38 = .ok (.iload_n 2, 1) := by decide +kernel
theorem dX4_wage_39 : decode cX4_wage 39 = .ok (.ifCond .ne 7, 3) := by decide +kernel
theorem dX4_wage_42 : decode cX4_wage 42 = .ok (.iload_n 3, 1) := by decide +kernel
theorem dX4_wage_43 : decode cX4_wage 43 = .ok (.goto 6, 3) := by decide +kernel
theorem dX4_wage_46 : decode cX4_wage 46 = .ok (.iconst 1, 1) := by decide +kernel
theorem dX4_wage_47 : decode cX4_wage 47 = .ok (.iload_n 3, 1) := by decide +kernel
theorem dX4_wage_48 : decode cX4_wage 48 = .ok (.isub, 1) := by decide +kernel
theorem dX4_wage_49 : decode cX4_wage 49 = .ok (.invokevirtual 59, 3) := by decide +kernel
theorem dX4_wage_52 : decode cX4_wage 52 = .ok (.ireturn, 1) := by decide +kernel
theorem dX4_sum_0 : decode cX4_sum 0 = .ok (.iconst 0, 1) := by decide +kernel
theorem dX4_sum_1 : decode cX4_sum 1 = .ok (.istore_n 1, 1) := by decide +kernel
theorem dX4_sum_2 : decode cX4_sum 2 = .ok (.iconst 0, 1) := by decide +kernel
theorem dX4_sum_3 : decode cX4_sum 3 = .ok (.istore_n 2, 1) := by decide +kernel
theorem dX4_sum_4 : decode cX4_sum 4 = .ok (.iload_n 2, 1) := by decide +kernel
theorem dX4_sum_5 : decode cX4_sum 5 = .ok (.aload_n 0, 1) := by decide +kernel
theorem dX4_sum_6 : decode cX4_sum 6 = .ok (.getfield 7, 3) := by decide +kernel
theorem dX4_sum_9 : decode cX4_sum 9 = .ok (.if_icmp .ge 29, 3) := by decide +kernel
theorem dX4_sum_12 : decode cX4_sum 12 = .ok (.iload_n 1, 1) := by decide +kernel
theorem dX4_sum_13 : decode cX4_sum 13 = .ok (.aload_n 0, 1) := by decide +kernel
theorem dX4_sum_14 : decode cX4_sum 14 = .ok (.aload_n 0, 1) := by decide +kernel
theorem dX4_sum_15 : decode cX4_sum 15 = .ok (.getfield 43, 3) := by decide +kernel
theorem dX4_sum_18 : decode cX4_sum 18 = .ok (.iload_n 2, 1) := by decide +kernel
theorem dX4_sum_19 : decode cX4_sum 19 = .ok (.aload_n 0, 1) := by decide +kernel
theorem dX4_sum_20 : decode cX4_sum 20 = .ok (.getfield 43, 3) := by decide +kernel
theorem dX4_sum_23 : decode cX4_sum 23 = .ok (.iload_n 2, 1) := by decide +kernel
theorem dX4_sum_24 : decode cX4_sum 24 = .ok (.ishr, 1) := by decide +kernel
theorem dX4_sum_25 : decode cX4_sum 25 = .ok (.iconst 1, 1) := by decide +kernel
theorem dX4_sum_26 : decode cX4_sum 26 = .ok (.iand, 1) := by decide +kernel
theorem dX4_sum_27 : decode cX4_sum 27 = .ok (.invokevirtual 59, 3) := by decide +kernel
theorem dX4_sum_30 : decode cX4_sum 30 = .ok (.iadd, 1) := by decide +kernel
theorem dX4_sum_31 : decode cX4_sum 31 = .ok (.istore_n 1, 1) := by decide +kernel
theorem dX4_sum_32 : decode cX4_sum 32 = .ok (.iinc 2 1, 3) := by decide +kernel
theorem dX4_sum_35 : decode cX4_sum 35 = .ok (.goto (-31), 3) := by decide +kernel
theorem dX4_sum_38 : decode cX4_sum 38 = .ok (.iload_n 1, 1) := by decide +kernel
theorem dX4_sum_39 : decode cX4_sum 39 = .ok (.ireturn, 1) := by decide +kernel
theorem dX4_gains_0 : decode cX4_gains 0 = .ok (.iload_n 1, 1) := by decide +kernel
theorem dX4_gains_1 : decode cX4_gains 1 = .ok (.iload_n 2, 1) := by decide +kernel
theorem dX4_gains_2 : decode cX4_gains 2 = .ok (.ishr, 1) := by decide +kernel
theorem dX4_gains_3 : decode cX4_gains 3 = .ok (.iconst 1, 1) := by decide +kernel
theorem dX4_gains_4 : decode cX4_gains 4 = .ok (.iand, 1) := by decide +kernel
theorem dX4_gains_5 : decode cX4_gains 5 = .ok (.istore_n 3, 1) := by decide +kernel
theorem dX4_gains_6 : decode cX4_gains 6 = .ok (.aload_n 0, 1) := by decide +kernel
theorem dX4_gains_7 : decode cX4_gains 7 = .ok (.iload_n 1, 1) := by decide +kernel
theorem dX4_gains_8 : decode cX4_gains 8 = .ok (.iload_n 2, 1) := by decide +kernel
theorem dX4_gains_9 : decode cX4_gains 9 = .ok (.iconst 1, 1) := by decide +kernel
theorem dX4_gains_10 : decode cX4_gains 10 = .ok (.iload_n 3, 1) := by decide +kernel
theorem dX4_gains_11 : decode cX4_gains 11 = .ok (.isub, 1) := by decide +kernel
theorem dX4_gains_12 : decode cX4_gains 12 = .ok (.invokevirtual 59, 3) := by decide +kernel
theorem dX4_gains_15 : decode cX4_gains 15 = .ok (.aload_n 0, 1) := by decide +kernel
theorem dX4_gains_16 : decode cX4_gains 16 = .ok (.iload_n 1, 1) := by decide +kernel
theorem dX4_gains_17 : decode cX4_gains 17 = .ok (.iload_n 2, 1) := by decide +kernel
theorem dX4_gains_18 : decode cX4_gains 18 = .ok (.iload_n 3, 1) := by decide +kernel
theorem dX4_gains_19 : decode cX4_gains 19 = .ok (.invokevirtual 59, 3) := by decide +kernel
theorem dX4_gains_22 : decode cX4_gains 22 = .ok (.if_icmp .le 7, 3) := by decide +kernel
theorem dX4_gains_25 : decode cX4_gains 25 = .ok (.iconst 1, 1) := by decide +kernel
theorem dX4_gains_26 : decode cX4_gains 26 = .ok (.goto 4, 3) := by decide +kernel
theorem dX4_gains_29 : decode cX4_gains 29 = .ok (.iconst 0, 1) := by decide +kernel
theorem dX4_gains_30 : decode cX4_gains 30 = .ok (.ireturn, 1) := by decide +kernel
theorem dX4_copied_0 : decode cX4_copied 0 = .ok (.iload_n 2, 1) := by decide +kernel
theorem dX4_copied_1 : decode cX4_copied 1 = .ok (.istore_n 3, 1) := by decide +kernel
theorem dX4_copied_2 : decode cX4_copied 2 = .ok (.iconst 0, 1) := by decide +kernel
theorem dX4_copied_3 : decode cX4_copied 3 = .ok (.istore 4, 2) := by decide +kernel
theorem dX4_copied_5 : decode cX4_copied 5 = .ok (.iload 4, 2) := by decide +kernel
theorem dX4_copied_7 : decode cX4_copied 7 = .ok (.aload_n 0, 1) := by decide +kernel
theorem dX4_copied_8 : decode cX4_copied 8 = .ok (.getfield 7, 3) := by decide +kernel
theorem dX4_copied_11 : decode cX4_copied 11 = .ok (.if_icmp .ge 82, 3) := by decide +kernel
theorem dX4_copied_14 : decode cX4_copied 14 = .ok (.aload_n 0, 1) := by decide +kernel
theorem dX4_copied_15 : decode cX4_copied 15 = .ok (.getfield 13, 3) := by decide +kernel
theorem dX4_copied_18 : decode cX4_copied 18 = .ok (.bipush 10, 2) := by decide +kernel
theorem dX4_copied_20 : decode cX4_copied 20 = .ok (.iload_n 2, 1) := by decide +kernel
theorem dX4_copied_21 : decode cX4_copied 21 = .ok (.imul, 1) := by decide +kernel
theorem dX4_copied_22 : decode cX4_copied 22 = .ok (.iload 4, 2) := by decide +kernel
theorem dX4_copied_24 : decode cX4_copied 24 = .ok (.iadd, 1) := by decide +kernel
theorem dX4_copied_25 : decode cX4_copied 25 = .ok (.iaload, 1) := by decide +kernel
theorem dX4_copied_26 : decode cX4_copied 26 = .ok (.ifCond .le 7, 3) := by decide +kernel
theorem dX4_copied_29 : decode cX4_copied 29 = .ok (.iconst 1, 1) := by decide +kernel
theorem dX4_copied_30 : decode cX4_copied 30 = .ok (.goto 4, 3) := by decide +kernel
theorem dX4_copied_33 : decode cX4_copied 33 = .ok (.iconst 0, 1) := by decide +kernel
theorem dX4_copied_34 : decode cX4_copied 34 = .ok (.istore 5, 2) := by decide +kernel
theorem dX4_copied_36 : decode cX4_copied 36 = .ok (.iload 5, 2) := by decide +kernel
theorem dX4_copied_38 : decode cX4_copied 38 = .ok (.ifCond .eq 34, 3) := by decide +kernel
theorem dX4_copied_41 : decode cX4_copied 41 = .ok (.aload_n 0, 1) := by decide +kernel
theorem dX4_copied_42 : decode cX4_copied 42 = .ok (.iload_n 1, 1) := by decide +kernel
theorem dX4_copied_43 : decode cX4_copied 43 = .ok (.iload 4, 2) := by decide +kernel
theorem dX4_copied_45 : decode cX4_copied 45 = .ok (.iload_n 1, 1) := by decide +kernel
theorem dX4_copied_46 : decode cX4_copied 46 = .ok (.iload 4, 2) := by decide +kernel
theorem dX4_copied_48 : decode cX4_copied 48 = .ok (.ishr, 1) := by decide +kernel
theorem dX4_copied_49 : decode cX4_copied 49 = .ok (.iconst 1, 1) := by decide +kernel
theorem dX4_copied_50 : decode cX4_copied 50 = .ok (.iand, 1) := by decide +kernel
theorem dX4_copied_51 : decode cX4_copied 51 = .ok (.invokevirtual 59, 3) := by decide +kernel
theorem dX4_copied_54 : decode cX4_copied 54 = .ok (.aload_n 0, 1) := by decide +kernel
theorem dX4_copied_55 : decode cX4_copied 55 = .ok (.iload_n 1, 1) := by decide +kernel
theorem dX4_copied_56 : decode cX4_copied 56 = .ok (.iload_n 3, 1) := by decide +kernel
theorem dX4_copied_57 : decode cX4_copied 57 = .ok (.iload_n 1, 1) := by decide +kernel
theorem dX4_copied_58 : decode cX4_copied 58 = .ok (.iload_n 3, 1) := by decide +kernel
theorem dX4_copied_59 : decode cX4_copied 59 = .ok (.ishr, 1) := by decide +kernel
theorem dX4_copied_60 : decode cX4_copied 60 = .ok (.iconst 1, 1) := by decide +kernel
theorem dX4_copied_61 : decode cX4_copied 61 = .ok (.iand, 1) := by decide +kernel
theorem dX4_copied_62 : decode cX4_copied 62 = .ok (.invokevirtual 59, 3) := by decide +kernel
theorem dX4_copied_65 : decode cX4_copied 65 = .ok (.if_icmp .le 7, 3) := by decide +kernel
theorem dX4_copied_68 : decode cX4_copied 68 = .ok (.iconst 1, 1) := by decide +kernel
theorem dX4_copied_69 : decode cX4_copied 69 = .ok (.goto 4, 3) := by decide +kernel
theorem dX4_copied_72 : decode cX4_copied 72 = .ok (.iconst 0, 1) := by decide +kernel
theorem dX4_copied_73 : decode cX4_copied 73 = .ok (.istore 6, 2) := by decide +kernel
theorem dX4_copied_75 : decode cX4_copied 75 = .ok (.iload 6, 2) := by decide +kernel
theorem dX4_copied_77 : decode cX4_copied 77 = .ok (.ifCond .eq 8, 3) := by decide +kernel
theorem dX4_copied_80 : decode cX4_copied 80 = .ok (.iload 4, 2) := by decide +kernel
theorem dX4_copied_82 : decode cX4_copied 82 = .ok (.goto 4, 3) := by decide +kernel
theorem dX4_copied_85 : decode cX4_copied 85 = .ok (.iload_n 3, 1) := by decide +kernel
theorem dX4_copied_86 : decode cX4_copied 86 = .ok (.istore_n 3, 1) := by decide +kernel
theorem dX4_copied_87 : decode cX4_copied 87 = .ok (.iinc 4 1, 3) := by decide +kernel
theorem dX4_copied_90 : decode cX4_copied 90 = .ok (.goto (-85), 3) := by decide +kernel
theorem dX4_copied_93 : decode cX4_copied 93 = .ok (.iload_n 1, 1) := by decide +kernel
theorem dX4_copied_94 : decode cX4_copied 94 = .ok (.iload_n 3, 1) := by decide +kernel
theorem dX4_copied_95 : decode cX4_copied 95 = .ok (.ishr, 1) := by decide +kernel
theorem dX4_copied_96 : decode cX4_copied 96 = .ok (.iconst 1, 1) := by decide +kernel
theorem dX4_copied_97 : decode cX4_copied 97 = .ok (.iand, 1) := by decide +kernel
theorem dX4_copied_98 : decode cX4_copied 98 = .ok (.ireturn, 1) := by decide +kernel
theorem dX4_tipped_0 : decode cX4_tipped 0 = .ok (.iconst 0, 1) := by decide +kernel
theorem dX4_tipped_1 : decode cX4_tipped 1 = .ok (.istore_n 3, 1) := by decide +kernel
theorem dX4_tipped_2 : decode cX4_tipped 2 = .ok (.iconst 0, 1) := by decide +kernel
theorem dX4_tipped_3 : decode cX4_tipped 3 = .ok (.istore 4, 2) := by decide +kernel
theorem dX4_tipped_5 : decode cX4_tipped 5 = .ok (.iconst 0, 1) := by decide +kernel
theorem dX4_tipped_6 : decode cX4_tipped 6 = .ok (.istore 5, 2) := by decide +kernel
theorem dX4_tipped_8 : decode cX4_tipped 8 = .ok (.iload 5, 2) := by decide +kernel
theorem dX4_tipped_10 : decode cX4_tipped 10 = .ok (.aload_n 0, 1) := by decide +kernel
theorem dX4_tipped_11 : decode cX4_tipped 11 = .ok (.getfield 7, 3) := by decide +kernel
theorem dX4_tipped_14 : decode cX4_tipped 14 = .ok (.if_icmp .ge 55, 3) := by decide +kernel
theorem dX4_tipped_17 : decode cX4_tipped 17 = .ok (.iload_n 3, 1) := by decide +kernel
theorem dX4_tipped_18 : decode cX4_tipped 18 = .ok (.aload_n 0, 1) := by decide +kernel
theorem dX4_tipped_19 : decode cX4_tipped 19 = .ok (.getfield 13, 3) := by decide +kernel
theorem dX4_tipped_22 : decode cX4_tipped 22 = .ok (.bipush 10, 2) := by decide +kernel
theorem dX4_tipped_24 : decode cX4_tipped 24 = .ok (.iload_n 2, 1) := by decide +kernel
theorem dX4_tipped_25 : decode cX4_tipped 25 = .ok (.imul, 1) := by decide +kernel
theorem dX4_tipped_26 : decode cX4_tipped 26 = .ok (.iload 5, 2) := by decide +kernel
theorem dX4_tipped_28 : decode cX4_tipped 28 = .ok (.iadd, 1) := by decide +kernel
theorem dX4_tipped_29 : decode cX4_tipped 29 = .ok (.iaload, 1) := by decide +kernel
theorem dX4_tipped_30 : decode cX4_tipped 30 = .ok (.iadd, 1) := by decide +kernel
theorem dX4_tipped_31 : decode cX4_tipped 31 = .ok (.istore_n 3, 1) := by decide +kernel
theorem dX4_tipped_32 : decode cX4_tipped 32 = .ok (.iload 4, 2) := by decide +kernel
theorem dX4_tipped_34 : decode cX4_tipped 34 = .ok (.iload_n 1, 1) := by decide +kernel
theorem dX4_tipped_35 : decode cX4_tipped 35 = .ok (.iload 5, 2) := by decide +kernel
theorem dX4_tipped_37 : decode cX4_tipped 37 = .ok (.ishr, 1) := by decide +kernel
theorem dX4_tipped_38 : decode cX4_tipped 38 = .ok (.iconst 1, 1) := by decide +kernel
theorem dX4_tipped_39 : decode cX4_tipped 39 = .ok (.iand, 1) := by decide +kernel
theorem dX4_tipped_40 : decode cX4_tipped 40 = .ok (.iconst 1, 1) := by decide +kernel
theorem dX4_tipped_41 : decode cX4_tipped 41 = .ok (.if_icmp .ne 18, 3) := by decide +kernel
theorem dX4_tipped_44 : decode cX4_tipped 44 = .ok (.aload_n 0, 1) := by decide +kernel
theorem dX4_tipped_45 : decode cX4_tipped 45 = .ok (.getfield 13, 3) := by decide +kernel
theorem dX4_tipped_48 : decode cX4_tipped 48 = .ok (.bipush 10, 2) := by decide +kernel
theorem dX4_tipped_50 : decode cX4_tipped 50 = .ok (.iload_n 2, 1) := by decide +kernel
theorem dX4_tipped_51 : decode cX4_tipped 51 = .ok (.imul, 1) := by decide +kernel
theorem dX4_tipped_52 : decode cX4_tipped 52 = .ok (.iload 5, 2) := by decide +kernel
theorem dX4_tipped_54 : decode cX4_tipped 54 = .ok (.iadd, 1) := by decide +kernel
theorem dX4_tipped_55 : decode cX4_tipped 55 = .ok (.iaload, 1) := by decide +kernel
theorem dX4_tipped_56 : decode cX4_tipped 56 = .ok (.goto 4, 3) := by decide +kernel
theorem dX4_tipped_59 : decode cX4_tipped 59 = .ok (.iconst 0, 1) := by decide +kernel
theorem dX4_tipped_60 : decode cX4_tipped 60 = .ok (.iadd, 1) := by decide +kernel
theorem dX4_tipped_61 : decode cX4_tipped 61 = .ok (.istore 4, 2) := by decide +kernel
theorem dX4_tipped_63 : decode cX4_tipped 63 = .ok (.iinc 5 1, 3) := by decide +kernel
theorem dX4_tipped_66 : decode cX4_tipped 66 = .ok (.goto (-58), 3) := by decide +kernel
theorem dX4_tipped_69 : decode cX4_tipped 69 = .ok (.iload_n 3, 1) := by decide +kernel
theorem dX4_tipped_70 : decode cX4_tipped 70 = .ok (.ifCond .ne 11, 3) := by decide +kernel
theorem dX4_tipped_73 : decode cX4_tipped 73 = .ok (.iload_n 1, 1) := by decide +kernel
theorem dX4_tipped_74 : decode cX4_tipped 74 = .ok (.iload_n 2, 1) := by decide +kernel
theorem dX4_tipped_75 : decode cX4_tipped 75 = .ok (.ishr, 1) := by decide +kernel
theorem dX4_tipped_76 : decode cX4_tipped 76 = .ok (.iconst 1, 1) := by decide +kernel
theorem dX4_tipped_77 : decode cX4_tipped 77 = .ok (.iand, 1) := by decide +kernel
theorem dX4_tipped_78 : decode cX4_tipped 78 = .ok (.goto 22, 3) := by decide +kernel
theorem dX4_tipped_81 : decode cX4_tipped 81 = .ok (.bipush 100, 2) := by decide +kernel
theorem dX4_tipped_83 : decode cX4_tipped 83 = .ok (.iload 4, 2) := by decide +kernel
theorem dX4_tipped_85 : decode cX4_tipped 85 = .ok (.imul, 1) := by decide +kernel
theorem dX4_tipped_86 : decode cX4_tipped 86 = .ok (.aload_n 0, 1) := by decide +kernel
theorem dX4_tipped_87 : decode cX4_tipped 87 = .ok (.getfield 20, 3) := by decide +kernel
theorem dX4_tipped_90 : decode cX4_tipped 90 = .ok (.iload_n 3, 1) := by decide +kernel
theorem dX4_tipped_91 : decode cX4_tipped 91 = .ok (.imul, 1) := by decide +kernel
theorem dX4_tipped_92 : decode cX4_tipped 92 = .ok (.if_icmp .lt 7, 3) := by decide +kernel
theorem dX4_tipped_95 : decode cX4_tipped 95 = .ok (.iconst 1, 1) := by decide +kernel
theorem dX4_tipped_96 : decode cX4_tipped 96 = .ok (.goto 4, 3) := by decide +kernel
theorem dX4_tipped_99 : decode cX4_tipped 99 = .ok (.iconst 0, 1) := by decide +kernel
theorem dX4_tipped_100 : decode cX4_tipped 100 = .ok (.ireturn, 1) := by decide +kernel
theorem dX4_wayBehind_0 : decode cX4_wayBehind 0 = .ok (.iload_n 1, 1) := by decide +kernel
theorem dX4_wayBehind_1 : decode cX4_wayBehind 1 = .ok (.iconst 1, 1) := by decide +kernel
theorem dX4_wayBehind_2 : decode cX4_wayBehind 2 = .ok (.if_icmp .ne 10, 3) := by decide +kernel
theorem dX4_wayBehind_5 : decode cX4_wayBehind 5 = .ok (.aload_n 0, 1) := by decide +kernel
theorem dX4_wayBehind_6 : decode cX4_wayBehind 6 = .ok (.iload_n 2, 1) := by decide +kernel
theorem dX4_wayBehind_7 : decode cX4_wayBehind 7 = .ok (.iload_n 3, 1) := by decide +kernel
theorem dX4_wayBehind_8 : decode cX4_wayBehind 8 = .ok (.invokevirtual 63, 3) := by decide +kernel
theorem dX4_wayBehind_11 : decode cX4_wayBehind 11 = .ok (.ireturn, 1) := by decide +kernel
theorem dX4_wayBehind_12 : decode cX4_wayBehind 12 = .ok (.iload_n 1, 1) := by decide +kernel
theorem dX4_wayBehind_13 : decode cX4_wayBehind 13 = .ok (.iconst 2, 1) := by decide +kernel
theorem dX4_wayBehind_14 : decode cX4_wayBehind 14 = .ok (.if_icmp .ne 12, 3) := by decide +kernel
theorem dX4_wayBehind_17 : decode cX4_wayBehind 17 = .ok (.aload_n 0, 1) := by decide +kernel
theorem dX4_wayBehind_18 : decode cX4_wayBehind 18 = .ok (.iload_n 2, 1) := by decide +kernel
theorem dX4_wayBehind_19 : decode cX4_wayBehind 19 = .ok (.iload_n 3, 1) := by decide +kernel
theorem dX4_wayBehind_20 : decode cX4_wayBehind 20 = .ok (.invokevirtual 67, 3) := by decide +kernel
theorem dX4_wayBehind_23 : decode cX4_wayBehind 23 = .ok (.goto 27, 3) := by decide +kernel
theorem dX4_wayBehind_26 : decode cX4_wayBehind 26 = .ok (.aload_n 0, 1) := by decide +kernel
theorem dX4_wayBehind_27 : decode cX4_wayBehind 27 = .ok (.iload_n 2, 1) := by decide +kernel
theorem dX4_wayBehind_28 : decode cX4_wayBehind 28 = .ok (.iload_n 3, 1) := by decide +kernel
theorem dX4_wayBehind_29 : decode cX4_wayBehind 29 = .ok (.invokevirtual 70, 3) := by decide +kernel
theorem dX4_wayBehind_32 : decode cX4_wayBehind 32 = .ok (.ifCond .eq 13, 3) := by decide +kernel
theorem dX4_wayBehind_35 : decode cX4_wayBehind 35 = .ok (.iconst 1, 1) := by decide +kernel
theorem dX4_wayBehind_36 : decode cX4_wayBehind 36 = .ok (.iload_n 2, 1) := by decide +kernel
theorem dX4_wayBehind_37 : decode cX4_wayBehind 37 = .ok (.iload_n 3, 1) := by decide +kernel
theorem dX4_wayBehind_38 : decode cX4_wayBehind 38 = .ok (.ishr, 1) := by decide +kernel
theorem dX4_wayBehind_39 : decode cX4_wayBehind 39 = .ok (.iconst 1, 1) := by decide +kernel
theorem dX4_wayBehind_40 : decode cX4_wayBehind 40 = .ok (.iand, 1) := by decide +kernel
theorem dX4_wayBehind_41 : decode cX4_wayBehind 41 = .ok (.isub, 1) := by decide +kernel
theorem dX4_wayBehind_42 : decode cX4_wayBehind 42 = .ok (.goto 8, 3) := by decide +kernel
theorem dX4_wayBehind_45 : decode cX4_wayBehind 45 = .ok (.iload_n 2, 1) := by decide +kernel
theorem dX4_wayBehind_46 : decode cX4_wayBehind 46 = .ok (.iload_n 3, 1) := by decide +kernel
theorem dX4_wayBehind_47 : decode cX4_wayBehind 47 = .ok (.ishr, 1) := by decide +kernel
theorem dX4_wayBehind_48 : decode cX4_wayBehind 48 = .ok (.iconst 1, 1) := by decide +kernel
theorem dX4_wayBehind_49 : decode cX4_wayBehind 49 = .ok (.iand, 1) := by decide +kernel
theorem dX4_wayBehind_50 : decode cX4_wayBehind 50 = .ok (.ireturn, 1) := by decide +kernel
theorem dX4_next_0 : decode cX4_next 0 = .ok (.iload_n 2, 1) := by decide +kernel
theorem dX4_next_1 : decode cX4_next 1 = .ok (.istore 4, 2) := by decide +kernel
theorem dX4_next_3 : decode cX4_next 3 = .ok (.iconst 0, 1) := by decide +kernel
theorem dX4_next_4 : decode cX4_next 4 = .ok (.istore 5, 2) := by decide +kernel
theorem dX4_next_6 : decode cX4_next 6 = .ok (.iload 5, 2) := by decide +kernel
theorem dX4_next_8 : decode cX4_next 8 = .ok (.aload_n 0, 1) := by decide +kernel
theorem dX4_next_9 : decode cX4_next 9 = .ok (.getfield 7, 3) := by decide +kernel
theorem dX4_next_12 : decode cX4_next 12 = .ok (.if_icmp .ge 65, 3) := by decide +kernel
theorem dX4_next_15 : decode cX4_next 15 = .ok (.iload_n 3, 1) := by decide +kernel
theorem dX4_next_16 : decode cX4_next 16 = .ok (.iload 5, 2) := by decide +kernel
theorem dX4_next_18 : decode cX4_next 18 = .ok (.ishr, 1) := by decide +kernel
theorem dX4_next_19 : decode cX4_next 19 = .ok (.iconst 1, 1) := by decide +kernel
theorem dX4_next_20 : decode cX4_next 20 = .ok (.iand, 1) := by decide +kernel
theorem dX4_next_21 : decode cX4_next 21 = .ok (.ifCond .ne 50, 3) := by decide +kernel
theorem dX4_next_24 : decode cX4_next 24 = .ok (.aload_n 0, 1) := by decide +kernel
theorem dX4_next_25 : decode cX4_next 25 = .ok (.iload_n 1, 1) := by decide +kernel
theorem dX4_next_26 : decode cX4_next 26 = .ok (.iload_n 1, 1) := by decide +kernel
theorem dX4_next_27 : decode cX4_next 27 = .ok (.iconst 3, 1) := by decide +kernel
theorem dX4_next_28 : decode cX4_next 28 = .ok (.if_icmp .ne 8, 3) := by decide +kernel
theorem dX4_next_31 : decode cX4_next 31 = .ok (.iload 4, 2) := by decide +kernel
theorem dX4_next_33 : decode cX4_next 33 = .ok (.goto 4, 3) := by decide +kernel
theorem dX4_next_36 : decode cX4_next 36 = .ok (.iload_n 2, 1) := by decide +kernel
theorem dX4_next_37 : decode cX4_next 37 = .ok (.iload 5, 2) := by decide +kernel
theorem dX4_next_39 : decode cX4_next 39 = .ok (.invokevirtual 73, 3) := by decide +kernel
theorem dX4_next_42 : decode cX4_next 42 = .ok (.istore 6, 2) := by decide +kernel
theorem dX4_next_44 : decode cX4_next 44 = .ok (.iload 6, 2) := by decide +kernel
theorem dX4_next_46 : decode cX4_next 46 = .ok (.iconst 1, 1) := by decide +kernel
theorem dX4_next_47 : decode cX4_next 47 = .ok (.if_icmp .ne 13, 3) := by decide +kernel
theorem dX4_next_50 : decode cX4_next 50 = .ok (.iload 4, 2) := by decide +kernel
theorem dX4_next_52 : decode cX4_next 52 = .ok (.iconst 1, 1) := by decide +kernel
theorem dX4_next_53 : decode cX4_next 53 = .ok (.iload 5, 2) := by decide +kernel
theorem dX4_next_55 : decode cX4_next 55 = .ok (.ishl, 1) := by decide +kernel
theorem dX4_next_56 : decode cX4_next 56 = .ok (.ior, 1) := by decide +kernel
theorem dX4_next_57 : decode cX4_next 57 = .ok (.goto 12, 3) := by decide +kernel
theorem dX4_next_60 : decode cX4_next 60 = .ok (.iload 4, 2) := by decide +kernel
theorem dX4_next_62 : decode cX4_next 62 = .ok (.iconst 1, 1) := by decide +kernel
theorem dX4_next_63 : decode cX4_next 63 = .ok (.iload 5, 2) := by decide +kernel
theorem dX4_next_65 : decode cX4_next 65 = .ok (.ishl, 1) := by decide +kernel
theorem dX4_next_66 : decode cX4_next 66 = .ok (.iconst (-1), 1) := by decide +kernel
theorem dX4_next_67 : decode cX4_next 67 = .ok (.ixor, 1) := by decide +kernel
theorem dX4_next_68 : decode cX4_next 68 = .ok (.iand, 1) := by decide +kernel
theorem dX4_next_69 : decode cX4_next 69 = .ok (.istore 4, 2) := by decide +kernel
theorem dX4_next_71 : decode cX4_next 71 = .ok (.iinc 5 1, 3) := by decide +kernel
theorem dX4_next_74 : decode cX4_next 74 = .ok (.goto (-68), 3) := by decide +kernel
theorem dX4_next_77 : decode cX4_next 77 = .ok (.iload 4, 2) := by decide +kernel
theorem dX4_next_79 : decode cX4_next 79 = .ok (.ireturn, 1) := by decide +kernel
theorem dX4_isRule_0 : decode cX4_isRule 0 = .ok (.iload_n 0, 1) := by decide +kernel
theorem dX4_isRule_1 : decode cX4_isRule 1 = .ok (.iconst 0, 1) := by decide +kernel
theorem dX4_isRule_2 : decode cX4_isRule 2 = .ok (.iconst 3, 1) := by decide +kernel
theorem dX4_isRule_3 : decode cX4_isRule 3 = .ok (.invokestatic 32, 3) := by decide +kernel
theorem dX4_isRule_6 : decode cX4_isRule 6 = .ok (.ireturn, 1) := by decide +kernel
theorem dX4_step_0 : decode cX4_step 0 = .ok (.iload_n 1, 1) := by decide +kernel
theorem dX4_step_1 : decode cX4_step 1 = .ok (.invokestatic 76, 3) := by decide +kernel
theorem dX4_step_4 : decode cX4_step 4 = .ok (.ifCond .eq 13, 3) := by decide +kernel
theorem dX4_step_7 : decode cX4_step 7 = .ok (.iload_n 2, 1) := by decide +kernel
theorem dX4_step_8 : decode cX4_step 8 = .ok (.iconst 1, 1) := by decide +kernel
theorem dX4_step_9 : decode cX4_step 9 = .ok (.bipush 100, 2) := by decide +kernel
theorem dX4_step_11 : decode cX4_step 11 = .ok (.invokestatic 32, 3) := by decide +kernel
theorem dX4_step_14 : decode cX4_step 14 = .ok (.ifCond .ne 6, 3) := by decide +kernel
theorem dX4_step_17 : decode cX4_step 17 = .ok (.bipush (-2), 2) := by decide +kernel
theorem dX4_step_19 : decode cX4_step 19 = .ok (.ireturn, 1) := by decide +kernel
theorem dX4_step_20 : decode cX4_step 20 = .ok (.iconst 0, 1) := by decide +kernel
theorem dX4_step_21 : decode cX4_step 21 = .ok (.istore_n 3, 1) := by decide +kernel
theorem dX4_step_22 : decode cX4_step 22 = .ok (.iload_n 3, 1) := by decide +kernel
theorem dX4_step_23 : decode cX4_step 23 = .ok (.iload_n 2, 1) := by decide +kernel
theorem dX4_step_24 : decode cX4_step 24 = .ok (.if_icmp .ge 26, 3) := by decide +kernel
theorem dX4_step_27 : decode cX4_step 27 = .ok (.aload_n 0, 1) := by decide +kernel
theorem dX4_step_28 : decode cX4_step 28 = .ok (.aload_n 0, 1) := by decide +kernel
theorem dX4_step_29 : decode cX4_step 29 = .ok (.iload_n 1, 1) := by decide +kernel
theorem dX4_step_30 : decode cX4_step 30 = .ok (.aload_n 0, 1) := by decide +kernel
theorem dX4_step_31 : decode cX4_step 31 = .ok (.getfield 43, 3) := by decide +kernel
theorem dX4_step_34 : decode cX4_step 34 = .ok (.aload_n 0, 1) := by decide +kernel
theorem dX4_step_35 : decode cX4_step 35 = .ok (.getfield 40, 3) := by decide +kernel
theorem dX4_step_38 : decode cX4_step 38 = .ok (.invokevirtual 79, 3) := by decide +kernel
theorem dX4_step_41 : decode cX4_step 41 = .ok (.putfield 43, 3) := by decide +kernel
theorem dX4_step_44 : decode cX4_step 44 = .ok (.iinc 3 1, 3) := by decide +kernel
theorem dX4_step_47 : decode cX4_step 47 = .ok (.goto (-25), 3) := by decide +kernel
theorem dX4_step_50 : decode cX4_step 50 = .ok (.aload_n 0, 1) := by decide +kernel
theorem dX4_step_51 : decode cX4_step 51 = .ok (.getfield 43, 3) := by decide +kernel
theorem dX4_step_54 : decode cX4_step 54 = .ok (.ireturn, 1) := by decide +kernel
theorem dX4_after_0 : decode cX4_after 0 = .ok (.iload_n 1, 1) := by decide +kernel
theorem dX4_after_1 : decode cX4_after 1 = .ok (.invokestatic 76, 3) := by decide +kernel
theorem dX4_after_4 : decode cX4_after 4 = .ok (.ifCond .eq 24, 3) := by decide +kernel
theorem dX4_after_7 : decode cX4_after 7 = .ok (.aload_n 0, 1) := by decide +kernel
theorem dX4_after_8 : decode cX4_after 8 = .ok (.iload_n 2, 1) := by decide +kernel
theorem dX4_after_9 : decode cX4_after 9 = .ok (.invokevirtual 55, 3) := by decide +kernel
theorem dX4_after_12 : decode cX4_after 12 = .ok (.ifCond .eq 16, 3) := by decide +kernel
theorem dX4_after_15 : decode cX4_after 15 = .ok (.aload_n 0, 1) := by decide +kernel
theorem dX4_after_16 : decode cX4_after 16 = .ok (.iload_n 1, 1) := by decide +kernel
theorem dX4_after_17 : decode cX4_after 17 = .ok (.iload_n 2, 1) := by decide +kernel
theorem dX4_after_18 : decode cX4_after 18 = .ok (.aload_n 0, 1) := by decide +kernel
theorem dX4_after_19 : decode cX4_after 19 = .ok (.getfield 40, 3) := by decide +kernel
theorem dX4_after_22 : decode cX4_after 22 = .ok (.invokevirtual 79, 3) := by decide +kernel
theorem dX4_after_25 : decode cX4_after 25 = .ok (.goto 5, 3) := by decide +kernel
theorem dX4_after_28 : decode cX4_after 28 = .ok (.bipush (-2), 2) := by decide +kernel
theorem dX4_after_30 : decode cX4_after 30 = .ok (.ireturn, 1) := by decide +kernel
theorem dX4_isBeginning_0 : decode cX4_isBeginning 0 = .ok (.iload_n 1, 1) := by decide +kernel
theorem dX4_isBeginning_1 : decode cX4_isBeginning 1 = .ok (.aload_n 0, 1) := by decide +kernel
theorem dX4_isBeginning_2 : decode cX4_isBeginning 2 = .ok (.getfield 43, 3) := by decide +kernel
theorem dX4_isBeginning_5 : decode cX4_isBeginning 5 = .ok (.ixor, 1) := by decide +kernel
theorem dX4_isBeginning_6 : decode cX4_isBeginning 6 = .ok (.aload_n 0, 1) := by decide +kernel
theorem dX4_isBeginning_7 : decode cX4_isBeginning 7 = .ok (.getfield 40, 3) := by decide +kernel
theorem dX4_isBeginning_10 : decode cX4_isBeginning 10 = .ok (.iand, 1) := by decide +kernel
theorem dX4_isBeginning_11 : decode cX4_isBeginning 11 = .ok (.ifCond .ne 7, 3) := by decide +kernel
theorem dX4_isBeginning_14 : decode cX4_isBeginning 14 = .ok (.iconst 1, 1) := by decide +kernel
theorem dX4_isBeginning_15 : decode cX4_isBeginning 15 = .ok (.goto 4, 3) := by decide +kernel
theorem dX4_isBeginning_18 : decode cX4_isBeginning 18 = .ok (.iconst 0, 1) := by decide +kernel
theorem dX4_isBeginning_19 : decode cX4_isBeginning 19 = .ok (.ireturn, 1) := by decide +kernel
theorem dX4_layBehind_0 : decode cX4_layBehind 0 = .ok (.iconst 0, 1) := by decide +kernel
theorem dX4_layBehind_1 : decode cX4_layBehind 1 = .ok (.istore_n 2, 1) := by decide +kernel
theorem dX4_layBehind_2 : decode cX4_layBehind 2 = .ok (.iload_n 2, 1) := by decide +kernel
theorem dX4_layBehind_3 : decode cX4_layBehind 3 = .ok (.aload_n 0, 1) := by decide +kernel
theorem dX4_layBehind_4 : decode cX4_layBehind 4 = .ok (.invokevirtual 36, 3) := by decide +kernel
theorem dX4_layBehind_7 : decode cX4_layBehind 7 = .ok (.if_icmp .ge 38, 3) := by decide +kernel
theorem dX4_layBehind_10 : decode cX4_layBehind 10 = .ok (.aload_n 0, 1) := by decide +kernel
theorem dX4_layBehind_11 : decode cX4_layBehind 11 = .ok (.getfield 23, 3) := by decide +kernel
theorem dX4_layBehind_14 : decode cX4_layBehind 14 = .ok (.iload_n 2, 1) := by decide +kernel
theorem dX4_layBehind_15 : decode cX4_layBehind 15 = .ok (.aload_n 0, 1) := by decide +kernel
theorem dX4_layBehind_16 : decode cX4_layBehind 16 = .ok (.iload_n 2, 1) := by decide +kernel
theorem dX4_layBehind_17 : decode cX4_layBehind 17 = .ok (.invokevirtual 82, 3) := by decide +kernel
theorem dX4_layBehind_20 : decode cX4_layBehind 20 = .ok (.ifCond .eq 16, 3) := by decide +kernel
theorem dX4_layBehind_23 : decode cX4_layBehind 23 = .ok (.aload_n 0, 1) := by decide +kernel
theorem dX4_layBehind_24 : decode cX4_layBehind 24 = .ok (.iload_n 1, 1) := by decide +kernel
theorem dX4_layBehind_25 : decode cX4_layBehind 25 = .ok (.iload_n 2, 1) := by decide +kernel
theorem dX4_layBehind_26 : decode cX4_layBehind 26 = .ok (.aload_n 0, 1) := by decide +kernel
theorem dX4_layBehind_27 : decode cX4_layBehind 27 = .ok (.getfield 40, 3) := by decide +kernel
theorem dX4_layBehind_30 : decode cX4_layBehind 30 = .ok (.invokevirtual 79, 3) := by decide +kernel
theorem dX4_layBehind_33 : decode cX4_layBehind 33 = .ok (.goto 5, 3) := by decide +kernel
theorem dX4_layBehind_36 : decode cX4_layBehind 36 = .ok (.bipush (-6), 2) := by decide +kernel
theorem dX4_layBehind_38 : decode cX4_layBehind 38 = .ok (.iastore, 1) := by decide +kernel
theorem dX4_layBehind_39 : decode cX4_layBehind 39 = .ok (.iinc 2 1, 3) := by decide +kernel
theorem dX4_layBehind_42 : decode cX4_layBehind 42 = .ok (.goto (-40), 3) := by decide +kernel
theorem dX4_layBehind_45 : decode cX4_layBehind 45 = .ok (.return_, 1) := by decide +kernel
theorem dX4_inRing_0 : decode cX4_inRing 0 = .ok (.iload_n 1, 1) := by decide +kernel
theorem dX4_inRing_1 : decode cX4_inRing 1 = .ok (.istore_n 2, 1) := by decide +kernel
theorem dX4_inRing_2 : decode cX4_inRing 2 = .ok (.iconst 0, 1) := by decide +kernel
theorem dX4_inRing_3 : decode cX4_inRing 3 = .ok (.istore_n 3, 1) := by decide +kernel
theorem dX4_inRing_4 : decode cX4_inRing 4 = .ok (.iload_n 3, 1) := by decide +kernel
theorem dX4_inRing_5 : decode cX4_inRing 5 = .ok (.aload_n 0, 1) := by decide +kernel
theorem dX4_inRing_6 : decode cX4_inRing 6 = .ok (.invokevirtual 36, 3) := by decide +kernel
theorem dX4_inRing_9 : decode cX4_inRing 9 = .ok (.if_icmp .ge 16, 3) := by decide +kernel
theorem dX4_inRing_12 : decode cX4_inRing 12 = .ok (.aload_n 0, 1) := by decide +kernel
theorem dX4_inRing_13 : decode cX4_inRing 13 = .ok (.getfield 23, 3) := by decide +kernel
theorem dX4_inRing_16 : decode cX4_inRing 16 = .ok (.iload_n 2, 1) := by decide +kernel
theorem dX4_inRing_17 : decode cX4_inRing 17 = .ok (.iaload, 1) := by decide +kernel
theorem dX4_inRing_18 : decode cX4_inRing 18 = .ok (.istore_n 2, 1) := by decide +kernel
theorem dX4_inRing_19 : decode cX4_inRing 19 = .ok (.iinc 3 1, 3) := by decide +kernel
theorem dX4_inRing_22 : decode cX4_inRing 22 = .ok (.goto (-18), 3) := by decide +kernel
theorem dX4_inRing_25 : decode cX4_inRing 25 = .ok (.iload_n 2, 1) := by decide +kernel
theorem dX4_inRing_26 : decode cX4_inRing 26 = .ok (.ireturn, 1) := by decide +kernel
theorem dX4_ringOf_0 : decode cX4_ringOf 0 = .ok (.iconst 1, 1) := by decide +kernel
theorem dX4_ringOf_1 : decode cX4_ringOf 1 = .ok (.istore_n 2, 1) := by decide +kernel
theorem dX4_ringOf_2 : decode cX4_ringOf 2 = .ok (.aload_n 0, 1) := by decide +kernel
theorem dX4_ringOf_3 : decode cX4_ringOf 3 = .ok (.getfield 23, 3) := by decide +kernel
theorem dX4_ringOf_6 : decode cX4_ringOf 6 = .ok (.iload_n 1, 1) := by decide +kernel
theorem dX4_ringOf_7 : decode cX4_ringOf 7 = .ok (.iaload, 1) := by decide +kernel
theorem dX4_ringOf_8 : decode cX4_ringOf 8 = .ok (.istore_n 3, 1) := by decide +kernel
theorem dX4_ringOf_9 : decode cX4_ringOf 9 = .ok (.iload_n 3, 1) := by decide +kernel
theorem dX4_ringOf_10 : decode cX4_ringOf 10 = .ok (.iload_n 1, 1) := by decide +kernel
theorem dX4_ringOf_11 : decode cX4_ringOf 11 = .ok (.if_icmp .eq 16, 3) := by decide +kernel
theorem dX4_ringOf_14 : decode cX4_ringOf 14 = .ok (.iinc 2 1, 3) := by decide +kernel
theorem dX4_ringOf_17 : decode cX4_ringOf 17 = .ok (.aload_n 0, 1) := by decide +kernel
theorem dX4_ringOf_18 : decode cX4_ringOf 18 = .ok (.getfield 23, 3) := by decide +kernel
theorem dX4_ringOf_21 : decode cX4_ringOf 21 = .ok (.iload_n 3, 1) := by decide +kernel
theorem dX4_ringOf_22 : decode cX4_ringOf 22 = .ok (.iaload, 1) := by decide +kernel
theorem dX4_ringOf_23 : decode cX4_ringOf 23 = .ok (.istore_n 3, 1) := by decide +kernel
theorem dX4_ringOf_24 : decode cX4_ringOf 24 = .ok (.goto (-15), 3) := by decide +kernel
theorem dX4_ringOf_27 : decode cX4_ringOf 27 = .ok (.iload_n 2, 1) := by decide +kernel
theorem dX4_ringOf_28 : decode cX4_ringOf 28 = .ok (.ireturn, 1) := by decide +kernel
theorem dX4_leastOf_0 : decode cX4_leastOf 0 = .ok (.iload_n 1, 1) := by decide +kernel
theorem dX4_leastOf_1 : decode cX4_leastOf 1 = .ok (.istore_n 2, 1) := by decide +kernel
theorem dX4_leastOf_2 : decode cX4_leastOf 2 = .ok (.aload_n 0, 1) := by decide +kernel
theorem dX4_leastOf_3 : decode cX4_leastOf 3 = .ok (.getfield 23, 3) := by decide +kernel
theorem dX4_leastOf_6 : decode cX4_leastOf 6 = .ok (.iload_n 1, 1) := by decide +kernel
theorem dX4_leastOf_7 : decode cX4_leastOf 7 = .ok (.iaload, 1) := by decide +kernel
theorem dX4_leastOf_8 : decode cX4_leastOf 8 = .ok (.istore_n 3, 1) := by decide +kernel
theorem dX4_leastOf_9 : decode cX4_leastOf 9 = .ok (.iload_n 3, 1) := by decide +kernel
theorem dX4_leastOf_10 : decode cX4_leastOf 10 = .ok (.iload_n 1, 1) := by decide +kernel
theorem dX4_leastOf_11 : decode cX4_leastOf 11 = .ok (.if_icmp .eq 24, 3) := by decide +kernel
theorem dX4_leastOf_14 : decode cX4_leastOf 14 = .ok (.iload_n 3, 1) := by decide +kernel
theorem dX4_leastOf_15 : decode cX4_leastOf 15 = .ok (.iload_n 2, 1) := by decide +kernel
theorem dX4_leastOf_16 : decode cX4_leastOf 16 = .ok (.if_icmp .ge 7, 3) := by decide +kernel
theorem dX4_leastOf_19 : decode cX4_leastOf 19 = .ok (.iload_n 3, 1) := by decide +kernel
theorem dX4_leastOf_20 : decode cX4_leastOf 20 = .ok (.goto 4, 3) := by decide +kernel
theorem dX4_leastOf_23 : decode cX4_leastOf 23 = .ok (.iload_n 2, 1) := by decide +kernel
theorem dX4_leastOf_24 : decode cX4_leastOf 24 = .ok (.istore_n 2, 1) := by decide +kernel
theorem dX4_leastOf_25 : decode cX4_leastOf 25 = .ok (.aload_n 0, 1) := by decide +kernel
theorem dX4_leastOf_26 : decode cX4_leastOf 26 = .ok (.getfield 23, 3) := by decide +kernel
theorem dX4_leastOf_29 : decode cX4_leastOf 29 = .ok (.iload_n 3, 1) := by decide +kernel
theorem dX4_leastOf_30 : decode cX4_leastOf 30 = .ok (.iaload, 1) := by decide +kernel
theorem dX4_leastOf_31 : decode cX4_leastOf 31 = .ok (.istore_n 3, 1) := by decide +kernel
theorem dX4_leastOf_32 : decode cX4_leastOf 32 = .ok (.goto (-23), 3) := by decide +kernel
theorem dX4_leastOf_35 : decode cX4_leastOf 35 = .ok (.iload_n 2, 1) := by decide +kernel
theorem dX4_leastOf_36 : decode cX4_leastOf 36 = .ok (.ireturn, 1) := by decide +kernel
theorem dX4_goes_0 : decode cX4_goes 0 = .ok (.iload_n 1, 1) := by decide +kernel
theorem dX4_goes_1 : decode cX4_goes 1 = .ok (.invokestatic 76, 3) := by decide +kernel
theorem dX4_goes_4 : decode cX4_goes 4 = .ok (.ifCond .eq 12, 3) := by decide +kernel
theorem dX4_goes_7 : decode cX4_goes 7 = .ok (.iload_n 2, 1) := by decide +kernel
theorem dX4_goes_8 : decode cX4_goes 8 = .ok (.iconst 0, 1) := by decide +kernel
theorem dX4_goes_9 : decode cX4_goes 9 = .ok (.iconst 3, 1) := by decide +kernel
theorem dX4_goes_10 : decode cX4_goes 10 = .ok (.invokestatic 32, 3) := by decide +kernel
theorem dX4_goes_13 : decode cX4_goes 13 = .ok (.ifCond .ne 6, 3) := by decide +kernel
theorem dX4_goes_16 : decode cX4_goes 16 = .ok (.bipush (-2), 2) := by decide +kernel
theorem dX4_goes_18 : decode cX4_goes 18 = .ok (.ireturn, 1) := by decide +kernel
theorem dX4_goes_19 : decode cX4_goes 19 = .ok (.aload_n 0, 1) := by decide +kernel
theorem dX4_goes_20 : decode cX4_goes 20 = .ok (.iload_n 1, 1) := by decide +kernel
theorem dX4_goes_21 : decode cX4_goes 21 = .ok (.invokevirtual 85, 3) := by decide +kernel
theorem dX4_goes_24 : decode cX4_goes 24 = .ok (.aload_n 0, 1) := by decide +kernel
theorem dX4_goes_25 : decode cX4_goes 25 = .ok (.aload_n 0, 1) := by decide +kernel
theorem dX4_goes_26 : decode cX4_goes 26 = .ok (.getfield 43, 3) := by decide +kernel
theorem dX4_goes_29 : decode cX4_goes 29 = .ok (.invokevirtual 89, 3) := by decide +kernel
theorem dX4_goes_32 : decode cX4_goes 32 = .ok (.istore_n 3, 1) := by decide +kernel
theorem dX4_goes_33 : decode cX4_goes 33 = .ok (.iconst 0, 1) := by decide +kernel
theorem dX4_goes_34 : decode cX4_goes 34 = .ok (.istore 4, 2) := by decide +kernel
theorem dX4_goes_36 : decode cX4_goes 36 = .ok (.aload_n 0, 1) := by decide +kernel
theorem dX4_goes_37 : decode cX4_goes 37 = .ok (.getfield 43, 3) := by decide +kernel
theorem dX4_goes_40 : decode cX4_goes 40 = .ok (.istore 5, 2) := by decide +kernel
theorem dX4_goes_42 : decode cX4_goes 42 = .ok (.aload_n 0, 1) := by decide +kernel
theorem dX4_goes_43 : decode cX4_goes 43 = .ok (.iload 5, 2) := by decide +kernel
theorem dX4_goes_45 : decode cX4_goes 45 = .ok (.iload_n 3, 1) := by decide +kernel
theorem dX4_goes_46 : decode cX4_goes 46 = .ok (.invokevirtual 93, 3) := by decide +kernel
theorem dX4_goes_49 : decode cX4_goes 49 = .ok (.ifCond .ne 18, 3) := by decide +kernel
theorem dX4_goes_52 : decode cX4_goes 52 = .ok (.aload_n 0, 1) := by decide +kernel
theorem dX4_goes_53 : decode cX4_goes 53 = .ok (.getfield 23, 3) := by decide +kernel
theorem dX4_goes_56 : decode cX4_goes 56 = .ok (.iload 5, 2) := by decide +kernel
theorem dX4_goes_58 : decode cX4_goes 58 = .ok (.iaload, 1) := by decide +kernel
theorem dX4_goes_59 : decode cX4_goes 59 = .ok (.istore 5, 2) := by decide +kernel
theorem dX4_goes_61 : decode cX4_goes 61 = .ok (.iinc 4 1, 3) := by decide +kernel
theorem dX4_goes_64 : decode cX4_goes 64 = .ok (.goto (-22), 3) := by decide +kernel
theorem dX4_goes_67 : decode cX4_goes 67 = .ok (.iload_n 2, 1) := by decide +kernel
theorem dX4_goes_68 : decode cX4_goes 68 = .ok (.ifCond .ne 8, 3) := by decide +kernel
theorem dX4_goes_71 : decode cX4_goes 71 = .ok (.iload 4, 2) := by decide +kernel
theorem dX4_goes_73 : decode cX4_goes 73 = .ok (.goto 31, 3) := by decide +kernel
theorem dX4_goes_76 : decode cX4_goes 76 = .ok (.iload_n 2, 1) := by decide +kernel
theorem dX4_goes_77 : decode cX4_goes 77 = .ok (.iconst 1, 1) := by decide +kernel
theorem dX4_goes_78 : decode cX4_goes 78 = .ok (.if_icmp .ne 11, 3) := by decide +kernel
theorem dX4_goes_81 : decode cX4_goes 81 = .ok (.aload_n 0, 1) := by decide +kernel
theorem dX4_goes_82 : decode cX4_goes 82 = .ok (.iload_n 3, 1) := by decide +kernel
theorem dX4_goes_83 : decode cX4_goes 83 = .ok (.invokevirtual 96, 3) := by decide +kernel
theorem dX4_goes_86 : decode cX4_goes 86 = .ok (.goto 18, 3) := by decide +kernel
theorem dX4_goes_89 : decode cX4_goes 89 = .ok (.iload_n 2, 1) := by decide +kernel
theorem dX4_goes_90 : decode cX4_goes 90 = .ok (.iconst 2, 1) := by decide +kernel
theorem dX4_goes_91 : decode cX4_goes 91 = .ok (.if_icmp .ne 11, 3) := by decide +kernel
theorem dX4_goes_94 : decode cX4_goes 94 = .ok (.aload_n 0, 1) := by decide +kernel
theorem dX4_goes_95 : decode cX4_goes 95 = .ok (.iload_n 3, 1) := by decide +kernel
theorem dX4_goes_96 : decode cX4_goes 96 = .ok (.invokevirtual 99, 3) := by decide +kernel
theorem dX4_goes_99 : decode cX4_goes 99 = .ok (.goto 5, 3) := by decide +kernel
theorem dX4_goes_102 : decode cX4_goes 102 = .ok (.iload 5, 2) := by decide +kernel
theorem dX4_goes_104 : decode cX4_goes 104 = .ok (.ireturn, 1) := by decide +kernel
theorem dX4_isOn_0 : decode cX4_isOn 0 = .ok (.iload_n 1, 1) := by decide +kernel
theorem dX4_isOn_1 : decode cX4_isOn 1 = .ok (.iload_n 2, 1) := by decide +kernel
theorem dX4_isOn_2 : decode cX4_isOn 2 = .ok (.if_icmp .ne 7, 3) := by decide +kernel
theorem dX4_isOn_5 : decode cX4_isOn 5 = .ok (.iconst 1, 1) := by decide +kernel
theorem dX4_isOn_6 : decode cX4_isOn 6 = .ok (.goto 4, 3) := by decide +kernel
theorem dX4_isOn_9 : decode cX4_isOn 9 = .ok (.iconst 0, 1) := by decide +kernel
theorem dX4_isOn_10 : decode cX4_isOn 10 = .ok (.istore_n 3, 1) := by decide +kernel
theorem dX4_isOn_11 : decode cX4_isOn 11 = .ok (.aload_n 0, 1) := by decide +kernel
theorem dX4_isOn_12 : decode cX4_isOn 12 = .ok (.getfield 23, 3) := by decide +kernel
theorem dX4_isOn_15 : decode cX4_isOn 15 = .ok (.iload_n 2, 1) := by decide +kernel
theorem dX4_isOn_16 : decode cX4_isOn 16 = .ok (.iaload, 1) := by decide +kernel
theorem dX4_isOn_17 : decode cX4_isOn 17 = .ok (.istore 4, 2) := by decide +kernel
theorem dX4_isOn_19 : decode cX4_isOn 19 = .ok (.iload 4, 2) := by decide +kernel
theorem dX4_isOn_21 : decode cX4_isOn 21 = .ok (.iload_n 2, 1) := by decide +kernel
theorem dX4_isOn_22 : decode cX4_isOn 22 = .ok (.if_icmp .eq 31, 3) := by decide +kernel
theorem dX4_isOn_25 : decode cX4_isOn 25 = .ok (.iload_n 3, 1) := by decide +kernel
theorem dX4_isOn_26 : decode cX4_isOn 26 = .ok (.ifCond .ne 27, 3) := by decide +kernel
theorem dX4_isOn_29 : decode cX4_isOn 29 = .ok (.iload 4, 2) := by decide +kernel
theorem dX4_isOn_31 : decode cX4_isOn 31 = .ok (.iload_n 1, 1) := by decide +kernel
theorem dX4_isOn_32 : decode cX4_isOn 32 = .ok (.if_icmp .ne 7, 3) := by decide +kernel
theorem dX4_isOn_35 : decode cX4_isOn 35 = .ok (.iconst 1, 1) := by decide +kernel
theorem dX4_isOn_36 : decode cX4_isOn 36 = .ok (.goto 4, 3) := by decide +kernel
theorem dX4_isOn_39 : decode cX4_isOn 39 = .ok (.iconst 0, 1) := by decide +kernel
theorem dX4_isOn_40 : decode cX4_isOn 40 = .ok (.istore_n 3, 1) := by decide +kernel
theorem dX4_isOn_41 : decode cX4_isOn 41 = .ok (.aload_n 0, 1) := by decide +kernel
theorem dX4_isOn_42 : decode cX4_isOn 42 = .ok (.getfield 23, 3) := by decide +kernel
theorem dX4_isOn_45 : decode cX4_isOn 45 = .ok (.iload 4, 2) := by decide +kernel
theorem dX4_isOn_47 : decode cX4_isOn 47 = .ok (.iaload, 1) := by decide +kernel
theorem dX4_isOn_48 : decode cX4_isOn 48 = .ok (.istore 4, 2) := by decide +kernel
theorem dX4_isOn_50 : decode cX4_isOn 50 = .ok (.goto (-31), 3) := by decide +kernel
theorem dX4_isOn_53 : decode cX4_isOn 53 = .ok (.iload_n 3, 1) := by decide +kernel
theorem dX4_isOn_54 : decode cX4_isOn 54 = .ok (.ireturn, 1) := by decide +kernel
theorem dX4_layEnds_0 : decode cX4_layEnds 0 = .ok (.aload_n 0, 1) := by decide +kernel
theorem dX4_layEnds_1 : decode cX4_layEnds 1 = .ok (.iload_n 1, 1) := by decide +kernel
theorem dX4_layEnds_2 : decode cX4_layEnds 2 = .ok (.invokevirtual 85, 3) := by decide +kernel
theorem dX4_layEnds_5 : decode cX4_layEnds 5 = .ok (.iconst 0, 1) := by decide +kernel
theorem dX4_layEnds_6 : decode cX4_layEnds 6 = .ok (.istore_n 2, 1) := by decide +kernel
theorem dX4_layEnds_7 : decode cX4_layEnds 7 = .ok (.iload_n 2, 1) := by decide +kernel
theorem dX4_layEnds_8 : decode cX4_layEnds 8 = .ok (.aload_n 0, 1) := by decide +kernel
theorem dX4_layEnds_9 : decode cX4_layEnds 9 = .ok (.invokevirtual 36, 3) := by decide +kernel
theorem dX4_layEnds_12 : decode cX4_layEnds 12 = .ok (.if_icmp .ge 17, 3) := by decide +kernel
theorem dX4_layEnds_15 : decode cX4_layEnds 15 = .ok (.aload_n 0, 1) := by decide +kernel
theorem dX4_layEnds_16 : decode cX4_layEnds 16 = .ok (.getfield 26, 3) := by decide +kernel
theorem dX4_layEnds_19 : decode cX4_layEnds 19 = .ok (.iload_n 2, 1) := by decide +kernel
theorem dX4_layEnds_20 : decode cX4_layEnds 20 = .ok (.bipush (-6), 2) := by decide +kernel
theorem dX4_layEnds_22 : decode cX4_layEnds 22 = .ok (.iastore, 1) := by decide +kernel
theorem dX4_layEnds_23 : decode cX4_layEnds 23 = .ok (.iinc 2 1, 3) := by decide +kernel
theorem dX4_layEnds_26 : decode cX4_layEnds 26 = .ok (.goto (-19), 3) := by decide +kernel
theorem dX4_layEnds_29 : decode cX4_layEnds 29 = .ok (.iconst 0, 1) := by decide +kernel
theorem dX4_layEnds_30 : decode cX4_layEnds 30 = .ok (.istore_n 2, 1) := by decide +kernel
theorem dX4_layEnds_31 : decode cX4_layEnds 31 = .ok (.iload_n 2, 1) := by decide +kernel
theorem dX4_layEnds_32 : decode cX4_layEnds 32 = .ok (.aload_n 0, 1) := by decide +kernel
theorem dX4_layEnds_33 : decode cX4_layEnds 33 = .ok (.invokevirtual 36, 3) := by decide +kernel
theorem dX4_layEnds_36 : decode cX4_layEnds 36 = .ok (.if_icmp .ge 97, 3) := by decide +kernel
theorem dX4_layEnds_39 : decode cX4_layEnds 39 = .ok (.aload_n 0, 1) := by decide +kernel
theorem dX4_layEnds_40 : decode cX4_layEnds 40 = .ok (.iload_n 2, 1) := by decide +kernel
theorem dX4_layEnds_41 : decode cX4_layEnds 41 = .ok (.invokevirtual 82, 3) := by decide +kernel
theorem dX4_layEnds_44 : decode cX4_layEnds 44 = .ok (.ifCond .eq 83, 3) := by decide +kernel
theorem dX4_layEnds_47 : decode cX4_layEnds 47 = .ok (.aload_n 0, 1) := by decide +kernel
theorem dX4_layEnds_48 : decode cX4_layEnds 48 = .ok (.iload_n 2, 1) := by decide +kernel
theorem dX4_layEnds_49 : decode cX4_layEnds 49 = .ok (.invokevirtual 89, 3) := by decide +kernel
theorem dX4_layEnds_52 : decode cX4_layEnds 52 = .ok (.istore_n 3, 1) := by decide +kernel
theorem dX4_layEnds_53 : decode cX4_layEnds 53 = .ok (.aload_n 0, 1) := by decide +kernel
theorem dX4_layEnds_54 : decode cX4_layEnds 54 = .ok (.getfield 26, 3) := by decide +kernel
theorem dX4_layEnds_57 : decode cX4_layEnds 57 = .ok (.iload_n 3, 1) := by decide +kernel
theorem dX4_layEnds_58 : decode cX4_layEnds 58 = .ok (.iaload, 1) := by decide +kernel
theorem dX4_layEnds_59 : decode cX4_layEnds 59 = .ok (.ifCond .ge 68, 3) := by decide +kernel
theorem dX4_layEnds_62 : decode cX4_layEnds 62 = .ok (.aload_n 0, 1) := by decide +kernel
theorem dX4_layEnds_63 : decode cX4_layEnds 63 = .ok (.iload_n 3, 1) := by decide +kernel
theorem dX4_layEnds_64 : decode cX4_layEnds 64 = .ok (.invokevirtual 99, 3) := by decide +kernel
theorem dX4_layEnds_67 : decode cX4_layEnds 67 = .ok (.istore 4, 2) := by decide +kernel
theorem dX4_layEnds_69 : decode cX4_layEnds 69 = .ok (.aload_n 0, 1) := by decide +kernel
theorem dX4_layEnds_70 : decode cX4_layEnds 70 = .ok (.getfield 26, 3) := by decide +kernel
theorem dX4_layEnds_73 : decode cX4_layEnds 73 = .ok (.iload_n 3, 1) := by decide +kernel
theorem dX4_layEnds_74 : decode cX4_layEnds 74 = .ok (.iload 4, 2) := by decide +kernel
theorem dX4_layEnds_76 : decode cX4_layEnds 76 = .ok (.iastore, 1) := by decide +kernel
theorem dX4_layEnds_77 : decode cX4_layEnds 77 = .ok (.aload_n 0, 1) := by decide +kernel
theorem dX4_layEnds_78 : decode cX4_layEnds 78 = .ok (.getfield 29, 3) := by decide +kernel
theorem dX4_layEnds_81 : decode cX4_layEnds 81 = .ok (.iload_n 3, 1) := by decide +kernel
theorem dX4_layEnds_82 : decode cX4_layEnds 82 = .ok (.iconst 0, 1) := by decide +kernel
theorem dX4_layEnds_83 : decode cX4_layEnds 83 = .ok (.iastore, 1) := by decide +kernel
theorem dX4_layEnds_84 : decode cX4_layEnds 84 = .ok (.aload_n 0, 1) := by decide +kernel
theorem dX4_layEnds_85 : decode cX4_layEnds 85 = .ok (.getfield 23, 3) := by decide +kernel
theorem dX4_layEnds_88 : decode cX4_layEnds 88 = .ok (.iload_n 3, 1) := by decide +kernel
theorem dX4_layEnds_89 : decode cX4_layEnds 89 = .ok (.iaload, 1) := by decide +kernel
theorem dX4_layEnds_90 : decode cX4_layEnds 90 = .ok (.istore 5, 2) := by decide +kernel
theorem dX4_layEnds_92 : decode cX4_layEnds 92 = .ok (.iload 5, 2) := by decide +kernel
theorem dX4_layEnds_94 : decode cX4_layEnds 94 = .ok (.iload_n 3, 1) := by decide +kernel
theorem dX4_layEnds_95 : decode cX4_layEnds 95 = .ok (.if_icmp .eq 32, 3) := by decide +kernel
theorem dX4_layEnds_98 : decode cX4_layEnds 98 = .ok (.aload_n 0, 1) := by decide +kernel
theorem dX4_layEnds_99 : decode cX4_layEnds 99 = .ok (.getfield 26, 3) := by decide +kernel
theorem dX4_layEnds_102 : decode cX4_layEnds 102 = .ok (.iload 5, 2) := by decide +kernel
theorem dX4_layEnds_104 : decode cX4_layEnds 104 = .ok (.iload 4, 2) := by decide +kernel
theorem dX4_layEnds_106 : decode cX4_layEnds 106 = .ok (.iastore, 1) := by decide +kernel
theorem dX4_layEnds_107 : decode cX4_layEnds 107 = .ok (.aload_n 0, 1) := by decide +kernel
theorem dX4_layEnds_108 : decode cX4_layEnds 108 = .ok (.getfield 29, 3) := by decide +kernel
theorem dX4_layEnds_111 : decode cX4_layEnds 111 = .ok (.iload 5, 2) := by decide +kernel
theorem dX4_layEnds_113 : decode cX4_layEnds 113 = .ok (.iconst 0, 1) := by decide +kernel
theorem dX4_layEnds_114 : decode cX4_layEnds 114 = .ok (.iastore, 1) := by decide +kernel
theorem dX4_layEnds_115 : decode cX4_layEnds 115 = .ok (.aload_n 0, 1) := by decide +kernel
theorem dX4_layEnds_116 : decode cX4_layEnds 116 = .ok (.getfield 23, 3) := by decide +kernel
theorem dX4_layEnds_119 : decode cX4_layEnds 119 = .ok (.iload 5, 2) := by decide +kernel
theorem dX4_layEnds_121 : decode cX4_layEnds 121 = .ok (.iaload, 1) := by decide +kernel
theorem dX4_layEnds_122 : decode cX4_layEnds 122 = .ok (.istore 5, 2) := by decide +kernel
theorem dX4_layEnds_124 : decode cX4_layEnds 124 = .ok (.goto (-32), 3) := by decide +kernel
theorem dX4_layEnds_127 : decode cX4_layEnds 127 = .ok (.iinc 2 1, 3) := by decide +kernel
theorem dX4_layEnds_130 : decode cX4_layEnds 130 = .ok (.goto (-99), 3) := by decide +kernel
theorem dX4_layEnds_133 : decode cX4_layEnds 133 = .ok (.iconst 1, 1) := by decide +kernel
theorem dX4_layEnds_134 : decode cX4_layEnds 134 = .ok (.istore_n 2, 1) := by decide +kernel
theorem dX4_layEnds_135 : decode cX4_layEnds 135 = .ok (.iload_n 2, 1) := by decide +kernel
theorem dX4_layEnds_136 : decode cX4_layEnds 136 = .ok (.ifCond .eq 93, 3) := by decide +kernel
theorem dX4_layEnds_139 : decode cX4_layEnds 139 = .ok (.iconst 0, 1) := by decide +kernel
theorem dX4_layEnds_140 : decode cX4_layEnds 140 = .ok (.istore_n 2, 1) := by decide +kernel
theorem dX4_layEnds_141 : decode cX4_layEnds 141 = .ok (.iconst 0, 1) := by decide +kernel
theorem dX4_layEnds_142 : decode cX4_layEnds 142 = .ok (.istore_n 3, 1) := by decide +kernel
theorem dX4_layEnds_143 : decode cX4_layEnds 143 = .ok (.iload_n 3, 1) := by decide +kernel
theorem dX4_layEnds_144 : decode cX4_layEnds 144 = .ok (.aload_n 0, 1) := by decide +kernel
theorem dX4_layEnds_145 : decode cX4_layEnds 145 = .ok (.invokevirtual 36, 3) := by decide +kernel
theorem dX4_layEnds_148 : decode cX4_layEnds 148 = .ok (.if_icmp .ge 78, 3) := by decide +kernel
theorem dX4_layEnds_151 : decode cX4_layEnds 151 = .ok (.aload_n 0, 1) := by decide +kernel
theorem dX4_layEnds_152 : decode cX4_layEnds 152 = .ok (.iload_n 3, 1) := by decide +kernel
theorem dX4_layEnds_153 : decode cX4_layEnds 153 = .ok (.invokevirtual 82, 3) := by decide +kernel
theorem dX4_layEnds_156 : decode cX4_layEnds 156 = .ok (.ifCond .eq 64, 3) := by decide +kernel
theorem dX4_layEnds_159 : decode cX4_layEnds 159 = .ok (.aload_n 0, 1) := by decide +kernel
theorem dX4_layEnds_160 : decode cX4_layEnds 160 = .ok (.getfield 26, 3) := by decide +kernel
theorem dX4_layEnds_163 : decode cX4_layEnds 163 = .ok (.iload_n 3, 1) := by decide +kernel
theorem dX4_layEnds_164 : decode cX4_layEnds 164 = .ok (.iaload, 1) := by decide +kernel
theorem dX4_layEnds_165 : decode cX4_layEnds 165 = .ok (.ifCond .ge 55, 3) := by decide +kernel
theorem dX4_layEnds_168 : decode cX4_layEnds 168 = .ok (.aload_n 0, 1) := by decide +kernel
theorem dX4_layEnds_169 : decode cX4_layEnds 169 = .ok (.getfield 26, 3) := by decide +kernel
theorem dX4_layEnds_172 : decode cX4_layEnds 172 = .ok (.aload_n 0, 1) := by decide +kernel
theorem dX4_layEnds_173 : decode cX4_layEnds 173 = .ok (.getfield 23, 3) := by decide +kernel
theorem dX4_layEnds_176 : decode cX4_layEnds 176 = .ok (.iload_n 3, 1) := by decide +kernel
theorem dX4_layEnds_177 : decode cX4_layEnds 177 = .ok (.iaload, 1) := by decide +kernel
theorem dX4_layEnds_178 : decode cX4_layEnds 178 = .ok (.iaload, 1) := by decide +kernel
theorem dX4_layEnds_179 : decode cX4_layEnds 179 = .ok (.ifCond .lt 41, 3) := by decide +kernel
theorem dX4_layEnds_182 : decode cX4_layEnds 182 = .ok (.aload_n 0, 1) := by decide +kernel
theorem dX4_layEnds_183 : decode cX4_layEnds 183 = .ok (.getfield 26, 3) := by decide +kernel
theorem dX4_layEnds_186 : decode cX4_layEnds 186 = .ok (.iload_n 3, 1) := by decide +kernel
theorem dX4_layEnds_187 : decode cX4_layEnds 187 = .ok (.aload_n 0, 1) := by decide +kernel
theorem dX4_layEnds_188 : decode cX4_layEnds 188 = .ok (.getfield 26, 3) := by decide +kernel
theorem dX4_layEnds_191 : decode cX4_layEnds 191 = .ok (.aload_n 0, 1) := by decide +kernel
theorem dX4_layEnds_192 : decode cX4_layEnds 192 = .ok (.getfield 23, 3) := by decide +kernel
theorem dX4_layEnds_195 : decode cX4_layEnds 195 = .ok (.iload_n 3, 1) := by decide +kernel
theorem dX4_layEnds_196 : decode cX4_layEnds 196 = .ok (.iaload, 1) := by decide +kernel
theorem dX4_layEnds_197 : decode cX4_layEnds 197 = .ok (.iaload, 1) := by decide +kernel
theorem dX4_layEnds_198 : decode cX4_layEnds 198 = .ok (.iastore, 1) := by decide +kernel
theorem dX4_layEnds_199 : decode cX4_layEnds 199 = .ok (.aload_n 0, 1) := by decide +kernel
theorem dX4_layEnds_200 : decode cX4_layEnds 200 = .ok (.getfield 29, 3) := by decide +kernel
theorem dX4_layEnds_203 : decode cX4_layEnds 203 = .ok (.iload_n 3, 1) := by decide +kernel
theorem dX4_layEnds_204 : decode cX4_layEnds 204 = .ok (.aload_n 0, 1) := by decide +kernel
theorem dX4_layEnds_205 : decode cX4_layEnds 205 = .ok (.getfield 29, 3) := by decide +kernel
theorem dX4_layEnds_208 : decode cX4_layEnds 208 = .ok (.aload_n 0, 1) := by decide +kernel
theorem dX4_layEnds_209 : decode cX4_layEnds 209 = .ok (.getfield 23, 3) := by decide +kernel
theorem dX4_layEnds_212 : decode cX4_layEnds 212 = .ok (.iload_n 3, 1) := by decide +kernel
theorem dX4_layEnds_213 : decode cX4_layEnds 213 = .ok (.iaload, 1) := by decide +kernel
theorem dX4_layEnds_214 : decode cX4_layEnds 214 = .ok (.iaload, 1) := by decide +kernel
theorem dX4_layEnds_215 : decode cX4_layEnds 215 = .ok (.iconst 1, 1) := by decide +kernel
theorem dX4_layEnds_216 : decode cX4_layEnds 216 = .ok (.iadd, 1) := by decide +kernel
theorem dX4_layEnds_217 : decode cX4_layEnds 217 = .ok (.iastore, 1) := by decide +kernel
theorem dX4_layEnds_218 : decode cX4_layEnds 218 = .ok (.iconst 1, 1) := by decide +kernel
theorem dX4_layEnds_219 : decode cX4_layEnds 219 = .ok (.istore_n 2, 1) := by decide +kernel
theorem dX4_layEnds_220 : decode cX4_layEnds 220 = .ok (.iinc 3 1, 3) := by decide +kernel
theorem dX4_layEnds_223 : decode cX4_layEnds 223 = .ok (.goto (-80), 3) := by decide +kernel
theorem dX4_layEnds_226 : decode cX4_layEnds 226 = .ok (.goto (-91), 3) := by decide +kernel
theorem dX4_layEnds_229 : decode cX4_layEnds 229 = .ok (.return_, 1) := by decide +kernel
theorem dX4_endAt_0 : decode cX4_endAt 0 = .ok (.iconst 0, 1) := by decide +kernel
theorem dX4_endAt_1 : decode cX4_endAt 1 = .ok (.istore_n 2, 1) := by decide +kernel
theorem dX4_endAt_2 : decode cX4_endAt 2 = .ok (.iconst 0, 1) := by decide +kernel
theorem dX4_endAt_3 : decode cX4_endAt 3 = .ok (.istore_n 3, 1) := by decide +kernel
theorem dX4_endAt_4 : decode cX4_endAt 4 = .ok (.iload_n 3, 1) := by decide +kernel
theorem dX4_endAt_5 : decode cX4_endAt 5 = .ok (.aload_n 0, 1) := by decide +kernel
theorem dX4_endAt_6 : decode cX4_endAt 6 = .ok (.invokevirtual 36, 3) := by decide +kernel
theorem dX4_endAt_9 : decode cX4_endAt 9 = .ok (.if_icmp .ge 29, 3) := by decide +kernel
theorem dX4_endAt_12 : decode cX4_endAt 12 = .ok (.aload_n 0, 1) := by decide +kernel
theorem dX4_endAt_13 : decode cX4_endAt 13 = .ok (.getfield 26, 3) := by decide +kernel
theorem dX4_endAt_16 : decode cX4_endAt 16 = .ok (.iload_n 3, 1) := by decide +kernel
theorem dX4_endAt_17 : decode cX4_endAt 17 = .ok (.iaload, 1) := by decide +kernel
theorem dX4_endAt_18 : decode cX4_endAt 18 = .ok (.iload_n 3, 1) := by decide +kernel
theorem dX4_endAt_19 : decode cX4_endAt 19 = .ok (.if_icmp .ne 13, 3) := by decide +kernel
theorem dX4_endAt_22 : decode cX4_endAt 22 = .ok (.iload_n 2, 1) := by decide +kernel
theorem dX4_endAt_23 : decode cX4_endAt 23 = .ok (.iload_n 1, 1) := by decide +kernel
theorem dX4_endAt_24 : decode cX4_endAt 24 = .ok (.if_icmp .ne 5, 3) := by decide +kernel
theorem dX4_endAt_27 : decode cX4_endAt 27 = .ok (.iload_n 3, 1) := by decide +kernel
theorem dX4_endAt_28 : decode cX4_endAt 28 = .ok (.ireturn, 1) := by decide +kernel
theorem dX4_endAt_29 : decode cX4_endAt 29 = .ok (.iinc 2 1, 3) := by decide +kernel
theorem dX4_endAt_32 : decode cX4_endAt 32 = .ok (.iinc 3 1, 3) := by decide +kernel
theorem dX4_endAt_35 : decode cX4_endAt 35 = .ok (.goto (-31), 3) := by decide +kernel
theorem dX4_endAt_38 : decode cX4_endAt 38 = .ok (.iload_n 1, 1) := by decide +kernel
theorem dX4_endAt_39 : decode cX4_endAt 39 = .ok (.iconst (-1), 1) := by decide +kernel
theorem dX4_endAt_40 : decode cX4_endAt 40 = .ok (.if_icmp .ne 7, 3) := by decide +kernel
theorem dX4_endAt_43 : decode cX4_endAt 43 = .ok (.iload_n 2, 1) := by decide +kernel
theorem dX4_endAt_44 : decode cX4_endAt 44 = .ok (.goto 5, 3) := by decide +kernel
theorem dX4_endAt_47 : decode cX4_endAt 47 = .ok (.bipush (-6), 2) := by decide +kernel
theorem dX4_endAt_49 : decode cX4_endAt 49 = .ok (.ireturn, 1) := by decide +kernel
theorem dX4_end_0 : decode cX4_end 0 = .ok (.iload_n 1, 1) := by decide +kernel
theorem dX4_end_1 : decode cX4_end 1 = .ok (.invokestatic 76, 3) := by decide +kernel
theorem dX4_end_4 : decode cX4_end 4 = .ok (.ifCond .ne 6, 3) := by decide +kernel
theorem dX4_end_7 : decode cX4_end 7 = .ok (.bipush (-2), 2) := by decide +kernel
theorem dX4_end_9 : decode cX4_end 9 = .ok (.ireturn, 1) := by decide +kernel
theorem dX4_end_10 : decode cX4_end 10 = .ok (.aload_n 0, 1) := by decide +kernel
theorem dX4_end_11 : decode cX4_end 11 = .ok (.iload_n 1, 1) := by decide +kernel
theorem dX4_end_12 : decode cX4_end 12 = .ok (.invokevirtual 102, 3) := by decide +kernel
theorem dX4_end_15 : decode cX4_end 15 = .ok (.aload_n 0, 1) := by decide +kernel
theorem dX4_end_16 : decode cX4_end 16 = .ok (.iload_n 2, 1) := by decide +kernel
theorem dX4_end_17 : decode cX4_end 17 = .ok (.invokevirtual 105, 3) := by decide +kernel
theorem dX4_end_20 : decode cX4_end 20 = .ok (.ireturn, 1) := by decide +kernel
theorem dX4_basin_0 : decode cX4_basin 0 = .ok (.iload_n 1, 1) := by decide +kernel
theorem dX4_basin_1 : decode cX4_basin 1 = .ok (.invokestatic 76, 3) := by decide +kernel
theorem dX4_basin_4 : decode cX4_basin 4 = .ok (.ifCond .eq 12, 3) := by decide +kernel
theorem dX4_basin_7 : decode cX4_basin 7 = .ok (.iload_n 3, 1) := by decide +kernel
theorem dX4_basin_8 : decode cX4_basin 8 = .ok (.iconst 0, 1) := by decide +kernel
theorem dX4_basin_9 : decode cX4_basin 9 = .ok (.iconst 2, 1) := by decide +kernel
theorem dX4_basin_10 : decode cX4_basin 10 = .ok (.invokestatic 32, 3) := by decide +kernel
theorem dX4_basin_13 : decode cX4_basin 13 = .ok (.ifCond .ne 6, 3) := by decide +kernel
theorem dX4_basin_16 : decode cX4_basin 16 = .ok (.bipush (-2), 2) := by decide +kernel
theorem dX4_basin_18 : decode cX4_basin 18 = .ok (.ireturn, 1) := by decide +kernel
theorem dX4_basin_19 : decode cX4_basin 19 = .ok (.aload_n 0, 1) := by decide +kernel
theorem dX4_basin_20 : decode cX4_basin 20 = .ok (.iload_n 1, 1) := by decide +kernel
theorem dX4_basin_21 : decode cX4_basin 21 = .ok (.invokevirtual 102, 3) := by decide +kernel
theorem dX4_basin_24 : decode cX4_basin 24 = .ok (.iload_n 2, 1) := by decide +kernel
theorem dX4_basin_25 : decode cX4_basin 25 = .ok (.ifCond .ge 8, 3) := by decide +kernel
theorem dX4_basin_28 : decode cX4_basin 28 = .ok (.bipush (-6), 2) := by decide +kernel
theorem dX4_basin_30 : decode cX4_basin 30 = .ok (.goto 8, 3) := by decide +kernel
theorem dX4_basin_33 : decode cX4_basin 33 = .ok (.aload_n 0, 1) := by decide +kernel
theorem dX4_basin_34 : decode cX4_basin 34 = .ok (.iload_n 2, 1) := by decide +kernel
theorem dX4_basin_35 : decode cX4_basin 35 = .ok (.invokevirtual 105, 3) := by decide +kernel
theorem dX4_basin_38 : decode cX4_basin 38 = .ok (.istore 4, 2) := by decide +kernel
theorem dX4_basin_40 : decode cX4_basin 40 = .ok (.iload 4, 2) := by decide +kernel
theorem dX4_basin_42 : decode cX4_basin 42 = .ok (.ifCond .ge 6, 3) := by decide +kernel
theorem dX4_basin_45 : decode cX4_basin 45 = .ok (.bipush (-6), 2) := by decide +kernel
theorem dX4_basin_47 : decode cX4_basin 47 = .ok (.ireturn, 1) := by decide +kernel
theorem dX4_basin_48 : decode cX4_basin 48 = .ok (.iconst 0, 1) := by decide +kernel
theorem dX4_basin_49 : decode cX4_basin 49 = .ok (.istore 5, 2) := by decide +kernel
theorem dX4_basin_51 : decode cX4_basin 51 = .ok (.iconst 0, 1) := by decide +kernel
theorem dX4_basin_52 : decode cX4_basin 52 = .ok (.istore 6, 2) := by decide +kernel
theorem dX4_basin_54 : decode cX4_basin 54 = .ok (.iconst 0, 1) := by decide +kernel
theorem dX4_basin_55 : decode cX4_basin 55 = .ok (.istore 7, 2) := by decide +kernel
theorem dX4_basin_57 : decode cX4_basin 57 = .ok (.iload 7, 2) := by decide +kernel
theorem dX4_basin_59 : decode cX4_basin 59 = .ok (.aload_n 0, 1) := by decide +kernel
theorem dX4_basin_60 : decode cX4_basin 60 = .ok (.invokevirtual 36, 3) := by decide +kernel
theorem dX4_basin_63 : decode cX4_basin 63 = .ok (.if_icmp .ge 50, 3) := by decide +kernel
theorem dX4_basin_66 : decode cX4_basin 66 = .ok (.aload_n 0, 1) := by decide +kernel
theorem dX4_basin_67 : decode cX4_basin 67 = .ok (.getfield 26, 3) := by decide +kernel
theorem dX4_basin_70 : decode cX4_basin 70 = .ok (.iload 7, 2) := by decide +kernel
theorem dX4_basin_72 : decode cX4_basin 72 = .ok (.iaload, 1) := by decide +kernel
theorem dX4_basin_73 : decode cX4_basin 73 = .ok (.iload 4, 2) := by decide +kernel
theorem dX4_basin_75 : decode cX4_basin 75 = .ok (.if_icmp .ne 32, 3) := by decide +kernel
theorem dX4_basin_78 : decode cX4_basin 78 = .ok (.iinc 5 1, 3) := by decide +kernel
theorem dX4_basin_81 : decode cX4_basin 81 = .ok (.aload_n 0, 1) := by decide +kernel
theorem dX4_basin_82 : decode cX4_basin 82 = .ok (.getfield 29, 3) := by decide +kernel
theorem dX4_basin_85 : decode cX4_basin 85 = .ok (.iload 7, 2) := by decide +kernel
theorem dX4_basin_87 : decode cX4_basin 87 = .ok (.iaload, 1) := by decide +kernel
theorem dX4_basin_88 : decode cX4_basin 88 = .ok (.iload 6, 2) := by decide +kernel
theorem dX4_basin_90 : decode cX4_basin 90 = .ok (.if_icmp .le 13, 3) := by decide +kernel
theorem dX4_basin_93 : decode cX4_basin 93 = .ok (.aload_n 0, 1) := by decide +kernel
theorem dX4_basin_94 : decode cX4_basin 94 = .ok (.getfield 29, 3) := by decide +kernel
theorem dX4_basin_97 : decode cX4_basin 97 = .ok (.iload 7, 2) := by decide +kernel
theorem dX4_basin_99 : decode cX4_basin 99 = .ok (.iaload, 1) := by decide +kernel
theorem dX4_basin_100 : decode cX4_basin 100 = .ok (.goto 5, 3) := by decide +kernel
theorem dX4_basin_103 : decode cX4_basin 103 = .ok (.iload 6, 2) := by decide +kernel
theorem dX4_basin_105 : decode cX4_basin 105 = .ok (.istore 6, 2) := by decide +kernel
theorem dX4_basin_107 : decode cX4_basin 107 = .ok (.iinc 7 1, 3) := by decide +kernel
theorem dX4_basin_110 : decode cX4_basin 110 = .ok (.goto (-53), 3) := by decide +kernel
theorem dX4_basin_113 : decode cX4_basin 113 = .ok (.iload_n 3, 1) := by decide +kernel
theorem dX4_basin_114 : decode cX4_basin 114 = .ok (.ifCond .ne 8, 3) := by decide +kernel
theorem dX4_basin_117 : decode cX4_basin 117 = .ok (.iload 5, 2) := by decide +kernel
theorem dX4_basin_119 : decode cX4_basin 119 = .ok (.goto 19, 3) := by decide +kernel
theorem dX4_basin_122 : decode cX4_basin 122 = .ok (.iload_n 3, 1) := by decide +kernel
theorem dX4_basin_123 : decode cX4_basin 123 = .ok (.iconst 1, 1) := by decide +kernel
theorem dX4_basin_124 : decode cX4_basin 124 = .ok (.if_icmp .ne 12, 3) := by decide +kernel
theorem dX4_basin_127 : decode cX4_basin 127 = .ok (.aload_n 0, 1) := by decide +kernel
theorem dX4_basin_128 : decode cX4_basin 128 = .ok (.iload 4, 2) := by decide +kernel
theorem dX4_basin_130 : decode cX4_basin 130 = .ok (.invokevirtual 96, 3) := by decide +kernel
theorem dX4_basin_133 : decode cX4_basin 133 = .ok (.goto 5, 3) := by decide +kernel
theorem dX4_basin_136 : decode cX4_basin 136 = .ok (.iload 6, 2) := by decide +kernel
theorem dX4_basin_138 : decode cX4_basin 138 = .ok (.ireturn, 1) := by decide +kernel
theorem dX4_lone_0 : decode cX4_lone 0 = .ok (.iload_n 1, 1) := by decide +kernel
theorem dX4_lone_1 : decode cX4_lone 1 = .ok (.invokestatic 76, 3) := by decide +kernel
theorem dX4_lone_4 : decode cX4_lone 4 = .ok (.ifCond .ne 6, 3) := by decide +kernel
theorem dX4_lone_7 : decode cX4_lone 7 = .ok (.bipush (-2), 2) := by decide +kernel
theorem dX4_lone_9 : decode cX4_lone 9 = .ok (.ireturn, 1) := by decide +kernel
theorem dX4_lone_10 : decode cX4_lone 10 = .ok (.aload_n 0, 1) := by decide +kernel
theorem dX4_lone_11 : decode cX4_lone 11 = .ok (.iload_n 1, 1) := by decide +kernel
theorem dX4_lone_12 : decode cX4_lone 12 = .ok (.invokevirtual 85, 3) := by decide +kernel
theorem dX4_lone_15 : decode cX4_lone 15 = .ok (.iconst 0, 1) := by decide +kernel
theorem dX4_lone_16 : decode cX4_lone 16 = .ok (.istore_n 2, 1) := by decide +kernel
theorem dX4_lone_17 : decode cX4_lone 17 = .ok (.iload_n 2, 1) := by decide +kernel
theorem dX4_lone_18 : decode cX4_lone 18 = .ok (.aload_n 0, 1) := by decide +kernel
theorem dX4_lone_19 : decode cX4_lone 19 = .ok (.invokevirtual 36, 3) := by decide +kernel
theorem dX4_lone_22 : decode cX4_lone 22 = .ok (.if_icmp .ge 16, 3) := by decide +kernel
theorem dX4_lone_25 : decode cX4_lone 25 = .ok (.aload_n 0, 1) := by decide +kernel
theorem dX4_lone_26 : decode cX4_lone 26 = .ok (.getfield 26, 3) := by decide +kernel
theorem dX4_lone_29 : decode cX4_lone 29 = .ok (.iload_n 2, 1) := by decide +kernel
theorem dX4_lone_30 : decode cX4_lone 30 = .ok (.iconst 0, 1) := by decide +kernel
theorem dX4_lone_31 : decode cX4_lone 31 = .ok (.iastore, 1) := by decide +kernel
theorem dX4_lone_32 : decode cX4_lone 32 = .ok (.iinc 2 1, 3) := by decide +kernel
theorem dX4_lone_35 : decode cX4_lone 35 = .ok (.goto (-18), 3) := by decide +kernel
theorem dX4_lone_38 : decode cX4_lone 38 = .ok (.iconst 0, 1) := by decide +kernel
theorem dX4_lone_39 : decode cX4_lone 39 = .ok (.istore_n 2, 1) := by decide +kernel
theorem dX4_lone_40 : decode cX4_lone 40 = .ok (.iload_n 2, 1) := by decide +kernel
theorem dX4_lone_41 : decode cX4_lone 41 = .ok (.aload_n 0, 1) := by decide +kernel
theorem dX4_lone_42 : decode cX4_lone 42 = .ok (.invokevirtual 36, 3) := by decide +kernel
theorem dX4_lone_45 : decode cX4_lone 45 = .ok (.if_icmp .ge 29, 3) := by decide +kernel
theorem dX4_lone_48 : decode cX4_lone 48 = .ok (.aload_n 0, 1) := by decide +kernel
theorem dX4_lone_49 : decode cX4_lone 49 = .ok (.iload_n 2, 1) := by decide +kernel
theorem dX4_lone_50 : decode cX4_lone 50 = .ok (.invokevirtual 82, 3) := by decide +kernel
theorem dX4_lone_53 : decode cX4_lone 53 = .ok (.ifCond .eq 15, 3) := by decide +kernel
theorem dX4_lone_56 : decode cX4_lone 56 = .ok (.aload_n 0, 1) := by decide +kernel
theorem dX4_lone_57 : decode cX4_lone 57 = .ok (.getfield 26, 3) := by decide +kernel
theorem dX4_lone_60 : decode cX4_lone 60 = .ok (.aload_n 0, 1) := by decide +kernel
theorem dX4_lone_61 : decode cX4_lone 61 = .ok (.getfield 23, 3) := by decide +kernel
theorem dX4_lone_64 : decode cX4_lone 64 = .ok (.iload_n 2, 1) := by decide +kernel
theorem dX4_lone_65 : decode cX4_lone 65 = .ok (.iaload, 1) := by decide +kernel
theorem dX4_lone_66 : decode cX4_lone 66 = .ok (.iconst 1, 1) := by decide +kernel
theorem dX4_lone_67 : decode cX4_lone 67 = .ok (.iastore, 1) := by decide +kernel
theorem dX4_lone_68 : decode cX4_lone 68 = .ok (.iinc 2 1, 3) := by decide +kernel
theorem dX4_lone_71 : decode cX4_lone 71 = .ok (.goto (-31), 3) := by decide +kernel
theorem dX4_lone_74 : decode cX4_lone 74 = .ok (.iconst 0, 1) := by decide +kernel
theorem dX4_lone_75 : decode cX4_lone 75 = .ok (.istore_n 2, 1) := by decide +kernel
theorem dX4_lone_76 : decode cX4_lone 76 = .ok (.iconst 0, 1) := by decide +kernel
theorem dX4_lone_77 : decode cX4_lone 77 = .ok (.istore_n 3, 1) := by decide +kernel
theorem dX4_lone_78 : decode cX4_lone 78 = .ok (.iload_n 3, 1) := by decide +kernel
theorem dX4_lone_79 : decode cX4_lone 79 = .ok (.aload_n 0, 1) := by decide +kernel
theorem dX4_lone_80 : decode cX4_lone 80 = .ok (.invokevirtual 36, 3) := by decide +kernel
theorem dX4_lone_83 : decode cX4_lone 83 = .ok (.if_icmp .ge 34, 3) := by decide +kernel
theorem dX4_lone_86 : decode cX4_lone 86 = .ok (.iload_n 2, 1) := by decide +kernel
theorem dX4_lone_87 : decode cX4_lone 87 = .ok (.aload_n 0, 1) := by decide +kernel
theorem dX4_lone_88 : decode cX4_lone 88 = .ok (.iload_n 3, 1) := by decide +kernel
theorem dX4_lone_89 : decode cX4_lone 89 = .ok (.invokevirtual 82, 3) := by decide +kernel
theorem dX4_lone_92 : decode cX4_lone 92 = .ok (.ifCond .eq 16, 3) := by decide +kernel
theorem dX4_lone_95 : decode cX4_lone 95 = .ok (.aload_n 0, 1) := by decide +kernel
theorem dX4_lone_96 : decode cX4_lone 96 = .ok (.getfield 26, 3) := by decide +kernel
theorem dX4_lone_99 : decode cX4_lone 99 = .ok (.iload_n 3, 1) := by decide +kernel
theorem dX4_lone_100 : decode cX4_lone 100 = .ok (.iaload, 1) := by decide +kernel
theorem dX4_lone_101 : decode cX4_lone 101 = .ok (.ifCond .ne 7, 3) := by decide +kernel
theorem dX4_lone_104 : decode cX4_lone 104 = .ok (.iconst 1, 1) := by decide +kernel
theorem dX4_lone_105 : decode cX4_lone 105 = .ok (.goto 4, 3) := by decide +kernel
theorem dX4_lone_108 : decode cX4_lone 108 = .ok (.iconst 0, 1) := by decide +kernel
theorem dX4_lone_109 : decode cX4_lone 109 = .ok (.iadd, 1) := by decide +kernel
theorem dX4_lone_110 : decode cX4_lone 110 = .ok (.istore_n 2, 1) := by decide +kernel
theorem dX4_lone_111 : decode cX4_lone 111 = .ok (.iinc 3 1, 3) := by decide +kernel
theorem dX4_lone_114 : decode cX4_lone 114 = .ok (.goto (-36), 3) := by decide +kernel
theorem dX4_lone_117 : decode cX4_lone 117 = .ok (.iload_n 2, 1) := by decide +kernel
theorem dX4_lone_118 : decode cX4_lone 118 = .ok (.ireturn, 1) := by decide +kernel
theorem dX4_before_0 : decode cX4_before 0 = .ok (.iload_n 1, 1) := by decide +kernel
theorem dX4_before_1 : decode cX4_before 1 = .ok (.invokestatic 76, 3) := by decide +kernel
theorem dX4_before_4 : decode cX4_before 4 = .ok (.ifCond .ne 6, 3) := by decide +kernel
theorem dX4_before_7 : decode cX4_before 7 = .ok (.bipush (-2), 2) := by decide +kernel
theorem dX4_before_9 : decode cX4_before 9 = .ok (.ireturn, 1) := by decide +kernel
theorem dX4_before_10 : decode cX4_before 10 = .ok (.iconst 0, 1) := by decide +kernel
theorem dX4_before_11 : decode cX4_before 11 = .ok (.istore_n 3, 1) := by decide +kernel
theorem dX4_before_12 : decode cX4_before 12 = .ok (.iconst 0, 1) := by decide +kernel
theorem dX4_before_13 : decode cX4_before 13 = .ok (.istore 4, 2) := by decide +kernel
theorem dX4_before_15 : decode cX4_before 15 = .ok (.iload 4, 2) := by decide +kernel
theorem dX4_before_17 : decode cX4_before 17 = .ok (.aload_n 0, 1) := by decide +kernel
theorem dX4_before_18 : decode cX4_before 18 = .ok (.invokevirtual 36, 3) := by decide +kernel
theorem dX4_before_21 : decode cX4_before 21 = .ok (.if_icmp .ge 47, 3) := by decide +kernel
theorem dX4_before_24 : decode cX4_before 24 = .ok (.aload_n 0, 1) := by decide +kernel
theorem dX4_before_25 : decode cX4_before 25 = .ok (.iload 4, 2) := by decide +kernel
theorem dX4_before_27 : decode cX4_before 27 = .ok (.invokevirtual 82, 3) := by decide +kernel
theorem dX4_before_30 : decode cX4_before 30 = .ok (.ifCond .eq 32, 3) := by decide +kernel
theorem dX4_before_33 : decode cX4_before 33 = .ok (.aload_n 0, 1) := by decide +kernel
theorem dX4_before_34 : decode cX4_before 34 = .ok (.iload_n 1, 1) := by decide +kernel
theorem dX4_before_35 : decode cX4_before 35 = .ok (.iload 4, 2) := by decide +kernel
theorem dX4_before_37 : decode cX4_before 37 = .ok (.aload_n 0, 1) := by decide +kernel
theorem dX4_before_38 : decode cX4_before 38 = .ok (.getfield 40, 3) := by decide +kernel
theorem dX4_before_41 : decode cX4_before 41 = .ok (.invokevirtual 79, 3) := by decide +kernel
theorem dX4_before_44 : decode cX4_before 44 = .ok (.aload_n 0, 1) := by decide +kernel
theorem dX4_before_45 : decode cX4_before 45 = .ok (.getfield 43, 3) := by decide +kernel
theorem dX4_before_48 : decode cX4_before 48 = .ok (.if_icmp .ne 14, 3) := by decide +kernel
theorem dX4_before_51 : decode cX4_before 51 = .ok (.iload_n 3, 1) := by decide +kernel
theorem dX4_before_52 : decode cX4_before 52 = .ok (.iload_n 2, 1) := by decide +kernel
theorem dX4_before_53 : decode cX4_before 53 = .ok (.if_icmp .ne 6, 3) := by decide +kernel
theorem dX4_before_56 : decode cX4_before 56 = .ok (.iload 4, 2) := by decide +kernel
theorem dX4_before_58 : decode cX4_before 58 = .ok (.ireturn, 1) := by decide +kernel
theorem dX4_before_59 : decode cX4_before 59 = .ok (.iinc 3 1, 3) := by decide +kernel
theorem dX4_before_62 : decode cX4_before 62 = .ok (.iinc 4 1, 3) := by decide +kernel
theorem dX4_before_65 : decode cX4_before 65 = .ok (.goto (-50), 3) := by decide +kernel
theorem dX4_before_68 : decode cX4_before 68 = .ok (.iload_n 2, 1) := by decide +kernel
theorem dX4_before_69 : decode cX4_before 69 = .ok (.iconst (-1), 1) := by decide +kernel
theorem dX4_before_70 : decode cX4_before 70 = .ok (.if_icmp .ne 7, 3) := by decide +kernel
theorem dX4_before_73 : decode cX4_before 73 = .ok (.iload_n 3, 1) := by decide +kernel
theorem dX4_before_74 : decode cX4_before 74 = .ok (.goto 5, 3) := by decide +kernel
theorem dX4_before_77 : decode cX4_before 77 = .ok (.bipush (-6), 2) := by decide +kernel
theorem dX4_before_79 : decode cX4_before 79 = .ok (.ireturn, 1) := by decide +kernel
theorem dX4_riseOf_0 : decode cX4_riseOf 0 = .ok (.iconst 0, 1) := by decide +kernel
theorem dX4_riseOf_1 : decode cX4_riseOf 1 = .ok (.istore_n 2, 1) := by decide +kernel
theorem dX4_riseOf_2 : decode cX4_riseOf 2 = .ok (.iconst 0, 1) := by decide +kernel
theorem dX4_riseOf_3 : decode cX4_riseOf 3 = .ok (.istore_n 3, 1) := by decide +kernel
theorem dX4_riseOf_4 : decode cX4_riseOf 4 = .ok (.iload_n 3, 1) := by decide +kernel
theorem dX4_riseOf_5 : decode cX4_riseOf 5 = .ok (.aload_n 0, 1) := by decide +kernel
theorem dX4_riseOf_6 : decode cX4_riseOf 6 = .ok (.getfield 7, 3) := by decide +kernel
theorem dX4_riseOf_9 : decode cX4_riseOf 9 = .ok (.if_icmp .ge 103, 3) := by decide +kernel
theorem dX4_riseOf_12 : decode cX4_riseOf 12 = .ok (.iload_n 3, 1) := by decide +kernel
theorem dX4_riseOf_13 : decode cX4_riseOf 13 = .ok (.iconst 1, 1) := by decide +kernel
theorem dX4_riseOf_14 : decode cX4_riseOf 14 = .ok (.iadd, 1) := by decide +kernel
theorem dX4_riseOf_15 : decode cX4_riseOf 15 = .ok (.istore 4, 2) := by decide +kernel
theorem dX4_riseOf_17 : decode cX4_riseOf 17 = .ok (.iload 4, 2) := by decide +kernel
theorem dX4_riseOf_19 : decode cX4_riseOf 19 = .ok (.aload_n 0, 1) := by decide +kernel
theorem dX4_riseOf_20 : decode cX4_riseOf 20 = .ok (.getfield 7, 3) := by decide +kernel
theorem dX4_riseOf_23 : decode cX4_riseOf 23 = .ok (.if_icmp .ge 83, 3) := by decide +kernel
theorem dX4_riseOf_26 : decode cX4_riseOf 26 = .ok (.iload_n 1, 1) := by decide +kernel
theorem dX4_riseOf_27 : decode cX4_riseOf 27 = .ok (.iload_n 3, 1) := by decide +kernel
theorem dX4_riseOf_28 : decode cX4_riseOf 28 = .ok (.ishr, 1) := by decide +kernel
theorem dX4_riseOf_29 : decode cX4_riseOf 29 = .ok (.iconst 1, 1) := by decide +kernel
theorem dX4_riseOf_30 : decode cX4_riseOf 30 = .ok (.iand, 1) := by decide +kernel
theorem dX4_riseOf_31 : decode cX4_riseOf 31 = .ok (.iload_n 1, 1) := by decide +kernel
theorem dX4_riseOf_32 : decode cX4_riseOf 32 = .ok (.iload 4, 2) := by decide +kernel
theorem dX4_riseOf_34 : decode cX4_riseOf 34 = .ok (.ishr, 1) := by decide +kernel
theorem dX4_riseOf_35 : decode cX4_riseOf 35 = .ok (.iconst 1, 1) := by decide +kernel
theorem dX4_riseOf_36 : decode cX4_riseOf 36 = .ok (.iand, 1) := by decide +kernel
theorem dX4_riseOf_37 : decode cX4_riseOf 37 = .ok (.iadd, 1) := by decide +kernel
theorem dX4_riseOf_38 : decode cX4_riseOf 38 = .ok (.istore 5, 2) := by decide +kernel
theorem dX4_riseOf_40 : decode cX4_riseOf 40 = .ok (.iload_n 2, 1) := by decide +kernel
theorem dX4_riseOf_41 : decode cX4_riseOf 41 = .ok (.aload_n 0, 1) := by decide +kernel
theorem dX4_riseOf_42 : decode cX4_riseOf 42 = .ok (.getfield 13, 3) := by decide +kernel
theorem dX4_riseOf_45 : decode cX4_riseOf 45 = .ok (.bipush 10, 2) := by decide +kernel
theorem dX4_riseOf_47 : decode cX4_riseOf 47 = .ok (.iload_n 3, 1) := by decide +kernel
theorem dX4_riseOf_48 : decode cX4_riseOf 48 = .ok (.imul, 1) := by decide +kernel
theorem dX4_riseOf_49 : decode cX4_riseOf 49 = .ok (.iload 4, 2) := by decide +kernel
theorem dX4_riseOf_51 : decode cX4_riseOf 51 = .ok (.iadd, 1) := by decide +kernel
theorem dX4_riseOf_52 : decode cX4_riseOf 52 = .ok (.iaload, 1) := by decide +kernel
theorem dX4_riseOf_53 : decode cX4_riseOf 53 = .ok (.iload 5, 2) := by decide +kernel
theorem dX4_riseOf_55 : decode cX4_riseOf 55 = .ok (.ifCond .ne 19, 3) := by decide +kernel
theorem dX4_riseOf_58 : decode cX4_riseOf 58 = .ok (.aload_n 0, 1) := by decide +kernel
theorem dX4_riseOf_59 : decode cX4_riseOf 59 = .ok (.getfield 17, 3) := by decide +kernel
theorem dX4_riseOf_62 : decode cX4_riseOf 62 = .ok (.iconst 0, 1) := by decide +kernel
theorem dX4_riseOf_63 : decode cX4_riseOf 63 = .ok (.iaload, 1) := by decide +kernel
theorem dX4_riseOf_64 : decode cX4_riseOf 64 = .ok (.aload_n 0, 1) := by decide +kernel
theorem dX4_riseOf_65 : decode cX4_riseOf 65 = .ok (.getfield 17, 3) := by decide +kernel
theorem dX4_riseOf_68 : decode cX4_riseOf 68 = .ok (.iconst 2, 1) := by decide +kernel
theorem dX4_riseOf_69 : decode cX4_riseOf 69 = .ok (.iaload, 1) := by decide +kernel
theorem dX4_riseOf_70 : decode cX4_riseOf 70 = .ok (.isub, 1) := by decide +kernel
theorem dX4_riseOf_71 : decode cX4_riseOf 71 = .ok (.goto 26, 3) := by decide +kernel
theorem dX4_riseOf_74 : decode cX4_riseOf 74 = .ok (.iload 5, 2) := by decide +kernel
theorem dX4_riseOf_76 : decode cX4_riseOf 76 = .ok (.iconst 2, 1) := by decide +kernel
theorem dX4_riseOf_77 : decode cX4_riseOf 77 = .ok (.if_icmp .ne 19, 3) := by decide +kernel
theorem dX4_riseOf_80 : decode cX4_riseOf 80 = .ok (.aload_n 0, 1) := by decide +kernel
theorem dX4_riseOf_81 : decode cX4_riseOf 81 = .ok (.getfield 17, 3) := by decide +kernel
theorem dX4_riseOf_84 : decode cX4_riseOf 84 = .ok (.iconst 3, 1) := by decide +kernel
theorem dX4_riseOf_85 : decode cX4_riseOf 85 = .ok (.iaload, 1) := by decide +kernel
theorem dX4_riseOf_86 : decode cX4_riseOf 86 = .ok (.aload_n 0, 1) := by decide +kernel
theorem dX4_riseOf_87 : decode cX4_riseOf 87 = .ok (.getfield 17, 3) := by decide +kernel
theorem dX4_riseOf_90 : decode cX4_riseOf 90 = .ok (.iconst 1, 1) := by decide +kernel
theorem dX4_riseOf_91 : decode cX4_riseOf 91 = .ok (.iaload, 1) := by decide +kernel
theorem dX4_riseOf_92 : decode cX4_riseOf 92 = .ok (.isub, 1) := by decide +kernel
theorem dX4_riseOf_93 : decode cX4_riseOf 93 = .ok (.goto 4, 3) := by decide +kernel
theorem dX4_riseOf_96 : decode cX4_riseOf 96 = .ok (.iconst 0, 1) := by decide +kernel
theorem dX4_riseOf_97 : decode cX4_riseOf 97 = .ok (.imul, 1) := by decide +kernel
theorem dX4_riseOf_98 : decode cX4_riseOf 98 = .ok (.iadd, 1) := by decide +kernel
theorem dX4_riseOf_99 : decode cX4_riseOf 99 = .ok (.istore_n 2, 1) := by decide +kernel
theorem dX4_riseOf_100 : decode cX4_riseOf 100 = .ok (.iinc 4 1, 3) := by decide +kernel
theorem dX4_riseOf_103 : decode cX4_riseOf 103 = .ok (.goto (-86), 3) := by decide +kernel
theorem dX4_riseOf_106 : decode cX4_riseOf 106 = .ok (.iinc 3 1, 3) := by decide +kernel
theorem dX4_riseOf_109 : decode cX4_riseOf 109 = .ok (.goto (-105), 3) := by decide +kernel
theorem dX4_riseOf_112 : decode cX4_riseOf 112 = .ok (.iload_n 2, 1) := by decide +kernel
theorem dX4_riseOf_113 : decode cX4_riseOf 113 = .ok (.ireturn, 1) := by decide +kernel
theorem dX4_rise_0 : decode cX4_rise 0 = .ok (.aload_n 0, 1) := by decide +kernel
theorem dX4_rise_1 : decode cX4_rise 1 = .ok (.aload_n 0, 1) := by decide +kernel
theorem dX4_rise_2 : decode cX4_rise 2 = .ok (.getfield 43, 3) := by decide +kernel
theorem dX4_rise_5 : decode cX4_rise 5 = .ok (.invokevirtual 108, 3) := by decide +kernel
theorem dX4_rise_8 : decode cX4_rise 8 = .ok (.ireturn, 1) := by decide +kernel
theorem dX4_highest_0 : decode cX4_highest 0 = .ok (.bipush (-6), 2) := by decide +kernel
theorem dX4_highest_2 : decode cX4_highest 2 = .ok (.istore_n 1, 1) := by decide +kernel
theorem dX4_highest_3 : decode cX4_highest 3 = .ok (.iconst 0, 1) := by decide +kernel
theorem dX4_highest_4 : decode cX4_highest 4 = .ok (.istore_n 2, 1) := by decide +kernel
theorem dX4_highest_5 : decode cX4_highest 5 = .ok (.iload_n 2, 1) := by decide +kernel
theorem dX4_highest_6 : decode cX4_highest 6 = .ok (.aload_n 0, 1) := by decide +kernel
theorem dX4_highest_7 : decode cX4_highest 7 = .ok (.invokevirtual 36, 3) := by decide +kernel
theorem dX4_highest_10 : decode cX4_highest 10 = .ok (.if_icmp .ge 40, 3) := by decide +kernel
theorem dX4_highest_13 : decode cX4_highest 13 = .ok (.aload_n 0, 1) := by decide +kernel
theorem dX4_highest_14 : decode cX4_highest 14 = .ok (.iload_n 2, 1) := by decide +kernel
theorem dX4_highest_15 : decode cX4_highest 15 = .ok (.invokevirtual 82, 3) := by decide +kernel
theorem dX4_highest_18 : decode cX4_highest 18 = .ok (.ifCond .eq 24, 3) := by decide +kernel
theorem dX4_highest_21 : decode cX4_highest 21 = .ok (.iload_n 1, 1) := by decide +kernel
theorem dX4_highest_22 : decode cX4_highest 22 = .ok (.ifCond .lt 16, 3) := by decide +kernel
theorem dX4_highest_25 : decode cX4_highest 25 = .ok (.aload_n 0, 1) := by decide +kernel
theorem dX4_highest_26 : decode cX4_highest 26 = .ok (.iload_n 2, 1) := by decide +kernel
theorem dX4_highest_27 : decode cX4_highest 27 = .ok (.invokevirtual 108, 3) := by decide +kernel
theorem dX4_highest_30 : decode cX4_highest 30 = .ok (.aload_n 0, 1) := by decide +kernel
theorem dX4_highest_31 : decode cX4_highest 31 = .ok (.iload_n 1, 1) := by decide +kernel
theorem dX4_highest_32 : decode cX4_highest 32 = .ok (.invokevirtual 108, 3) := by decide +kernel
theorem dX4_highest_35 : decode cX4_highest 35 = .ok (.if_icmp .le 7, 3) := by decide +kernel
theorem dX4_highest_38 : decode cX4_highest 38 = .ok (.iload_n 2, 1) := by decide +kernel
theorem dX4_highest_39 : decode cX4_highest 39 = .ok (.goto 4, 3) := by decide +kernel
theorem dX4_highest_42 : decode cX4_highest 42 = .ok (.iload_n 1, 1) := by decide +kernel
theorem dX4_highest_43 : decode cX4_highest 43 = .ok (.istore_n 1, 1) := by decide +kernel
theorem dX4_highest_44 : decode cX4_highest 44 = .ok (.iinc 2 1, 3) := by decide +kernel
theorem dX4_highest_47 : decode cX4_highest 47 = .ok (.goto (-42), 3) := by decide +kernel
theorem dX4_highest_50 : decode cX4_highest 50 = .ok (.iload_n 1, 1) := by decide +kernel
theorem dX4_highest_51 : decode cX4_highest 51 = .ok (.ireturn, 1) := by decide +kernel
theorem dX4_restsIn_0 : decode cX4_restsIn 0 = .ok (.iconst 1, 1) := by decide +kernel
theorem dX4_restsIn_1 : decode cX4_restsIn 1 = .ok (.istore_n 2, 1) := by decide +kernel
theorem dX4_restsIn_2 : decode cX4_restsIn 2 = .ok (.iconst 0, 1) := by decide +kernel
theorem dX4_restsIn_3 : decode cX4_restsIn 3 = .ok (.istore_n 3, 1) := by decide +kernel
theorem dX4_restsIn_4 : decode cX4_restsIn 4 = .ok (.iload_n 3, 1) := by decide +kernel
theorem dX4_restsIn_5 : decode cX4_restsIn 5 = .ok (.aload_n 0, 1) := by decide +kernel
theorem dX4_restsIn_6 : decode cX4_restsIn 6 = .ok (.getfield 7, 3) := by decide +kernel
theorem dX4_restsIn_9 : decode cX4_restsIn 9 = .ok (.if_icmp .ge 40, 3) := by decide +kernel
theorem dX4_restsIn_12 : decode cX4_restsIn 12 = .ok (.iload_n 2, 1) := by decide +kernel
theorem dX4_restsIn_13 : decode cX4_restsIn 13 = .ok (.ifCond .eq 28, 3) := by decide +kernel
theorem dX4_restsIn_16 : decode cX4_restsIn 16 = .ok (.aload_n 0, 1) := by decide +kernel
theorem dX4_restsIn_17 : decode cX4_restsIn 17 = .ok (.getfield 40, 3) := by decide +kernel
theorem dX4_restsIn_20 : decode cX4_restsIn 20 = .ok (.iload_n 3, 1) := by decide +kernel
theorem dX4_restsIn_21 : decode cX4_restsIn 21 = .ok (.ishr, 1) := by decide +kernel
theorem dX4_restsIn_22 : decode cX4_restsIn 22 = .ok (.iconst 1, 1) := by decide +kernel
theorem dX4_restsIn_23 : decode cX4_restsIn 23 = .ok (.iand, 1) := by decide +kernel
theorem dX4_restsIn_24 : decode cX4_restsIn 24 = .ok (.iconst 1, 1) := by decide +kernel
theorem dX4_restsIn_25 : decode cX4_restsIn 25 = .ok (.if_icmp .eq 12, 3) := by decide +kernel
theorem dX4_restsIn_28 : decode cX4_restsIn 28 = .ok (.aload_n 0, 1) := by decide +kernel
theorem dX4_restsIn_29 : decode cX4_restsIn 29 = .ok (.iload_n 1, 1) := by decide +kernel
theorem dX4_restsIn_30 : decode cX4_restsIn 30 = .ok (.iload_n 3, 1) := by decide +kernel
theorem dX4_restsIn_31 : decode cX4_restsIn 31 = .ok (.invokevirtual 70, 3) := by decide +kernel
theorem dX4_restsIn_34 : decode cX4_restsIn 34 = .ok (.ifCond .ne 7, 3) := by decide +kernel
theorem dX4_restsIn_37 : decode cX4_restsIn 37 = .ok (.iconst 1, 1) := by decide +kernel
theorem dX4_restsIn_38 : decode cX4_restsIn 38 = .ok (.goto 4, 3) := by decide +kernel
theorem dX4_restsIn_41 : decode cX4_restsIn 41 = .ok (.iconst 0, 1) := by decide +kernel
theorem dX4_restsIn_42 : decode cX4_restsIn 42 = .ok (.istore_n 2, 1) := by decide +kernel
theorem dX4_restsIn_43 : decode cX4_restsIn 43 = .ok (.iinc 3 1, 3) := by decide +kernel
theorem dX4_restsIn_46 : decode cX4_restsIn 46 = .ok (.goto (-42), 3) := by decide +kernel
theorem dX4_restsIn_49 : decode cX4_restsIn 49 = .ok (.iload_n 2, 1) := by decide +kernel
theorem dX4_restsIn_50 : decode cX4_restsIn 50 = .ok (.ireturn, 1) := by decide +kernel
theorem dX4_rests_0 : decode cX4_rests 0 = .ok (.aload_n 0, 1) := by decide +kernel
theorem dX4_rests_1 : decode cX4_rests 1 = .ok (.aload_n 0, 1) := by decide +kernel
theorem dX4_rests_2 : decode cX4_rests 2 = .ok (.getfield 43, 3) := by decide +kernel
theorem dX4_rests_5 : decode cX4_rests 5 = .ok (.invokevirtual 111, 3) := by decide +kernel
theorem dX4_rests_8 : decode cX4_rests 8 = .ok (.ifCond .eq 7, 3) := by decide +kernel
theorem dX4_rests_11 : decode cX4_rests 11 = .ok (.iconst 1, 1) := by decide +kernel
theorem dX4_rests_12 : decode cX4_rests 12 = .ok (.goto 4, 3) := by decide +kernel
theorem dX4_rests_15 : decode cX4_rests 15 = .ok (.iconst 0, 1) := by decide +kernel
theorem dX4_rests_16 : decode cX4_rests 16 = .ok (.ireturn, 1) := by decide +kernel
theorem dX4_restMany_0 : decode cX4_restMany 0 = .ok (.iconst 0, 1) := by decide +kernel
theorem dX4_restMany_1 : decode cX4_restMany 1 = .ok (.istore_n 1, 1) := by decide +kernel
theorem dX4_restMany_2 : decode cX4_restMany 2 = .ok (.iconst 0, 1) := by decide +kernel
theorem dX4_restMany_3 : decode cX4_restMany 3 = .ok (.istore_n 2, 1) := by decide +kernel
theorem dX4_restMany_4 : decode cX4_restMany 4 = .ok (.iload_n 2, 1) := by decide +kernel
theorem dX4_restMany_5 : decode cX4_restMany 5 = .ok (.aload_n 0, 1) := by decide +kernel
theorem dX4_restMany_6 : decode cX4_restMany 6 = .ok (.invokevirtual 36, 3) := by decide +kernel
theorem dX4_restMany_9 : decode cX4_restMany 9 = .ok (.if_icmp .ge 33, 3) := by decide +kernel
theorem dX4_restMany_12 : decode cX4_restMany 12 = .ok (.iload_n 1, 1) := by decide +kernel
theorem dX4_restMany_13 : decode cX4_restMany 13 = .ok (.aload_n 0, 1) := by decide +kernel
theorem dX4_restMany_14 : decode cX4_restMany 14 = .ok (.iload_n 2, 1) := by decide +kernel
theorem dX4_restMany_15 : decode cX4_restMany 15 = .ok (.invokevirtual 82, 3) := by decide +kernel
theorem dX4_restMany_18 : decode cX4_restMany 18 = .ok (.ifCond .eq 15, 3) := by decide +kernel
theorem dX4_restMany_21 : decode cX4_restMany 21 = .ok (.aload_n 0, 1) := by decide +kernel
theorem dX4_restMany_22 : decode cX4_restMany 22 = .ok (.iload_n 2, 1) := by decide +kernel
theorem dX4_restMany_23 : decode cX4_restMany 23 = .ok (.invokevirtual 111, 3) := by decide +kernel
theorem dX4_restMany_26 : decode cX4_restMany 26 = .ok (.ifCond .eq 7, 3) := by decide +kernel
theorem dX4_restMany_29 : decode cX4_restMany 29 = .ok (.iconst 1, 1) := by decide +kernel
theorem dX4_restMany_30 : decode cX4_restMany 30 = .ok (.goto 4, 3) := by decide +kernel
theorem dX4_restMany_33 : decode cX4_restMany 33 = .ok (.iconst 0, 1) := by decide +kernel
theorem dX4_restMany_34 : decode cX4_restMany 34 = .ok (.iadd, 1) := by decide +kernel
theorem dX4_restMany_35 : decode cX4_restMany 35 = .ok (.istore_n 1, 1) := by decide +kernel
theorem dX4_restMany_36 : decode cX4_restMany 36 = .ok (.iinc 2 1, 3) := by decide +kernel
theorem dX4_restMany_39 : decode cX4_restMany 39 = .ok (.goto (-35), 3) := by decide +kernel
theorem dX4_restMany_42 : decode cX4_restMany 42 = .ok (.iload_n 1, 1) := by decide +kernel
theorem dX4_restMany_43 : decode cX4_restMany 43 = .ok (.ireturn, 1) := by decide +kernel
theorem dX4_bits_0 : decode cX4_bits 0 = .ok (.iconst 0, 1) := by decide +kernel
theorem dX4_bits_1 : decode cX4_bits 1 = .ok (.istore_n 2, 1) := by decide +kernel
theorem dX4_bits_2 : decode cX4_bits 2 = .ok (.iconst 0, 1) := by decide +kernel
theorem dX4_bits_3 : decode cX4_bits 3 = .ok (.istore_n 3, 1) := by decide +kernel
theorem dX4_bits_4 : decode cX4_bits 4 = .ok (.iload_n 3, 1) := by decide +kernel
theorem dX4_bits_5 : decode cX4_bits 5 = .ok (.aload_n 0, 1) := by decide +kernel
theorem dX4_bits_6 : decode cX4_bits 6 = .ok (.getfield 7, 3) := by decide +kernel
theorem dX4_bits_9 : decode cX4_bits 9 = .ok (.if_icmp .ge 17, 3) := by decide +kernel
theorem dX4_bits_12 : decode cX4_bits 12 = .ok (.iload_n 2, 1) := by decide +kernel
theorem dX4_bits_13 : decode cX4_bits 13 = .ok (.iload_n 1, 1) := by decide +kernel
theorem dX4_bits_14 : decode cX4_bits 14 = .ok (.iload_n 3, 1) := by decide +kernel
theorem dX4_bits_15 : decode cX4_bits 15 = .ok (.ishr, 1) := by decide +kernel
theorem dX4_bits_16 : decode cX4_bits 16 = .ok (.iconst 1, 1) := by decide +kernel
theorem dX4_bits_17 : decode cX4_bits 17 = .ok (.iand, 1) := by decide +kernel
theorem dX4_bits_18 : decode cX4_bits 18 = .ok (.iadd, 1) := by decide +kernel
theorem dX4_bits_19 : decode cX4_bits 19 = .ok (.istore_n 2, 1) := by decide +kernel
theorem dX4_bits_20 : decode cX4_bits 20 = .ok (.iinc 3 1, 3) := by decide +kernel
theorem dX4_bits_23 : decode cX4_bits 23 = .ok (.goto (-19), 3) := by decide +kernel
theorem dX4_bits_26 : decode cX4_bits 26 = .ok (.iload_n 2, 1) := by decide +kernel
theorem dX4_bits_27 : decode cX4_bits 27 = .ok (.ireturn, 1) := by decide +kernel
theorem dX4_tips_0 : decode cX4_tips 0 = .ok (.aload_n 0, 1) := by decide +kernel
theorem dX4_tips_1 : decode cX4_tips 1 = .ok (.invokevirtual 36, 3) := by decide +kernel
theorem dX4_tips_4 : decode cX4_tips 4 = .ok (.iconst 1, 1) := by decide +kernel
theorem dX4_tips_5 : decode cX4_tips 5 = .ok (.isub, 1) := by decide +kernel
theorem dX4_tips_6 : decode cX4_tips 6 = .ok (.istore_n 3, 1) := by decide +kernel
theorem dX4_tips_7 : decode cX4_tips 7 = .ok (.iload_n 2, 1) := by decide +kernel
theorem dX4_tips_8 : decode cX4_tips 8 = .ok (.istore 4, 2) := by decide +kernel
theorem dX4_tips_10 : decode cX4_tips 10 = .ok (.iconst (-1), 1) := by decide +kernel
theorem dX4_tips_11 : decode cX4_tips 11 = .ok (.istore 5, 2) := by decide +kernel
theorem dX4_tips_13 : decode cX4_tips 13 = .ok (.iconst 0, 1) := by decide +kernel
theorem dX4_tips_14 : decode cX4_tips 14 = .ok (.istore 6, 2) := by decide +kernel
theorem dX4_tips_16 : decode cX4_tips 16 = .ok (.iload 6, 2) := by decide +kernel
theorem dX4_tips_18 : decode cX4_tips 18 = .ok (.sipush 1024, 3) := by decide +kernel
theorem dX4_tips_21 : decode cX4_tips 21 = .ok (.if_icmp .ge 51, 3) := by decide +kernel
theorem dX4_tips_24 : decode cX4_tips 24 = .ok (.iload 4, 2) := by decide +kernel
theorem dX4_tips_26 : decode cX4_tips 26 = .ok (.iload_n 3, 1) := by decide +kernel
theorem dX4_tips_27 : decode cX4_tips 27 = .ok (.if_icmp .eq 45, 3) := by decide +kernel
theorem dX4_tips_30 : decode cX4_tips 30 = .ok (.iload 4, 2) := by decide +kernel
theorem dX4_tips_32 : decode cX4_tips 32 = .ok (.iload 5, 2) := by decide +kernel
theorem dX4_tips_34 : decode cX4_tips 34 = .ok (.if_icmp .eq 38, 3) := by decide +kernel
theorem dX4_tips_37 : decode cX4_tips 37 = .ok (.iload 6, 2) := by decide +kernel
theorem dX4_tips_39 : decode cX4_tips 39 = .ok (.iload 6, 2) := by decide +kernel
theorem dX4_tips_41 : decode cX4_tips 41 = .ok (.iconst 1, 1) := by decide +kernel
theorem dX4_tips_42 : decode cX4_tips 42 = .ok (.isub, 1) := by decide +kernel
theorem dX4_tips_43 : decode cX4_tips 43 = .ok (.iand, 1) := by decide +kernel
theorem dX4_tips_44 : decode cX4_tips 44 = .ok (.ifCond .ne 8, 3) := by decide +kernel
theorem dX4_tips_47 : decode cX4_tips 47 = .ok (.iload 4, 2) := by decide +kernel
theorem dX4_tips_49 : decode cX4_tips 49 = .ok (.goto 5, 3) := by decide +kernel
theorem dX4_tips_52 : decode cX4_tips 52 = .ok (.iload 5, 2) := by decide +kernel
theorem dX4_tips_54 : decode cX4_tips 54 = .ok (.istore 5, 2) := by decide +kernel
theorem dX4_tips_56 : decode cX4_tips 56 = .ok (.aload_n 0, 1) := by decide +kernel
theorem dX4_tips_57 : decode cX4_tips 57 = .ok (.iload_n 1, 1) := by decide +kernel
theorem dX4_tips_58 : decode cX4_tips 58 = .ok (.iload 4, 2) := by decide +kernel
theorem dX4_tips_60 : decode cX4_tips 60 = .ok (.iload_n 2, 1) := by decide +kernel
theorem dX4_tips_61 : decode cX4_tips 61 = .ok (.invokevirtual 79, 3) := by decide +kernel
theorem dX4_tips_64 : decode cX4_tips 64 = .ok (.istore 4, 2) := by decide +kernel
theorem dX4_tips_66 : decode cX4_tips 66 = .ok (.iinc 6 1, 3) := by decide +kernel
theorem dX4_tips_69 : decode cX4_tips 69 = .ok (.goto (-53), 3) := by decide +kernel
theorem dX4_tips_72 : decode cX4_tips 72 = .ok (.iload 4, 2) := by decide +kernel
theorem dX4_tips_74 : decode cX4_tips 74 = .ok (.iload_n 3, 1) := by decide +kernel
theorem dX4_tips_75 : decode cX4_tips 75 = .ok (.if_icmp .ne 7, 3) := by decide +kernel
theorem dX4_tips_78 : decode cX4_tips 78 = .ok (.iconst 1, 1) := by decide +kernel
theorem dX4_tips_79 : decode cX4_tips 79 = .ok (.goto 4, 3) := by decide +kernel
theorem dX4_tips_82 : decode cX4_tips 82 = .ok (.iconst 0, 1) := by decide +kernel
theorem dX4_tips_83 : decode cX4_tips 83 = .ok (.ireturn, 1) := by decide +kernel
theorem dX4_tip_0 : decode cX4_tip 0 = .ok (.iload_n 1, 1) := by decide +kernel
theorem dX4_tip_1 : decode cX4_tip 1 = .ok (.invokestatic 76, 3) := by decide +kernel
theorem dX4_tip_4 : decode cX4_tip 4 = .ok (.ifCond .ne 6, 3) := by decide +kernel
theorem dX4_tip_7 : decode cX4_tip 7 = .ok (.bipush (-2), 2) := by decide +kernel
theorem dX4_tip_9 : decode cX4_tip 9 = .ok (.ireturn, 1) := by decide +kernel
theorem dX4_tip_10 : decode cX4_tip 10 = .ok (.iconst 0, 1) := by decide +kernel
theorem dX4_tip_11 : decode cX4_tip 11 = .ok (.istore_n 2, 1) := by decide +kernel
theorem dX4_tip_12 : decode cX4_tip 12 = .ok (.iload_n 2, 1) := by decide +kernel
theorem dX4_tip_13 : decode cX4_tip 13 = .ok (.aload_n 0, 1) := by decide +kernel
theorem dX4_tip_14 : decode cX4_tip 14 = .ok (.getfield 7, 3) := by decide +kernel
theorem dX4_tip_17 : decode cX4_tip 17 = .ok (.if_icmp .gt 45, 3) := by decide +kernel
theorem dX4_tip_20 : decode cX4_tip 20 = .ok (.iconst 0, 1) := by decide +kernel
theorem dX4_tip_21 : decode cX4_tip 21 = .ok (.istore_n 3, 1) := by decide +kernel
theorem dX4_tip_22 : decode cX4_tip 22 = .ok (.iload_n 3, 1) := by decide +kernel
theorem dX4_tip_23 : decode cX4_tip 23 = .ok (.aload_n 0, 1) := by decide +kernel
theorem dX4_tip_24 : decode cX4_tip 24 = .ok (.invokevirtual 36, 3) := by decide +kernel
theorem dX4_tip_27 : decode cX4_tip 27 = .ok (.if_icmp .ge 29, 3) := by decide +kernel
theorem dX4_tip_30 : decode cX4_tip 30 = .ok (.aload_n 0, 1) := by decide +kernel
theorem dX4_tip_31 : decode cX4_tip 31 = .ok (.iload_n 3, 1) := by decide +kernel
theorem dX4_tip_32 : decode cX4_tip 32 = .ok (.invokevirtual 114, 3) := by decide +kernel
theorem dX4_tip_35 : decode cX4_tip 35 = .ok (.iload_n 2, 1) := by decide +kernel
theorem dX4_tip_36 : decode cX4_tip 36 = .ok (.if_icmp .ne 14, 3) := by decide +kernel
theorem dX4_tip_39 : decode cX4_tip 39 = .ok (.aload_n 0, 1) := by decide +kernel
theorem dX4_tip_40 : decode cX4_tip 40 = .ok (.iload_n 1, 1) := by decide +kernel
theorem dX4_tip_41 : decode cX4_tip 41 = .ok (.iload_n 3, 1) := by decide +kernel
theorem dX4_tip_42 : decode cX4_tip 42 = .ok (.invokevirtual 117, 3) := by decide +kernel
theorem dX4_tip_45 : decode cX4_tip 45 = .ok (.ifCond .eq 5, 3) := by decide +kernel
theorem dX4_tip_48 : decode cX4_tip 48 = .ok (.iload_n 3, 1) := by decide +kernel
theorem dX4_tip_49 : decode cX4_tip 49 = .ok (.ireturn, 1) := by decide +kernel
theorem dX4_tip_50 : decode cX4_tip 50 = .ok (.iinc 3 1, 3) := by decide +kernel
theorem dX4_tip_53 : decode cX4_tip 53 = .ok (.goto (-31), 3) := by decide +kernel
theorem dX4_tip_56 : decode cX4_tip 56 = .ok (.iinc 2 1, 3) := by decide +kernel
theorem dX4_tip_59 : decode cX4_tip 59 = .ok (.goto (-47), 3) := by decide +kernel
theorem dX4_tip_62 : decode cX4_tip 62 = .ok (.bipush (-6), 2) := by decide +kernel
theorem dX4_tip_64 : decode cX4_tip 64 = .ok (.ireturn, 1) := by decide +kernel
theorem dX4_common_0 : decode cX4_common 0 = .ok (.iload_n 0, 1) := by decide +kernel
theorem dX4_common_1 : decode cX4_common 1 = .ok (.istore_n 2, 1) := by decide +kernel
theorem dX4_common_2 : decode cX4_common 2 = .ok (.iload_n 1, 1) := by decide +kernel
theorem dX4_common_3 : decode cX4_common 3 = .ok (.istore_n 3, 1) := by decide +kernel
theorem dX4_common_4 : decode cX4_common 4 = .ok (.iload_n 3, 1) := by decide +kernel
theorem dX4_common_5 : decode cX4_common 5 = .ok (.ifCond .eq 16, 3) := by decide +kernel
theorem dX4_common_8 : decode cX4_common 8 = .ok (.iload_n 2, 1) := by decide +kernel
theorem dX4_common_9 : decode cX4_common 9 = .ok (.iload_n 3, 1) := by decide +kernel
theorem dX4_common_10 : decode cX4_common 10 = .ok (.irem, 1) := by decide +kernel
theorem dX4_common_11 : decode cX4_common 11 = .ok (.istore 4, 2) := by decide +kernel
theorem dX4_common_13 : decode cX4_common 13 = .ok (.iload_n 3, 1) := by decide +kernel
theorem dX4_common_14 : decode cX4_common 14 = .ok (.istore_n 2, 1) := by decide +kernel
theorem dX4_common_15 : decode cX4_common 15 = .ok (.iload 4, 2) := by decide +kernel
theorem dX4_common_17 : decode cX4_common 17 = .ok (.istore_n 3, 1) := by decide +kernel
theorem dX4_common_18 : decode cX4_common 18 = .ok (.goto (-14), 3) := by decide +kernel
theorem dX4_common_21 : decode cX4_common 21 = .ok (.iload_n 2, 1) := by decide +kernel
theorem dX4_common_22 : decode cX4_common 22 = .ok (.ireturn, 1) := by decide +kernel
theorem dX4_share_0 : decode cX4_share 0 = .ok (.iload_n 1, 1) := by decide +kernel
theorem dX4_share_1 : decode cX4_share 1 = .ok (.iconst 0, 1) := by decide +kernel
theorem dX4_share_2 : decode cX4_share 2 = .ok (.iconst 1, 1) := by decide +kernel
theorem dX4_share_3 : decode cX4_share 3 = .ok (.invokestatic 32, 3) := by decide +kernel
theorem dX4_share_6 : decode cX4_share 6 = .ok (.ifCond .ne 6, 3) := by decide +kernel
theorem dX4_share_9 : decode cX4_share 9 = .ok (.bipush (-2), 2) := by decide +kernel
theorem dX4_share_11 : decode cX4_share 11 = .ok (.ireturn, 1) := by decide +kernel
theorem dX4_share_12 : decode cX4_share 12 = .ok (.aload_n 0, 1) := by decide +kernel
theorem dX4_share_13 : decode cX4_share 13 = .ok (.getfield 17, 3) := by decide +kernel
theorem dX4_share_16 : decode cX4_share 16 = .ok (.iconst 0, 1) := by decide +kernel
theorem dX4_share_17 : decode cX4_share 17 = .ok (.iaload, 1) := by decide +kernel
theorem dX4_share_18 : decode cX4_share 18 = .ok (.aload_n 0, 1) := by decide +kernel
theorem dX4_share_19 : decode cX4_share 19 = .ok (.getfield 17, 3) := by decide +kernel
theorem dX4_share_22 : decode cX4_share 22 = .ok (.iconst 2, 1) := by decide +kernel
theorem dX4_share_23 : decode cX4_share 23 = .ok (.iaload, 1) := by decide +kernel
theorem dX4_share_24 : decode cX4_share 24 = .ok (.isub, 1) := by decide +kernel
theorem dX4_share_25 : decode cX4_share 25 = .ok (.istore_n 2, 1) := by decide +kernel
theorem dX4_share_26 : decode cX4_share 26 = .ok (.iload_n 2, 1) := by decide +kernel
theorem dX4_share_27 : decode cX4_share 27 = .ok (.aload_n 0, 1) := by decide +kernel
theorem dX4_share_28 : decode cX4_share 28 = .ok (.getfield 17, 3) := by decide +kernel
theorem dX4_share_31 : decode cX4_share 31 = .ok (.iconst 3, 1) := by decide +kernel
theorem dX4_share_32 : decode cX4_share 32 = .ok (.iaload, 1) := by decide +kernel
theorem dX4_share_33 : decode cX4_share 33 = .ok (.iadd, 1) := by decide +kernel
theorem dX4_share_34 : decode cX4_share 34 = .ok (.aload_n 0, 1) := by decide +kernel
theorem dX4_share_35 : decode cX4_share 35 = .ok (.getfield 17, 3) := by decide +kernel
theorem dX4_share_38 : decode cX4_share 38 = .ok (.iconst 1, 1) := by decide +kernel
theorem dX4_share_39 : decode cX4_share 39 = .ok (.iaload, 1) := by decide +kernel
theorem dX4_share_40 : decode cX4_share 40 = .ok (.isub, 1) := by decide +kernel
theorem dX4_share_41 : decode cX4_share 41 = .ok (.istore_n 3, 1) := by decide +kernel
theorem dX4_share_42 : decode cX4_share 42 = .ok (.iload_n 3, 1) := by decide +kernel
theorem dX4_share_43 : decode cX4_share 43 = .ok (.ifCond .le 12, 3) := by decide +kernel
theorem dX4_share_46 : decode cX4_share 46 = .ok (.iload_n 2, 1) := by decide +kernel
theorem dX4_share_47 : decode cX4_share 47 = .ok (.iconst 0, 1) := by decide +kernel
theorem dX4_share_48 : decode cX4_share 48 = .ok (.iload_n 3, 1) := by decide +kernel
theorem dX4_share_49 : decode cX4_share 49 = .ok (.invokestatic 32, 3) := by decide +kernel
theorem dX4_share_52 : decode cX4_share 52 = .ok (.ifCond .ne 6, 3) := by decide +kernel
theorem dX4_share_55 : decode cX4_share 55 = .ok (.bipush (-3), 2) := by decide +kernel
theorem dX4_share_57 : decode cX4_share 57 = .ok (.ireturn, 1) := by decide +kernel
theorem dX4_share_58 : decode cX4_share 58 = .ok (.iload_n 1, 1) := by decide +kernel
theorem dX4_share_59 : decode cX4_share 59 = .ok (.ifCond .ne 7, 3) := by decide +kernel
theorem dX4_share_62 : decode cX4_share 62 = .ok (.iload_n 2, 1) := by decide +kernel
theorem dX4_share_63 : decode cX4_share 63 = .ok (.goto 4, 3) := by decide +kernel
theorem dX4_share_66 : decode cX4_share 66 = .ok (.iload_n 3, 1) := by decide +kernel
theorem dX4_share_67 : decode cX4_share 67 = .ok (.iload_n 2, 1) := by decide +kernel
theorem dX4_share_68 : decode cX4_share 68 = .ok (.iload_n 3, 1) := by decide +kernel
theorem dX4_share_69 : decode cX4_share 69 = .ok (.invokestatic 120, 3) := by decide +kernel
theorem dX4_share_72 : decode cX4_share 72 = .ok (.idiv, 1) := by decide +kernel
theorem dX4_share_73 : decode cX4_share 73 = .ok (.ireturn, 1) := by decide +kernel
theorem dX4_hangs_0 : decode cX4_hangs 0 = .ok (.aload_n 0, 1) := by decide +kernel
theorem dX4_hangs_1 : decode cX4_hangs 1 = .ok (.iload_n 1, 1) := by decide +kernel
theorem dX4_hangs_2 : decode cX4_hangs 2 = .ok (.invokevirtual 55, 3) := by decide +kernel
theorem dX4_hangs_5 : decode cX4_hangs 5 = .ok (.ifCond .eq 13, 3) := by decide +kernel
theorem dX4_hangs_8 : decode cX4_hangs 8 = .ok (.iload_n 2, 1) := by decide +kernel
theorem dX4_hangs_9 : decode cX4_hangs 9 = .ok (.iconst 1, 1) := by decide +kernel
theorem dX4_hangs_10 : decode cX4_hangs 10 = .ok (.bipush 100, 2) := by decide +kernel
theorem dX4_hangs_12 : decode cX4_hangs 12 = .ok (.invokestatic 32, 3) := by decide +kernel
theorem dX4_hangs_15 : decode cX4_hangs 15 = .ok (.ifCond .ne 6, 3) := by decide +kernel
theorem dX4_hangs_18 : decode cX4_hangs 18 = .ok (.bipush (-2), 2) := by decide +kernel
theorem dX4_hangs_20 : decode cX4_hangs 20 = .ok (.ireturn, 1) := by decide +kernel
theorem dX4_hangs_21 : decode cX4_hangs 21 = .ok (.iconst 0, 1) := by decide +kernel
theorem dX4_hangs_22 : decode cX4_hangs 22 = .ok (.istore_n 3, 1) := by decide +kernel
theorem dX4_hangs_23 : decode cX4_hangs 23 = .ok (.iload_n 3, 1) := by decide +kernel
theorem dX4_hangs_24 : decode cX4_hangs 24 = .ok (.aload_n 0, 1) := by decide +kernel
theorem dX4_hangs_25 : decode cX4_hangs 25 = .ok (.getfield 7, 3) := by decide +kernel
theorem dX4_hangs_28 : decode cX4_hangs 28 = .ok (.if_icmp .ge 109, 3) := by decide +kernel
theorem dX4_hangs_31 : decode cX4_hangs 31 = .ok (.iconst 0, 1) := by decide +kernel
theorem dX4_hangs_32 : decode cX4_hangs 32 = .ok (.istore 4, 2) := by decide +kernel
theorem dX4_hangs_34 : decode cX4_hangs 34 = .ok (.iconst 0, 1) := by decide +kernel
theorem dX4_hangs_35 : decode cX4_hangs 35 = .ok (.istore 5, 2) := by decide +kernel
theorem dX4_hangs_37 : decode cX4_hangs 37 = .ok (.iconst 0, 1) := by decide +kernel
theorem dX4_hangs_38 : decode cX4_hangs 38 = .ok (.istore 6, 2) := by decide +kernel
theorem dX4_hangs_40 : decode cX4_hangs 40 = .ok (.iload 6, 2) := by decide +kernel
theorem dX4_hangs_42 : decode cX4_hangs 42 = .ok (.aload_n 0, 1) := by decide +kernel
theorem dX4_hangs_43 : decode cX4_hangs 43 = .ok (.getfield 7, 3) := by decide +kernel
theorem dX4_hangs_46 : decode cX4_hangs 46 = .ok (.if_icmp .ge 57, 3) := by decide +kernel
theorem dX4_hangs_49 : decode cX4_hangs 49 = .ok (.iload 4, 2) := by decide +kernel
theorem dX4_hangs_51 : decode cX4_hangs 51 = .ok (.aload_n 0, 1) := by decide +kernel
theorem dX4_hangs_52 : decode cX4_hangs 52 = .ok (.getfield 13, 3) := by decide +kernel
theorem dX4_hangs_55 : decode cX4_hangs 55 = .ok (.bipush 10, 2) := by decide +kernel
theorem dX4_hangs_57 : decode cX4_hangs 57 = .ok (.iload_n 3, 1) := by decide +kernel
theorem dX4_hangs_58 : decode cX4_hangs 58 = .ok (.imul, 1) := by decide +kernel
theorem dX4_hangs_59 : decode cX4_hangs 59 = .ok (.iload 6, 2) := by decide +kernel
theorem dX4_hangs_61 : decode cX4_hangs 61 = .ok (.iadd, 1) := by decide +kernel
theorem dX4_hangs_62 : decode cX4_hangs 62 = .ok (.iaload, 1) := by decide +kernel
theorem dX4_hangs_63 : decode cX4_hangs 63 = .ok (.iadd, 1) := by decide +kernel
theorem dX4_hangs_64 : decode cX4_hangs 64 = .ok (.istore 4, 2) := by decide +kernel
theorem dX4_hangs_66 : decode cX4_hangs 66 = .ok (.iload 5, 2) := by decide +kernel
theorem dX4_hangs_68 : decode cX4_hangs 68 = .ok (.iload_n 1, 1) := by decide +kernel
theorem dX4_hangs_69 : decode cX4_hangs 69 = .ok (.iload 6, 2) := by decide +kernel
theorem dX4_hangs_71 : decode cX4_hangs 71 = .ok (.ishr, 1) := by decide +kernel
theorem dX4_hangs_72 : decode cX4_hangs 72 = .ok (.iconst 1, 1) := by decide +kernel
theorem dX4_hangs_73 : decode cX4_hangs 73 = .ok (.iand, 1) := by decide +kernel
theorem dX4_hangs_74 : decode cX4_hangs 74 = .ok (.iconst 1, 1) := by decide +kernel
theorem dX4_hangs_75 : decode cX4_hangs 75 = .ok (.if_icmp .ne 18, 3) := by decide +kernel
theorem dX4_hangs_78 : decode cX4_hangs 78 = .ok (.aload_n 0, 1) := by decide +kernel
theorem dX4_hangs_79 : decode cX4_hangs 79 = .ok (.getfield 13, 3) := by decide +kernel
theorem dX4_hangs_82 : decode cX4_hangs 82 = .ok (.bipush 10, 2) := by decide +kernel
theorem dX4_hangs_84 : decode cX4_hangs 84 = .ok (.iload_n 3, 1) := by decide +kernel
theorem dX4_hangs_85 : decode cX4_hangs 85 = .ok (.imul, 1) := by decide +kernel
theorem dX4_hangs_86 : decode cX4_hangs 86 = .ok (.iload 6, 2) := by decide +kernel
theorem dX4_hangs_88 : decode cX4_hangs 88 = .ok (.iadd, 1) := by decide +kernel
theorem dX4_hangs_89 : decode cX4_hangs 89 = .ok (.iaload, 1) := by decide +kernel
theorem dX4_hangs_90 : decode cX4_hangs 90 = .ok (.goto 4, 3) := by decide +kernel
theorem dX4_hangs_93 : decode cX4_hangs 93 = .ok (.iconst 0, 1) := by decide +kernel
theorem dX4_hangs_94 : decode cX4_hangs 94 = .ok (.iadd, 1) := by decide +kernel
theorem dX4_hangs_95 : decode cX4_hangs 95 = .ok (.istore 5, 2) := by decide +kernel
theorem dX4_hangs_97 : decode cX4_hangs 97 = .ok (.iinc 6 1, 3) := by decide +kernel
theorem dX4_hangs_100 : decode cX4_hangs 100 = .ok (.goto (-60), 3) := by decide +kernel
theorem dX4_hangs_103 : decode cX4_hangs 103 = .ok (.iload_n 1, 1) := by decide +kernel
theorem dX4_hangs_104 : decode cX4_hangs 104 = .ok (.iload_n 3, 1) := by decide +kernel
theorem dX4_hangs_105 : decode cX4_hangs 105 = .ok (.ishr, 1) := by decide +kernel
theorem dX4_hangs_106 : decode cX4_hangs 106 = .ok (.iconst 1, 1) := by decide +kernel
theorem dX4_hangs_107 : decode cX4_hangs 107 = .ok (.iand, 1) := by decide +kernel
theorem dX4_hangs_108 : decode cX4_hangs 108 = .ok (.iconst 1, 1) := by decide +kernel
theorem dX4_hangs_109 : decode cX4_hangs 109 = .ok (.if_icmp .ne 22, 3) := by decide +kernel
theorem dX4_hangs_112 : decode cX4_hangs 112 = .ok (.iload 4, 2) := by decide +kernel
theorem dX4_hangs_114 : decode cX4_hangs 114 = .ok (.ifCond .le 17, 3) := by decide +kernel
theorem dX4_hangs_117 : decode cX4_hangs 117 = .ok (.bipush 100, 2) := by decide +kernel
theorem dX4_hangs_119 : decode cX4_hangs 119 = .ok (.iload 5, 2) := by decide +kernel
theorem dX4_hangs_121 : decode cX4_hangs 121 = .ok (.imul, 1) := by decide +kernel
theorem dX4_hangs_122 : decode cX4_hangs 122 = .ok (.iload_n 2, 1) := by decide +kernel
theorem dX4_hangs_123 : decode cX4_hangs 123 = .ok (.iload 4, 2) := by decide +kernel
theorem dX4_hangs_125 : decode cX4_hangs 125 = .ok (.imul, 1) := by decide +kernel
theorem dX4_hangs_126 : decode cX4_hangs 126 = .ok (.if_icmp .ge 5, 3) := by decide +kernel
theorem dX4_hangs_129 : decode cX4_hangs 129 = .ok (.iconst 0, 1) := by decide +kernel
theorem dX4_hangs_130 : decode cX4_hangs 130 = .ok (.ireturn, 1) := by decide +kernel
theorem dX4_hangs_131 : decode cX4_hangs 131 = .ok (.iinc 3 1, 3) := by decide +kernel
theorem dX4_hangs_134 : decode cX4_hangs 134 = .ok (.goto (-111), 3) := by decide +kernel
theorem dX4_hangs_137 : decode cX4_hangs 137 = .ok (.iconst 1, 1) := by decide +kernel
theorem dX4_hangs_138 : decode cX4_hangs 138 = .ok (.ireturn, 1) := by decide +kernel
theorem dX4_lines_0 : decode cX4_lines 0 = .ok (.iconst 0, 1) := by decide +kernel
theorem dX4_lines_1 : decode cX4_lines 1 = .ok (.istore_n 1, 1) := by decide +kernel
theorem dX4_lines_2 : decode cX4_lines 2 = .ok (.iconst 0, 1) := by decide +kernel
theorem dX4_lines_3 : decode cX4_lines 3 = .ok (.istore_n 2, 1) := by decide +kernel
theorem dX4_lines_4 : decode cX4_lines 4 = .ok (.iload_n 2, 1) := by decide +kernel
theorem dX4_lines_5 : decode cX4_lines 5 = .ok (.aload_n 0, 1) := by decide +kernel
theorem dX4_lines_6 : decode cX4_lines 6 = .ok (.getfield 7, 3) := by decide +kernel
theorem dX4_lines_9 : decode cX4_lines 9 = .ok (.if_icmp .ge 44, 3) := by decide +kernel
theorem dX4_lines_12 : decode cX4_lines 12 = .ok (.iconst 0, 1) := by decide +kernel
theorem dX4_lines_13 : decode cX4_lines 13 = .ok (.istore_n 3, 1) := by decide +kernel
theorem dX4_lines_14 : decode cX4_lines 14 = .ok (.iload_n 3, 1) := by decide +kernel
theorem dX4_lines_15 : decode cX4_lines 15 = .ok (.iload_n 2, 1) := by decide +kernel
theorem dX4_lines_16 : decode cX4_lines 16 = .ok (.if_icmp .ge 31, 3) := by decide +kernel
theorem dX4_lines_19 : decode cX4_lines 19 = .ok (.iload_n 1, 1) := by decide +kernel
theorem dX4_lines_20 : decode cX4_lines 20 = .ok (.aload_n 0, 1) := by decide +kernel
theorem dX4_lines_21 : decode cX4_lines 21 = .ok (.getfield 13, 3) := by decide +kernel
theorem dX4_lines_24 : decode cX4_lines 24 = .ok (.bipush 10, 2) := by decide +kernel
theorem dX4_lines_26 : decode cX4_lines 26 = .ok (.iload_n 2, 1) := by decide +kernel
theorem dX4_lines_27 : decode cX4_lines 27 = .ok (.imul, 1) := by decide +kernel
theorem dX4_lines_28 : decode cX4_lines 28 = .ok (.iload_n 3, 1) := by decide +kernel
theorem dX4_lines_29 : decode cX4_lines 29 = .ok (.iadd, 1) := by decide +kernel
theorem dX4_lines_30 : decode cX4_lines 30 = .ok (.iaload, 1) := by decide +kernel
theorem dX4_lines_31 : decode cX4_lines 31 = .ok (.ifCond .le 7, 3) := by decide +kernel
theorem dX4_lines_34 : decode cX4_lines 34 = .ok (.iconst 1, 1) := by decide +kernel
theorem dX4_lines_35 : decode cX4_lines 35 = .ok (.goto 4, 3) := by decide +kernel
theorem dX4_lines_38 : decode cX4_lines 38 = .ok (.iconst 0, 1) := by decide +kernel
theorem dX4_lines_39 : decode cX4_lines 39 = .ok (.iadd, 1) := by decide +kernel
theorem dX4_lines_40 : decode cX4_lines 40 = .ok (.istore_n 1, 1) := by decide +kernel
theorem dX4_lines_41 : decode cX4_lines 41 = .ok (.iinc 3 1, 3) := by decide +kernel
theorem dX4_lines_44 : decode cX4_lines 44 = .ok (.goto (-30), 3) := by decide +kernel
theorem dX4_lines_47 : decode cX4_lines 47 = .ok (.iinc 2 1, 3) := by decide +kernel
theorem dX4_lines_50 : decode cX4_lines 50 = .ok (.goto (-46), 3) := by decide +kernel
theorem dX4_lines_53 : decode cX4_lines 53 = .ok (.iload_n 1, 1) := by decide +kernel
theorem dX4_lines_54 : decode cX4_lines 54 = .ok (.ireturn, 1) := by decide +kernel
theorem dX4_told_0 : decode cX4_told 0 = .ok (.iload_n 1, 1) := by decide +kernel
theorem dX4_told_1 : decode cX4_told 1 = .ok (.tableswitch 60 0 4 #[35, 40, 45, 50, 55], 35) := by decide +kernel
theorem dX4_told_36 : decode cX4_told 36 = .ok (.aload_n 0, 1) := by decide +kernel
theorem dX4_told_37 : decode cX4_told 37 = .ok (.getfield 7, 3) := by decide +kernel
theorem dX4_told_40 : decode cX4_told 40 = .ok (.ireturn, 1) := by decide +kernel
theorem dX4_told_41 : decode cX4_told 41 = .ok (.aload_n 0, 1) := by decide +kernel
theorem dX4_told_42 : decode cX4_told 42 = .ok (.invokevirtual 123, 3) := by decide +kernel
theorem dX4_told_45 : decode cX4_told 45 = .ok (.ireturn, 1) := by decide +kernel
theorem dX4_told_46 : decode cX4_told 46 = .ok (.aload_n 0, 1) := by decide +kernel
theorem dX4_told_47 : decode cX4_told 47 = .ok (.getfield 40, 3) := by decide +kernel
theorem dX4_told_50 : decode cX4_told 50 = .ok (.ireturn, 1) := by decide +kernel
theorem dX4_told_51 : decode cX4_told 51 = .ok (.aload_n 0, 1) := by decide +kernel
theorem dX4_told_52 : decode cX4_told 52 = .ok (.getfield 43, 3) := by decide +kernel
theorem dX4_told_55 : decode cX4_told 55 = .ok (.ireturn, 1) := by decide +kernel
theorem dX4_told_56 : decode cX4_told 56 = .ok (.aload_n 0, 1) := by decide +kernel
theorem dX4_told_57 : decode cX4_told 57 = .ok (.getfield 20, 3) := by decide +kernel
theorem dX4_told_60 : decode cX4_told 60 = .ok (.ireturn, 1) := by decide +kernel
theorem dX4_told_61 : decode cX4_told 61 = .ok (.iload_n 1, 1) := by decide +kernel
theorem dX4_told_62 : decode cX4_told 62 = .ok (.bipush 10, 2) := by decide +kernel
theorem dX4_told_64 : decode cX4_told 64 = .ok (.bipush 13, 2) := by decide +kernel
theorem dX4_told_66 : decode cX4_told 66 = .ok (.invokestatic 32, 3) := by decide +kernel
theorem dX4_told_69 : decode cX4_told 69 = .ok (.ifCond .eq 15, 3) := by decide +kernel
theorem dX4_told_72 : decode cX4_told 72 = .ok (.aload_n 0, 1) := by decide +kernel
theorem dX4_told_73 : decode cX4_told 73 = .ok (.getfield 17, 3) := by decide +kernel
theorem dX4_told_76 : decode cX4_told 76 = .ok (.iload_n 1, 1) := by decide +kernel
theorem dX4_told_77 : decode cX4_told 77 = .ok (.bipush 10, 2) := by decide +kernel
theorem dX4_told_79 : decode cX4_told 79 = .ok (.isub, 1) := by decide +kernel
theorem dX4_told_80 : decode cX4_told 80 = .ok (.iaload, 1) := by decide +kernel
theorem dX4_told_81 : decode cX4_told 81 = .ok (.goto 5, 3) := by decide +kernel
theorem dX4_told_84 : decode cX4_told 84 = .ok (.ldc 54, 2) := by decide +kernel
theorem dX4_told_86 : decode cX4_told 86 = .ok (.ireturn, 1) := by decide +kernel

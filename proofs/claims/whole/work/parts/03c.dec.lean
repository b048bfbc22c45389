theorem dX3_init_0 : decode cX3_init 0 = .ok (.aload_n 0, 1) := by decide +kernel
theorem dX3_init_1 : decode cX3_init 1 = .ok (.invokespecial 1, 3) := by decide +kernel
theorem dX3_init_4 : decode cX3_init 4 = .ok (.aload_n 0, 1) := by decide +kernel
theorem dX3_init_5 : decode cX3_init 5 = .ok (.new 7, 3) := by decide +kernel
theorem dX3_init_8 : decode cX3_init 8 = .ok (.dup, 1) := by decide +kernel
theorem dX3_init_9 : decode cX3_init 9 = .ok (.invokespecial 9, 3) := by decide +kernel
theorem dX3_init_12 : decode cX3_init 12 = .ok (.putfield 10, 3) := by decide +kernel
theorem dX3_init_15 : decode cX3_init 15 = .ok (.aload_n 0, 1) := by decide +kernel
theorem dX3_init_16 : decode cX3_init 16 = .ok (.new 16, 3) := by decide +kernel
theorem dX3_init_19 : decode cX3_init 19 = .ok (.dup, 1) := by decide +kernel
theorem dX3_init_20 : decode cX3_init 20 = .ok (.aload_n 0, 1) := by decide +kernel
theorem dX3_init_21 : decode cX3_init 21 = .ok (.getfield 10, 3) := by decide +kernel
theorem dX3_init_24 : decode cX3_init 24 = .ok (.invokespecial 18, 3) := by decide +kernel
theorem dX3_init_27 : decode cX3_init 27 = .ok (.putfield 21, 3) := by decide +kernel
theorem dX3_init_30 : decode cX3_init 30 = .ok (.aload_n 0, 1) := by decide +kernel
theorem dX3_init_31 : decode cX3_init 31 = .ok (.new 25, 3) := by decide +kernel
theorem dX3_init_34 : decode cX3_init 34 = .ok (.dup, 1) := by decide +kernel
theorem dX3_init_35 : decode cX3_init 35 = .ok (.aload_n 0, 1) := by decide +kernel
theorem dX3_init_36 : decode cX3_init 36 = .ok (.getfield 10, 3) := by decide +kernel
theorem dX3_init_39 : decode cX3_init 39 = .ok (.aload_n 0, 1) := by decide +kernel
theorem dX3_init_40 : decode cX3_init 40 = .ok (.getfield 21, 3) := by decide +kernel
theorem dX3_init_43 : decode cX3_init 43 = .ok (.invokespecial 27, 3) := by decide +kernel
theorem dX3_init_46 : decode cX3_init 46 = .ok (.putfield 30, 3) := by decide +kernel
theorem dX3_init_49 : decode cX3_init 49 = .ok (.aload_n 0, 1) := by decide +kernel
theorem dX3_init_50 : decode cX3_init 50 = .ok (.sipush 1024, 3) := by decide +kernel
theorem dX3_init_53 : decode cX3_init 53 = .ok (.newarray .int, 2) := by decide +kernel
theorem dX3_init_55 : decode cX3_init 55 = .ok (.putfield 34, 3) := by decide +kernel
theorem dX3_init_58 : decode cX3_init 58 = .ok (.aload_n 0, 1) := by decide +kernel
theorem dX3_init_59 : decode cX3_init 59 = .ok (.iconst 0, 1) := by decide +kernel
theorem dX3_init_60 : decode cX3_init 60 = .ok (.putfield 38, 3) := by decide +kernel
theorem dX3_init_63 : decode cX3_init 63 = .ok (.aload_n 0, 1) := by decide +kernel
theorem dX3_init_64 : decode cX3_init 64 = .ok (.iconst 0, 1) := by decide +kernel
theorem dX3_init_65 : decode cX3_init 65 = .ok (.putfield 42, 3) := by decide +kernel
theorem dX3_init_68 : decode cX3_init 68 = .ok (.return_, 1) := by decide +kernel
theorem dX3_players_0 : decode cX3_players 0 = .ok (.iload_n 1, 1) := by decide +kernel
theorem dX3_players_1 : decode cX3_players 1 = .ok (.iconst 2, 1) := by decide +kernel
theorem dX3_players_2 : decode cX3_players 2 = .ok (.if_icmp .lt 9, 3) := by decide +kernel
theorem dX3_players_5 : decode cX3_players 5 = .ok (.iload_n 1, 1) := by decide +kernel
theorem dX3_players_6 : decode cX3_players 6 = .ok (.bipush 10, 2) := by decide +kernel
theorem dX3_players_8 : decode cX3_players 8 = .ok (.if_icmp .le 6, 3) := by decide +kernel
theorem dX3_players_11 : decode cX3_players 11 = .ok (.bipush (-2), 2) := by decide +kernel
theorem dX3_players_13 : decode cX3_players 13 = .ok (.ireturn, 1) := by decide +kernel
theorem dX3_players_14 : decode cX3_players 14 = .ok (.aload_n 0, 1) := by decide +kernel
theorem dX3_players_15 : decode cX3_players 15 = .ok (.getfield 10, 3) := by decide +kernel
theorem dX3_players_18 : decode cX3_players 18 = .ok (.getfield 45, 3) := by decide +kernel
theorem dX3_players_21 : decode cX3_players 21 = .ok (.istore_n 2, 1) := by decide +kernel
theorem dX3_players_22 : decode cX3_players 22 = .ok (.aload_n 0, 1) := by decide +kernel
theorem dX3_players_23 : decode cX3_players 23 = .ok (.getfield 10, 3) := by decide +kernel
theorem dX3_players_26 : decode cX3_players 26 = .ok (.iload_n 1, 1) := by decide +kernel
theorem dX3_players_27 : decode cX3_players 27 = .ok (.invokevirtual 48, 3) := by decide +kernel
theorem dX3_players_30 : decode cX3_players 30 = .ok (.aload_n 0, 1) := by decide +kernel
theorem dX3_players_31 : decode cX3_players 31 = .ok (.iconst 0, 1) := by decide +kernel
theorem dX3_players_32 : decode cX3_players 32 = .ok (.putfield 38, 3) := by decide +kernel
theorem dX3_players_35 : decode cX3_players 35 = .ok (.aload_n 0, 1) := by decide +kernel
theorem dX3_players_36 : decode cX3_players 36 = .ok (.iconst 0, 1) := by decide +kernel
theorem dX3_players_37 : decode cX3_players 37 = .ok (.putfield 42, 3) := by decide +kernel
theorem dX3_players_40 : decode cX3_players 40 = .ok (.aload_n 0, 1) := by decide +kernel
theorem dX3_players_41 : decode cX3_players 41 = .ok (.invokevirtual 52, 3) := by decide +kernel
theorem dX3_players_44 : decode cX3_players 44 = .ok (.iload_n 2, 1) := by decide +kernel
theorem dX3_players_45 : decode cX3_players 45 = .ok (.ireturn, 1) := by decide +kernel
theorem dX3_line_0 : decode cX3_line 0 = .ok (.aload_n 0, 1) := by decide +kernel
theorem dX3_line_1 : decode cX3_line 1 = .ok (.getfield 10, 3) := by decide +kernel
theorem dX3_line_4 : decode cX3_line 4 = .ok (.iload_n 1, 1) := by decide +kernel
theorem dX3_line_5 : decode cX3_line 5 = .ok (.iload_n 2, 1) := by decide +kernel
theorem dX3_line_6 : decode cX3_line 6 = .ok (.invokevirtual 55, 3) := by decide +kernel
theorem dX3_line_9 : decode cX3_line 9 = .ok (.ifCond .ne 5, 3) := by decide +kernel
theorem dX3_line_12 : decode cX3_line 12 = .ok (.iconst (-1), 1) := by decide +kernel
theorem dX3_line_13 : decode cX3_line 13 = .ok (.ireturn, 1) := by decide +kernel
theorem dX3_line_14 : decode cX3_line 14 = .ok (.iload_n 3, 1) := by decide +kernel
theorem dX3_line_15 : decode cX3_line 15 = .ok (.ifCond .lt 9, 3) := by decide +kernel
theorem dX3_line_18 : decode cX3_line 18 = .ok (.iload_n 3, 1) := by decide +kernel
theorem dX3_line_19 : decode cX3_line 19 = .ok (.bipush 9, 2) := by decide +kernel
theorem dX3_line_21 : decode cX3_line 21 = .ok (.if_icmp .le 6, 3) := by decide +kernel
theorem dX3_line_24 : decode cX3_line 24 = .ok (.bipush (-2), 2) := by decide +kernel
theorem dX3_line_26 : decode cX3_line 26 = .ok (.ireturn, 1) := by decide +kernel
theorem dX3_line_27 : decode cX3_line 27 = .ok (.aload_n 0, 1) := by decide +kernel
theorem dX3_line_28 : decode cX3_line 28 = .ok (.getfield 10, 3) := by decide +kernel
theorem dX3_line_31 : decode cX3_line 31 = .ok (.iload_n 1, 1) := by decide +kernel
theorem dX3_line_32 : decode cX3_line 32 = .ok (.iload_n 2, 1) := by decide +kernel
theorem dX3_line_33 : decode cX3_line 33 = .ok (.invokevirtual 59, 3) := by decide +kernel
theorem dX3_line_36 : decode cX3_line 36 = .ok (.istore 4, 2) := by decide +kernel
theorem dX3_line_38 : decode cX3_line 38 = .ok (.aload_n 0, 1) := by decide +kernel
theorem dX3_line_39 : decode cX3_line 39 = .ok (.getfield 10, 3) := by decide +kernel
theorem dX3_line_42 : decode cX3_line 42 = .ok (.iload_n 1, 1) := by decide +kernel
theorem dX3_line_43 : decode cX3_line 43 = .ok (.iload_n 2, 1) := by decide +kernel
theorem dX3_line_44 : decode cX3_line 44 = .ok (.iload_n 3, 1) := by decide +kernel
theorem dX3_line_45 : decode cX3_line 45 = .ok (.invokevirtual 63, 3) := by decide +kernel
theorem dX3_line_48 : decode cX3_line 48 = .ok (.aload_n 0, 1) := by decide +kernel
theorem dX3_line_49 : decode cX3_line 49 = .ok (.invokevirtual 52, 3) := by decide +kernel
theorem dX3_line_52 : decode cX3_line 52 = .ok (.iload 4, 2) := by decide +kernel
theorem dX3_line_54 : decode cX3_line 54 = .ok (.ireturn, 1) := by decide +kernel
theorem dX3_weight_0 : decode cX3_weight 0 = .ok (.aload_n 0, 1) := by decide +kernel
theorem dX3_weight_1 : decode cX3_weight 1 = .ok (.getfield 10, 3) := by decide +kernel
theorem dX3_weight_4 : decode cX3_weight 4 = .ok (.iload_n 1, 1) := by decide +kernel
theorem dX3_weight_5 : decode cX3_weight 5 = .ok (.iload_n 2, 1) := by decide +kernel
theorem dX3_weight_6 : decode cX3_weight 6 = .ok (.invokevirtual 55, 3) := by decide +kernel
theorem dX3_weight_9 : decode cX3_weight 9 = .ok (.ifCond .eq 15, 3) := by decide +kernel
theorem dX3_weight_12 : decode cX3_weight 12 = .ok (.aload_n 0, 1) := by decide +kernel
theorem dX3_weight_13 : decode cX3_weight 13 = .ok (.getfield 10, 3) := by decide +kernel
theorem dX3_weight_16 : decode cX3_weight 16 = .ok (.iload_n 1, 1) := by decide +kernel
theorem dX3_weight_17 : decode cX3_weight 17 = .ok (.iload_n 2, 1) := by decide +kernel
theorem dX3_weight_18 : decode cX3_weight 18 = .ok (.invokevirtual 59, 3) := by decide +kernel
theorem dX3_weight_21 : decode cX3_weight 21 = .ok (.goto 4, 3) := by decide +kernel
theorem dX3_weight_24 : decode cX3_weight 24 = .ok (.iconst (-1), 1) := by decide +kernel
theorem dX3_weight_25 : decode cX3_weight 25 = .ok (.ireturn, 1) := by decide +kernel
theorem dX3_pay_0 : decode cX3_pay 0 = .ok (.iload_n 1, 1) := by decide +kernel
theorem dX3_pay_1 : decode cX3_pay 1 = .ok (.invokestatic 67, 3) := by decide +kernel
theorem dX3_pay_4 : decode cX3_pay 4 = .ok (.ifCond .eq 22, 3) := by decide +kernel
theorem dX3_pay_7 : decode cX3_pay 7 = .ok (.iload_n 2, 1) := by decide +kernel
theorem dX3_pay_8 : decode cX3_pay 8 = .ok (.invokestatic 67, 3) := by decide +kernel
theorem dX3_pay_11 : decode cX3_pay 11 = .ok (.ifCond .eq 15, 3) := by decide +kernel
theorem dX3_pay_14 : decode cX3_pay 14 = .ok (.iload_n 3, 1) := by decide +kernel
theorem dX3_pay_15 : decode cX3_pay 15 = .ok (.bipush (-9), 2) := by decide +kernel
theorem dX3_pay_17 : decode cX3_pay 17 = .ok (.if_icmp .lt 9, 3) := by decide +kernel
theorem dX3_pay_20 : decode cX3_pay 20 = .ok (.iload_n 3, 1) := by decide +kernel
theorem dX3_pay_21 : decode cX3_pay 21 = .ok (.bipush 9, 2) := by decide +kernel
theorem dX3_pay_23 : decode cX3_pay 23 = .ok (.if_icmp .le 6, 3) := by decide +kernel
theorem dX3_pay_26 : decode cX3_pay 26 = .ok (.ldc 71, 2) := by decide +kernel
theorem dX3_pay_28 : decode cX3_pay 28 = .ok (.ireturn, 1) := by decide +kernel
theorem dX3_pay_29 : decode cX3_pay 29 = .ok (.aload_n 0, 1) := by decide +kernel
theorem dX3_pay_30 : decode cX3_pay 30 = .ok (.getfield 10, 3) := by decide +kernel
theorem dX3_pay_33 : decode cX3_pay 33 = .ok (.iload_n 1, 1) := by decide +kernel
theorem dX3_pay_34 : decode cX3_pay 34 = .ok (.iload_n 2, 1) := by decide +kernel
theorem dX3_pay_35 : decode cX3_pay 35 = .ok (.invokevirtual 72, 3) := by decide +kernel
theorem dX3_pay_38 : decode cX3_pay 38 = .ok (.istore 4, 2) := by decide +kernel
theorem dX3_pay_40 : decode cX3_pay 40 = .ok (.aload_n 0, 1) := by decide +kernel
theorem dX3_pay_41 : decode cX3_pay 41 = .ok (.getfield 10, 3) := by decide +kernel
theorem dX3_pay_44 : decode cX3_pay 44 = .ok (.iload_n 1, 1) := by decide +kernel
theorem dX3_pay_45 : decode cX3_pay 45 = .ok (.iload_n 2, 1) := by decide +kernel
theorem dX3_pay_46 : decode cX3_pay 46 = .ok (.iload_n 3, 1) := by decide +kernel
theorem dX3_pay_47 : decode cX3_pay 47 = .ok (.invokevirtual 75, 3) := by decide +kernel
theorem dX3_pay_50 : decode cX3_pay 50 = .ok (.aload_n 0, 1) := by decide +kernel
theorem dX3_pay_51 : decode cX3_pay 51 = .ok (.invokevirtual 52, 3) := by decide +kernel
theorem dX3_pay_54 : decode cX3_pay 54 = .ok (.iload 4, 2) := by decide +kernel
theorem dX3_pay_56 : decode cX3_pay 56 = .ok (.ireturn, 1) := by decide +kernel
theorem dX3_bar_0 : decode cX3_bar 0 = .ok (.iload_n 1, 1) := by decide +kernel
theorem dX3_bar_1 : decode cX3_bar 1 = .ok (.ifCond .lt 9, 3) := by decide +kernel
theorem dX3_bar_4 : decode cX3_bar 4 = .ok (.iload_n 1, 1) := by decide +kernel
theorem dX3_bar_5 : decode cX3_bar 5 = .ok (.bipush 100, 2) := by decide +kernel
theorem dX3_bar_7 : decode cX3_bar 7 = .ok (.if_icmp .le 6, 3) := by decide +kernel
theorem dX3_bar_10 : decode cX3_bar 10 = .ok (.bipush (-2), 2) := by decide +kernel
theorem dX3_bar_12 : decode cX3_bar 12 = .ok (.ireturn, 1) := by decide +kernel
theorem dX3_bar_13 : decode cX3_bar 13 = .ok (.aload_n 0, 1) := by decide +kernel
theorem dX3_bar_14 : decode cX3_bar 14 = .ok (.getfield 10, 3) := by decide +kernel
theorem dX3_bar_17 : decode cX3_bar 17 = .ok (.getfield 78, 3) := by decide +kernel
theorem dX3_bar_20 : decode cX3_bar 20 = .ok (.istore_n 2, 1) := by decide +kernel
theorem dX3_bar_21 : decode cX3_bar 21 = .ok (.aload_n 0, 1) := by decide +kernel
theorem dX3_bar_22 : decode cX3_bar 22 = .ok (.getfield 10, 3) := by decide +kernel
theorem dX3_bar_25 : decode cX3_bar 25 = .ok (.iload_n 1, 1) := by decide +kernel
theorem dX3_bar_26 : decode cX3_bar 26 = .ok (.putfield 78, 3) := by decide +kernel
theorem dX3_bar_29 : decode cX3_bar 29 = .ok (.aload_n 0, 1) := by decide +kernel
theorem dX3_bar_30 : decode cX3_bar 30 = .ok (.invokevirtual 52, 3) := by decide +kernel
theorem dX3_bar_33 : decode cX3_bar 33 = .ok (.iload_n 2, 1) := by decide +kernel
theorem dX3_bar_34 : decode cX3_bar 34 = .ok (.ireturn, 1) := by decide +kernel
theorem dX3_hold_0 : decode cX3_hold 0 = .ok (.aload_n 0, 1) := by decide +kernel
theorem dX3_hold_1 : decode cX3_hold 1 = .ok (.getfield 10, 3) := by decide +kernel
theorem dX3_hold_4 : decode cX3_hold 4 = .ok (.iload_n 1, 1) := by decide +kernel
theorem dX3_hold_5 : decode cX3_hold 5 = .ok (.invokevirtual 81, 3) := by decide +kernel
theorem dX3_hold_8 : decode cX3_hold 8 = .ok (.ifCond .ne 5, 3) := by decide +kernel
theorem dX3_hold_11 : decode cX3_hold 11 = .ok (.iconst (-1), 1) := by decide +kernel
theorem dX3_hold_12 : decode cX3_hold 12 = .ok (.ireturn, 1) := by decide +kernel
theorem dX3_hold_13 : decode cX3_hold 13 = .ok (.iload_n 1, 1) := by decide +kernel
theorem dX3_hold_14 : decode cX3_hold 14 = .ok (.aload_n 0, 1) := by decide +kernel
theorem dX3_hold_15 : decode cX3_hold 15 = .ok (.getfield 38, 3) := by decide +kernel
theorem dX3_hold_18 : decode cX3_hold 18 = .ok (.invokestatic 84, 3) := by decide +kernel
theorem dX3_hold_21 : decode cX3_hold 21 = .ok (.istore_n 3, 1) := by decide +kernel
theorem dX3_hold_22 : decode cX3_hold 22 = .ok (.aload_n 0, 1) := by decide +kernel
theorem dX3_hold_23 : decode cX3_hold 23 = .ok (.iload_n 2, 1) := by decide +kernel
theorem dX3_hold_24 : decode cX3_hold 24 = .ok (.ifCond .eq 14, 3) := by decide +kernel
theorem dX3_hold_27 : decode cX3_hold 27 = .ok (.aload_n 0, 1) := by decide +kernel
theorem dX3_hold_28 : decode cX3_hold 28 = .ok (.getfield 38, 3) := by decide +kernel
theorem dX3_hold_31 : decode cX3_hold 31 = .ok (.iconst 1, 1) := by decide +kernel
theorem dX3_hold_32 : decode cX3_hold 32 = .ok (.iload_n 1, 1) := by decide +kernel
theorem dX3_hold_33 : decode cX3_hold 33 = .ok (.ishl, 1) := by decide +kernel
theorem dX3_hold_34 : decode cX3_hold 34 = .ok (.ior, 1) := by decide +kernel
theorem dX3_hold_35 : decode cX3_hold 35 = .ok (.goto 13, 3) := by decide +kernel
theorem dX3_hold_38 : decode cX3_hold 38 = .ok (.aload_n 0, 1) := by decide +kernel
theorem dX3_hold_39 : decode cX3_hold 39 = .ok (.getfield 38, 3) := by decide +kernel
theorem dX3_hold_42 : decode cX3_hold 42 = .ok (.iconst 1, 1) := by decide +kernel
theorem dX3_hold_43 : decode cX3_hold 43 = .ok (.iload_n 1, 1) := by decide +kernel
theorem dX3_hold_44 : decode cX3_hold 44 = .ok (.ishl, 1) := by decide +kernel
theorem dX3_hold_45 : decode cX3_hold 45 = .ok (.iconst (-1), 1) := by decide +kernel
theorem dX3_hold_46 : decode cX3_hold 46 = .ok (.ixor, 1) := by decide +kernel
theorem dX3_hold_47 : decode cX3_hold 47 = .ok (.iand, 1) := by decide +kernel
theorem dX3_hold_48 : decode cX3_hold 48 = .ok (.putfield 38, 3) := by decide +kernel
theorem dX3_hold_51 : decode cX3_hold 51 = .ok (.iload_n 3, 1) := by decide +kernel
theorem dX3_hold_52 : decode cX3_hold 52 = .ok (.ireturn, 1) := by decide +kernel
theorem dX3_state_0 : decode cX3_state 0 = .ok (.aload_n 0, 1) := by decide +kernel
theorem dX3_state_1 : decode cX3_state 1 = .ok (.getfield 10, 3) := by decide +kernel
theorem dX3_state_4 : decode cX3_state 4 = .ok (.iload_n 1, 1) := by decide +kernel
theorem dX3_state_5 : decode cX3_state 5 = .ok (.invokevirtual 87, 3) := by decide +kernel
theorem dX3_state_8 : decode cX3_state 8 = .ok (.ifCond .ne 6, 3) := by decide +kernel
theorem dX3_state_11 : decode cX3_state 11 = .ok (.bipush (-2), 2) := by decide +kernel
theorem dX3_state_13 : decode cX3_state 13 = .ok (.ireturn, 1) := by decide +kernel
theorem dX3_state_14 : decode cX3_state 14 = .ok (.aload_n 0, 1) := by decide +kernel
theorem dX3_state_15 : decode cX3_state 15 = .ok (.getfield 42, 3) := by decide +kernel
theorem dX3_state_18 : decode cX3_state 18 = .ok (.istore_n 2, 1) := by decide +kernel
theorem dX3_state_19 : decode cX3_state 19 = .ok (.aload_n 0, 1) := by decide +kernel
theorem dX3_state_20 : decode cX3_state 20 = .ok (.iload_n 1, 1) := by decide +kernel
theorem dX3_state_21 : decode cX3_state 21 = .ok (.putfield 42, 3) := by decide +kernel
theorem dX3_state_24 : decode cX3_state 24 = .ok (.iload_n 2, 1) := by decide +kernel
theorem dX3_state_25 : decode cX3_state 25 = .ok (.ireturn, 1) := by decide +kernel
theorem dX3_wage_0 : decode cX3_wage 0 = .ok (.aload_n 0, 1) := by decide +kernel
theorem dX3_wage_1 : decode cX3_wage 1 = .ok (.getfield 10, 3) := by decide +kernel
theorem dX3_wage_4 : decode cX3_wage 4 = .ok (.iload_n 1, 1) := by decide +kernel
theorem dX3_wage_5 : decode cX3_wage 5 = .ok (.invokevirtual 81, 3) := by decide +kernel
theorem dX3_wage_8 : decode cX3_wage 8 = .ok (.ifCond .ne 6, 3) := by decide +kernel
theorem dX3_wage_11 : decode cX3_wage 11 = .ok (.ldc 90, 2) := by decide +kernel
theorem dX3_wage_13 : decode cX3_wage 13 = .ok (.ireturn, 1) := by decide +kernel
theorem dX3_wage_14 : decode cX3_wage 14 = .ok (.iload_n 2, 1) := by decide +kernel
theorem dX3_wage_15 : decode cX3_wage 15 = .ok (.ifCond .eq 11, 3) := by decide +kernel
theorem dX3_wage_18 : decode cX3_wage 18 = .ok (.iload_n 2, 1) := by decide +kernel
theorem dX3_wage_19 : decode cX3_wage 19 = .ok (.iconst 1, 1) := by decide +kernel
theorem dX3_wage_20 : decode cX3_wage 20 = .ok (.if_icmp .eq 6, 3) := by decide +kernel
theorem dX3_wage_23 : decode cX3_wage 23 = .ok (.ldc 71, 2) := by decide +kernel
theorem dX3_wage_25 : decode cX3_wage 25 = .ok (.ireturn, 1) := by decide +kernel
theorem dX3_wage_26 : decode cX3_wage 26 = .ok (.aload_n 0, 1) := by decide +kernel
theorem dX3_wage_27 : decode cX3_wage 27 = .ok (.getfield 10, 3) := by decide +kernel
theorem dX3_wage_30 : decode cX3_wage 30 = .ok (.iload_n 1, 1) := by decide +kernel
theorem dX3_wage_31 : decode cX3_wage 31 = .ok (.iload_n 1, 1) := by decide +kernel
theorem dX3_wage_32 : decode cX3_wage 32 = .ok (.aload_n 0, 1) := by decide +kernel
theorem dX3_wage_33 : decode cX3_wage 33 = .ok (.getfield 42, 3) := by decide +kernel
theorem dX3_wage_36 : decode cX3_wage 36 = .ok (.invokestatic 84, 3) := by decide +kernel
theorem dX3_wage_39 : decode cX3_wage 39 = .ok (.iload_n 2, 1) := by decide +kernel
theorem dX3_wage_40 : decode cX3_wage 40 = .ok (.ixor, 1) := by decide +kernel
theorem dX3_wage_41 : decode cX3_wage 41 = .ok (.aload_n 0, 1) := by decide +kernel
theorem dX3_wage_42 : decode cX3_wage 42 = .ok (.getfield 42, 3) := by decide +kernel
theorem dX3_wage_45 : decode cX3_wage 45 = .ok (.invokevirtual 91, 3) := by decide +kernel
theorem dX3_wage_48 : decode cX3_wage 48 = .ok (.ireturn, 1) := by decide +kernel
theorem dX3_sum_0 : decode cX3_sum 0 = .ok (.iconst 0, 1) := by decide +kernel
theorem dX3_sum_1 : decode cX3_sum 1 = .ok (.istore_n 1, 1) := by decide +kernel
theorem dX3_sum_2 : decode cX3_sum 2 = .ok (.iconst 0, 1) := by decide +kernel
theorem dX3_sum_3 : decode cX3_sum 3 = .ok (.istore_n 2, 1) := by decide +kernel
theorem dX3_sum_4 : decode cX3_sum 4 = .ok (.iload_n 2, 1) := by decide +kernel
theorem dX3_sum_5 : decode cX3_sum 5 = .ok (.aload_n 0, 1) := by decide +kernel
theorem dX3_sum_6 : decode cX3_sum 6 = .ok (.getfield 10, 3) := by decide +kernel
theorem dX3_sum_9 : decode cX3_sum 9 = .ok (.getfield 45, 3) := by decide +kernel
theorem dX3_sum_12 : decode cX3_sum 12 = .ok (.if_icmp .ge 32, 3) := by decide +kernel
theorem dX3_sum_15 : decode cX3_sum 15 = .ok (.iload_n 1, 1) := by decide +kernel
theorem dX3_sum_16 : decode cX3_sum 16 = .ok (.aload_n 0, 1) := by decide +kernel
theorem dX3_sum_17 : decode cX3_sum 17 = .ok (.getfield 10, 3) := by decide +kernel
theorem dX3_sum_20 : decode cX3_sum 20 = .ok (.iload_n 2, 1) := by decide +kernel
theorem dX3_sum_21 : decode cX3_sum 21 = .ok (.iload_n 2, 1) := by decide +kernel
theorem dX3_sum_22 : decode cX3_sum 22 = .ok (.aload_n 0, 1) := by decide +kernel
theorem dX3_sum_23 : decode cX3_sum 23 = .ok (.getfield 42, 3) := by decide +kernel
theorem dX3_sum_26 : decode cX3_sum 26 = .ok (.invokestatic 84, 3) := by decide +kernel
theorem dX3_sum_29 : decode cX3_sum 29 = .ok (.aload_n 0, 1) := by decide +kernel
theorem dX3_sum_30 : decode cX3_sum 30 = .ok (.getfield 42, 3) := by decide +kernel
theorem dX3_sum_33 : decode cX3_sum 33 = .ok (.invokevirtual 91, 3) := by decide +kernel
theorem dX3_sum_36 : decode cX3_sum 36 = .ok (.iadd, 1) := by decide +kernel
theorem dX3_sum_37 : decode cX3_sum 37 = .ok (.istore_n 1, 1) := by decide +kernel
theorem dX3_sum_38 : decode cX3_sum 38 = .ok (.iinc 2 1, 3) := by decide +kernel
theorem dX3_sum_41 : decode cX3_sum 41 = .ok (.goto (-37), 3) := by decide +kernel
theorem dX3_sum_44 : decode cX3_sum 44 = .ok (.iload_n 1, 1) := by decide +kernel
theorem dX3_sum_45 : decode cX3_sum 45 = .ok (.ireturn, 1) := by decide +kernel
theorem dX3_step_0 : decode cX3_step 0 = .ok (.iload_n 1, 1) := by decide +kernel
theorem dX3_step_1 : decode cX3_step 1 = .ok (.invokestatic 95, 3) := by decide +kernel
theorem dX3_step_4 : decode cX3_step 4 = .ok (.ifCond .eq 14, 3) := by decide +kernel
theorem dX3_step_7 : decode cX3_step 7 = .ok (.iload_n 2, 1) := by decide +kernel
theorem dX3_step_8 : decode cX3_step 8 = .ok (.iconst 1, 1) := by decide +kernel
theorem dX3_step_9 : decode cX3_step 9 = .ok (.if_icmp .lt 9, 3) := by decide +kernel
theorem dX3_step_12 : decode cX3_step 12 = .ok (.iload_n 2, 1) := by decide +kernel
theorem dX3_step_13 : decode cX3_step 13 = .ok (.bipush 100, 2) := by decide +kernel
theorem dX3_step_15 : decode cX3_step 15 = .ok (.if_icmp .le 6, 3) := by decide +kernel
theorem dX3_step_18 : decode cX3_step 18 = .ok (.bipush (-2), 2) := by decide +kernel
theorem dX3_step_20 : decode cX3_step 20 = .ok (.ireturn, 1) := by decide +kernel
theorem dX3_step_21 : decode cX3_step 21 = .ok (.iconst 0, 1) := by decide +kernel
theorem dX3_step_22 : decode cX3_step 22 = .ok (.istore_n 3, 1) := by decide +kernel
theorem dX3_step_23 : decode cX3_step 23 = .ok (.iload_n 3, 1) := by decide +kernel
theorem dX3_step_24 : decode cX3_step 24 = .ok (.iload_n 2, 1) := by decide +kernel
theorem dX3_step_25 : decode cX3_step 25 = .ok (.if_icmp .ge 29, 3) := by decide +kernel
theorem dX3_step_28 : decode cX3_step 28 = .ok (.aload_n 0, 1) := by decide +kernel
theorem dX3_step_29 : decode cX3_step 29 = .ok (.aload_n 0, 1) := by decide +kernel
theorem dX3_step_30 : decode cX3_step 30 = .ok (.getfield 21, 3) := by decide +kernel
theorem dX3_step_33 : decode cX3_step 33 = .ok (.iload_n 1, 1) := by decide +kernel
theorem dX3_step_34 : decode cX3_step 34 = .ok (.aload_n 0, 1) := by decide +kernel
theorem dX3_step_35 : decode cX3_step 35 = .ok (.getfield 38, 3) := by decide +kernel
theorem dX3_step_38 : decode cX3_step 38 = .ok (.aload_n 0, 1) := by decide +kernel
theorem dX3_step_39 : decode cX3_step 39 = .ok (.getfield 42, 3) := by decide +kernel
theorem dX3_step_42 : decode cX3_step 42 = .ok (.invokevirtual 98, 3) := by decide +kernel
theorem dX3_step_45 : decode cX3_step 45 = .ok (.putfield 42, 3) := by decide +kernel
theorem dX3_step_48 : decode cX3_step 48 = .ok (.iinc 3 1, 3) := by decide +kernel
theorem dX3_step_51 : decode cX3_step 51 = .ok (.goto (-28), 3) := by decide +kernel
theorem dX3_step_54 : decode cX3_step 54 = .ok (.aload_n 0, 1) := by decide +kernel
theorem dX3_step_55 : decode cX3_step 55 = .ok (.getfield 42, 3) := by decide +kernel
theorem dX3_step_58 : decode cX3_step 58 = .ok (.ireturn, 1) := by decide +kernel
theorem dX3_after_0 : decode cX3_after 0 = .ok (.iload_n 1, 1) := by decide +kernel
theorem dX3_after_1 : decode cX3_after 1 = .ok (.invokestatic 95, 3) := by decide +kernel
theorem dX3_after_4 : decode cX3_after 4 = .ok (.ifCond .eq 30, 3) := by decide +kernel
theorem dX3_after_7 : decode cX3_after 7 = .ok (.aload_n 0, 1) := by decide +kernel
theorem dX3_after_8 : decode cX3_after 8 = .ok (.getfield 10, 3) := by decide +kernel
theorem dX3_after_11 : decode cX3_after 11 = .ok (.iload_n 2, 1) := by decide +kernel
theorem dX3_after_12 : decode cX3_after 12 = .ok (.invokevirtual 87, 3) := by decide +kernel
theorem dX3_after_15 : decode cX3_after 15 = .ok (.ifCond .eq 19, 3) := by decide +kernel
theorem dX3_after_18 : decode cX3_after 18 = .ok (.aload_n 0, 1) := by decide +kernel
theorem dX3_after_19 : decode cX3_after 19 = .ok (.getfield 21, 3) := by decide +kernel
theorem dX3_after_22 : decode cX3_after 22 = .ok (.iload_n 1, 1) := by decide +kernel
theorem dX3_after_23 : decode cX3_after 23 = .ok (.aload_n 0, 1) := by decide +kernel
theorem dX3_after_24 : decode cX3_after 24 = .ok (.getfield 38, 3) := by decide +kernel
theorem dX3_after_27 : decode cX3_after 27 = .ok (.iload_n 2, 1) := by decide +kernel
theorem dX3_after_28 : decode cX3_after 28 = .ok (.invokevirtual 98, 3) := by decide +kernel
theorem dX3_after_31 : decode cX3_after 31 = .ok (.goto 5, 3) := by decide +kernel
theorem dX3_after_34 : decode cX3_after 34 = .ok (.bipush (-2), 2) := by decide +kernel
theorem dX3_after_36 : decode cX3_after 36 = .ok (.ireturn, 1) := by decide +kernel
theorem dX3_goes_0 : decode cX3_goes 0 = .ok (.iload_n 1, 1) := by decide +kernel
theorem dX3_goes_1 : decode cX3_goes 1 = .ok (.invokestatic 95, 3) := by decide +kernel
theorem dX3_goes_4 : decode cX3_goes 4 = .ok (.ifCond .eq 12, 3) := by decide +kernel
theorem dX3_goes_7 : decode cX3_goes 7 = .ok (.iload_n 2, 1) := by decide +kernel
theorem dX3_goes_8 : decode cX3_goes 8 = .ok (.ifCond .lt 8, 3) := by decide +kernel
theorem dX3_goes_11 : decode cX3_goes 11 = .ok (.iload_n 2, 1) := by decide +kernel
theorem dX3_goes_12 : decode cX3_goes 12 = .ok (.iconst 3, 1) := by decide +kernel
theorem dX3_goes_13 : decode cX3_goes 13 = .ok (.if_icmp .le 6, 3) := by decide +kernel
theorem dX3_goes_16 : decode cX3_goes 16 = .ok (.bipush (-2), 2) := by decide +kernel
theorem dX3_goes_18 : decode cX3_goes 18 = .ok (.ireturn, 1) := by decide +kernel
theorem dX3_goes_19 : decode cX3_goes 19 = .ok (.aload_n 0, 1) := by decide +kernel
theorem dX3_goes_20 : decode cX3_goes 20 = .ok (.getfield 30, 3) := by decide +kernel
theorem dX3_goes_23 : decode cX3_goes 23 = .ok (.iload_n 1, 1) := by decide +kernel
theorem dX3_goes_24 : decode cX3_goes 24 = .ok (.aload_n 0, 1) := by decide +kernel
theorem dX3_goes_25 : decode cX3_goes 25 = .ok (.getfield 38, 3) := by decide +kernel
theorem dX3_goes_28 : decode cX3_goes 28 = .ok (.aload_n 0, 1) := by decide +kernel
theorem dX3_goes_29 : decode cX3_goes 29 = .ok (.getfield 42, 3) := by decide +kernel
theorem dX3_goes_32 : decode cX3_goes 32 = .ok (.invokevirtual 101, 3) := by decide +kernel
theorem dX3_goes_35 : decode cX3_goes 35 = .ok (.iload_n 2, 1) := by decide +kernel
theorem dX3_goes_36 : decode cX3_goes 36 = .ok (.tableswitch 74 0 2 #[28, 41, 61], 28) := by decide +kernel
theorem dX3_goes_64 : decode cX3_goes 64 = .ok (.aload_n 0, 1) := by decide +kernel
theorem dX3_goes_65 : decode cX3_goes 65 = .ok (.getfield 30, 3) := by decide +kernel
theorem dX3_goes_68 : decode cX3_goes 68 = .ok (.getfield 104, 3) := by decide +kernel
theorem dX3_goes_71 : decode cX3_goes 71 = .ok (.aload_n 0, 1) := by decide +kernel
theorem dX3_goes_72 : decode cX3_goes 72 = .ok (.getfield 42, 3) := by decide +kernel
theorem dX3_goes_75 : decode cX3_goes 75 = .ok (.iaload, 1) := by decide +kernel
theorem dX3_goes_76 : decode cX3_goes 76 = .ok (.ireturn, 1) := by decide +kernel
theorem dX3_goes_77 : decode cX3_goes 77 = .ok (.aload_n 0, 1) := by decide +kernel
theorem dX3_goes_78 : decode cX3_goes 78 = .ok (.getfield 30, 3) := by decide +kernel
theorem dX3_goes_81 : decode cX3_goes 81 = .ok (.aload_n 0, 1) := by decide +kernel
theorem dX3_goes_82 : decode cX3_goes 82 = .ok (.getfield 30, 3) := by decide +kernel
theorem dX3_goes_85 : decode cX3_goes 85 = .ok (.getfield 107, 3) := by decide +kernel
theorem dX3_goes_88 : decode cX3_goes 88 = .ok (.aload_n 0, 1) := by decide +kernel
theorem dX3_goes_89 : decode cX3_goes 89 = .ok (.getfield 42, 3) := by decide +kernel
theorem dX3_goes_92 : decode cX3_goes 92 = .ok (.iaload, 1) := by decide +kernel
theorem dX3_goes_93 : decode cX3_goes 93 = .ok (.invokevirtual 110, 3) := by decide +kernel
theorem dX3_goes_96 : decode cX3_goes 96 = .ok (.ireturn, 1) := by decide +kernel
theorem dX3_goes_97 : decode cX3_goes 97 = .ok (.aload_n 0, 1) := by decide +kernel
theorem dX3_goes_98 : decode cX3_goes 98 = .ok (.getfield 30, 3) := by decide +kernel
theorem dX3_goes_101 : decode cX3_goes 101 = .ok (.getfield 107, 3) := by decide +kernel
theorem dX3_goes_104 : decode cX3_goes 104 = .ok (.aload_n 0, 1) := by decide +kernel
theorem dX3_goes_105 : decode cX3_goes 105 = .ok (.getfield 42, 3) := by decide +kernel
theorem dX3_goes_108 : decode cX3_goes 108 = .ok (.iaload, 1) := by decide +kernel
theorem dX3_goes_109 : decode cX3_goes 109 = .ok (.ireturn, 1) := by decide +kernel
theorem dX3_goes_110 : decode cX3_goes 110 = .ok (.aload_n 0, 1) := by decide +kernel
theorem dX3_goes_111 : decode cX3_goes 111 = .ok (.getfield 30, 3) := by decide +kernel
theorem dX3_goes_114 : decode cX3_goes 114 = .ok (.aload_n 0, 1) := by decide +kernel
theorem dX3_goes_115 : decode cX3_goes 115 = .ok (.getfield 42, 3) := by decide +kernel
theorem dX3_goes_118 : decode cX3_goes 118 = .ok (.invokevirtual 114, 3) := by decide +kernel
theorem dX3_goes_121 : decode cX3_goes 121 = .ok (.ireturn, 1) := by decide +kernel
theorem dX3_end_0 : decode cX3_end 0 = .ok (.iload_n 1, 1) := by decide +kernel
theorem dX3_end_1 : decode cX3_end 1 = .ok (.invokestatic 95, 3) := by decide +kernel
theorem dX3_end_4 : decode cX3_end 4 = .ok (.ifCond .ne 6, 3) := by decide +kernel
theorem dX3_end_7 : decode cX3_end 7 = .ok (.bipush (-2), 2) := by decide +kernel
theorem dX3_end_9 : decode cX3_end 9 = .ok (.ireturn, 1) := by decide +kernel
theorem dX3_end_10 : decode cX3_end 10 = .ok (.aload_n 0, 1) := by decide +kernel
theorem dX3_end_11 : decode cX3_end 11 = .ok (.getfield 30, 3) := by decide +kernel
theorem dX3_end_14 : decode cX3_end 14 = .ok (.iload_n 1, 1) := by decide +kernel
theorem dX3_end_15 : decode cX3_end 15 = .ok (.aload_n 0, 1) := by decide +kernel
theorem dX3_end_16 : decode cX3_end 16 = .ok (.getfield 38, 3) := by decide +kernel
theorem dX3_end_19 : decode cX3_end 19 = .ok (.aload_n 0, 1) := by decide +kernel
theorem dX3_end_20 : decode cX3_end 20 = .ok (.getfield 42, 3) := by decide +kernel
theorem dX3_end_23 : decode cX3_end 23 = .ok (.invokevirtual 101, 3) := by decide +kernel
theorem dX3_end_26 : decode cX3_end 26 = .ok (.iload_n 2, 1) := by decide +kernel
theorem dX3_end_27 : decode cX3_end 27 = .ok (.iconst (-1), 1) := by decide +kernel
theorem dX3_end_28 : decode cX3_end 28 = .ok (.if_icmp .ne 13, 3) := by decide +kernel
theorem dX3_end_31 : decode cX3_end 31 = .ok (.aload_n 0, 1) := by decide +kernel
theorem dX3_end_32 : decode cX3_end 32 = .ok (.getfield 30, 3) := by decide +kernel
theorem dX3_end_35 : decode cX3_end 35 = .ok (.invokevirtual 117, 3) := by decide +kernel
theorem dX3_end_38 : decode cX3_end 38 = .ok (.goto 11, 3) := by decide +kernel
theorem dX3_end_41 : decode cX3_end 41 = .ok (.aload_n 0, 1) := by decide +kernel
theorem dX3_end_42 : decode cX3_end 42 = .ok (.getfield 30, 3) := by decide +kernel
theorem dX3_end_45 : decode cX3_end 45 = .ok (.iload_n 2, 1) := by decide +kernel
theorem dX3_end_46 : decode cX3_end 46 = .ok (.invokevirtual 121, 3) := by decide +kernel
theorem dX3_end_49 : decode cX3_end 49 = .ok (.ireturn, 1) := by decide +kernel
theorem dX3_basin_0 : decode cX3_basin 0 = .ok (.iload_n 1, 1) := by decide +kernel
theorem dX3_basin_1 : decode cX3_basin 1 = .ok (.invokestatic 95, 3) := by decide +kernel
theorem dX3_basin_4 : decode cX3_basin 4 = .ok (.ifCond .eq 12, 3) := by decide +kernel
theorem dX3_basin_7 : decode cX3_basin 7 = .ok (.iload_n 3, 1) := by decide +kernel
theorem dX3_basin_8 : decode cX3_basin 8 = .ok (.ifCond .lt 8, 3) := by decide +kernel
theorem dX3_basin_11 : decode cX3_basin 11 = .ok (.iload_n 3, 1) := by decide +kernel
theorem dX3_basin_12 : decode cX3_basin 12 = .ok (.iconst 2, 1) := by decide +kernel
theorem dX3_basin_13 : decode cX3_basin 13 = .ok (.if_icmp .le 6, 3) := by decide +kernel
theorem dX3_basin_16 : decode cX3_basin 16 = .ok (.bipush (-2), 2) := by decide +kernel
theorem dX3_basin_18 : decode cX3_basin 18 = .ok (.ireturn, 1) := by decide +kernel
theorem dX3_basin_19 : decode cX3_basin 19 = .ok (.aload_n 0, 1) := by decide +kernel
theorem dX3_basin_20 : decode cX3_basin 20 = .ok (.getfield 30, 3) := by decide +kernel
theorem dX3_basin_23 : decode cX3_basin 23 = .ok (.iload_n 1, 1) := by decide +kernel
theorem dX3_basin_24 : decode cX3_basin 24 = .ok (.aload_n 0, 1) := by decide +kernel
theorem dX3_basin_25 : decode cX3_basin 25 = .ok (.getfield 38, 3) := by decide +kernel
theorem dX3_basin_28 : decode cX3_basin 28 = .ok (.aload_n 0, 1) := by decide +kernel
theorem dX3_basin_29 : decode cX3_basin 29 = .ok (.getfield 42, 3) := by decide +kernel
theorem dX3_basin_32 : decode cX3_basin 32 = .ok (.invokevirtual 101, 3) := by decide +kernel
theorem dX3_basin_35 : decode cX3_basin 35 = .ok (.aload_n 0, 1) := by decide +kernel
theorem dX3_basin_36 : decode cX3_basin 36 = .ok (.getfield 30, 3) := by decide +kernel
theorem dX3_basin_39 : decode cX3_basin 39 = .ok (.iload_n 2, 1) := by decide +kernel
theorem dX3_basin_40 : decode cX3_basin 40 = .ok (.invokevirtual 121, 3) := by decide +kernel
theorem dX3_basin_43 : decode cX3_basin 43 = .ok (.istore 4, 2) := by decide +kernel
theorem dX3_basin_45 : decode cX3_basin 45 = .ok (.iload 4, 2) := by decide +kernel
theorem dX3_basin_47 : decode cX3_basin 47 = .ok (.bipush (-6), 2) := by decide +kernel
theorem dX3_basin_49 : decode cX3_basin 49 = .ok (.if_icmp .ne 6, 3) := by decide +kernel
theorem dX3_basin_52 : decode cX3_basin 52 = .ok (.bipush (-6), 2) := by decide +kernel
theorem dX3_basin_54 : decode cX3_basin 54 = .ok (.ireturn, 1) := by decide +kernel
theorem dX3_basin_55 : decode cX3_basin 55 = .ok (.iload_n 3, 1) := by decide +kernel
theorem dX3_basin_56 : decode cX3_basin 56 = .ok (.lookupswitch 48 #[(0, 28), (1, 38)], 28) := by decide +kernel
theorem dX3_basin_84 : decode cX3_basin 84 = .ok (.aload_n 0, 1) := by decide +kernel
theorem dX3_basin_85 : decode cX3_basin 85 = .ok (.getfield 30, 3) := by decide +kernel
theorem dX3_basin_88 : decode cX3_basin 88 = .ok (.iload 4, 2) := by decide +kernel
theorem dX3_basin_90 : decode cX3_basin 90 = .ok (.invokevirtual 124, 3) := by decide +kernel
theorem dX3_basin_93 : decode cX3_basin 93 = .ok (.ireturn, 1) := by decide +kernel
theorem dX3_basin_94 : decode cX3_basin 94 = .ok (.aload_n 0, 1) := by decide +kernel
theorem dX3_basin_95 : decode cX3_basin 95 = .ok (.getfield 30, 3) := by decide +kernel
theorem dX3_basin_98 : decode cX3_basin 98 = .ok (.iload 4, 2) := by decide +kernel
theorem dX3_basin_100 : decode cX3_basin 100 = .ok (.invokevirtual 110, 3) := by decide +kernel
theorem dX3_basin_103 : decode cX3_basin 103 = .ok (.ireturn, 1) := by decide +kernel
theorem dX3_basin_104 : decode cX3_basin 104 = .ok (.aload_n 0, 1) := by decide +kernel
theorem dX3_basin_105 : decode cX3_basin 105 = .ok (.getfield 30, 3) := by decide +kernel
theorem dX3_basin_108 : decode cX3_basin 108 = .ok (.iload 4, 2) := by decide +kernel
theorem dX3_basin_110 : decode cX3_basin 110 = .ok (.invokevirtual 127, 3) := by decide +kernel
theorem dX3_basin_113 : decode cX3_basin 113 = .ok (.ireturn, 1) := by decide +kernel
theorem dX3_lone_0 : decode cX3_lone 0 = .ok (.iload_n 1, 1) := by decide +kernel
theorem dX3_lone_1 : decode cX3_lone 1 = .ok (.invokestatic 95, 3) := by decide +kernel
theorem dX3_lone_4 : decode cX3_lone 4 = .ok (.ifCond .ne 6, 3) := by decide +kernel
theorem dX3_lone_7 : decode cX3_lone 7 = .ok (.bipush (-2), 2) := by decide +kernel
theorem dX3_lone_9 : decode cX3_lone 9 = .ok (.ireturn, 1) := by decide +kernel
theorem dX3_lone_10 : decode cX3_lone 10 = .ok (.aload_n 0, 1) := by decide +kernel
theorem dX3_lone_11 : decode cX3_lone 11 = .ok (.invokevirtual 130, 3) := by decide +kernel
theorem dX3_lone_14 : decode cX3_lone 14 = .ok (.iconst 0, 1) := by decide +kernel
theorem dX3_lone_15 : decode cX3_lone 15 = .ok (.istore_n 2, 1) := by decide +kernel
theorem dX3_lone_16 : decode cX3_lone 16 = .ok (.iload_n 2, 1) := by decide +kernel
theorem dX3_lone_17 : decode cX3_lone 17 = .ok (.aload_n 0, 1) := by decide +kernel
theorem dX3_lone_18 : decode cX3_lone 18 = .ok (.getfield 10, 3) := by decide +kernel
theorem dX3_lone_21 : decode cX3_lone 21 = .ok (.invokevirtual 133, 3) := by decide +kernel
theorem dX3_lone_24 : decode cX3_lone 24 = .ok (.if_icmp .ge 36, 3) := by decide +kernel
theorem dX3_lone_27 : decode cX3_lone 27 = .ok (.aload_n 0, 1) := by decide +kernel
theorem dX3_lone_28 : decode cX3_lone 28 = .ok (.iload_n 2, 1) := by decide +kernel
theorem dX3_lone_29 : decode cX3_lone 29 = .ok (.invokevirtual 136, 3) := by decide +kernel
theorem dX3_lone_32 : decode cX3_lone 32 = .ok (.ifCond .eq 22, 3) := by decide +kernel
theorem dX3_lone_35 : decode cX3_lone 35 = .ok (.aload_n 0, 1) := by decide +kernel
theorem dX3_lone_36 : decode cX3_lone 36 = .ok (.getfield 34, 3) := by decide +kernel
theorem dX3_lone_39 : decode cX3_lone 39 = .ok (.aload_n 0, 1) := by decide +kernel
theorem dX3_lone_40 : decode cX3_lone 40 = .ok (.getfield 21, 3) := by decide +kernel
theorem dX3_lone_43 : decode cX3_lone 43 = .ok (.iload_n 1, 1) := by decide +kernel
theorem dX3_lone_44 : decode cX3_lone 44 = .ok (.aload_n 0, 1) := by decide +kernel
theorem dX3_lone_45 : decode cX3_lone 45 = .ok (.getfield 38, 3) := by decide +kernel
theorem dX3_lone_48 : decode cX3_lone 48 = .ok (.iload_n 2, 1) := by decide +kernel
theorem dX3_lone_49 : decode cX3_lone 49 = .ok (.invokevirtual 98, 3) := by decide +kernel
theorem dX3_lone_52 : decode cX3_lone 52 = .ok (.iload_n 2, 1) := by decide +kernel
theorem dX3_lone_53 : decode cX3_lone 53 = .ok (.iastore, 1) := by decide +kernel
theorem dX3_lone_54 : decode cX3_lone 54 = .ok (.iinc 2 1, 3) := by decide +kernel
theorem dX3_lone_57 : decode cX3_lone 57 = .ok (.goto (-41), 3) := by decide +kernel
theorem dX3_lone_60 : decode cX3_lone 60 = .ok (.iconst 0, 1) := by decide +kernel
theorem dX3_lone_61 : decode cX3_lone 61 = .ok (.istore_n 2, 1) := by decide +kernel
theorem dX3_lone_62 : decode cX3_lone 62 = .ok (.iconst 0, 1) := by decide +kernel
theorem dX3_lone_63 : decode cX3_lone 63 = .ok (.istore_n 3, 1) := by decide +kernel
theorem dX3_lone_64 : decode cX3_lone 64 = .ok (.iload_n 3, 1) := by decide +kernel
theorem dX3_lone_65 : decode cX3_lone 65 = .ok (.aload_n 0, 1) := by decide +kernel
theorem dX3_lone_66 : decode cX3_lone 66 = .ok (.getfield 10, 3) := by decide +kernel
theorem dX3_lone_69 : decode cX3_lone 69 = .ok (.invokevirtual 133, 3) := by decide +kernel
theorem dX3_lone_72 : decode cX3_lone 72 = .ok (.if_icmp .ge 30, 3) := by decide +kernel
theorem dX3_lone_75 : decode cX3_lone 75 = .ok (.aload_n 0, 1) := by decide +kernel
theorem dX3_lone_76 : decode cX3_lone 76 = .ok (.iload_n 3, 1) := by decide +kernel
theorem dX3_lone_77 : decode cX3_lone 77 = .ok (.invokevirtual 136, 3) := by decide +kernel
theorem dX3_lone_80 : decode cX3_lone 80 = .ok (.ifCond .eq 16, 3) := by decide +kernel
theorem dX3_lone_83 : decode cX3_lone 83 = .ok (.aload_n 0, 1) := by decide +kernel
theorem dX3_lone_84 : decode cX3_lone 84 = .ok (.getfield 34, 3) := by decide +kernel
theorem dX3_lone_87 : decode cX3_lone 87 = .ok (.iload_n 3, 1) := by decide +kernel
theorem dX3_lone_88 : decode cX3_lone 88 = .ok (.iaload, 1) := by decide +kernel
theorem dX3_lone_89 : decode cX3_lone 89 = .ok (.iconst (-1), 1) := by decide +kernel
theorem dX3_lone_90 : decode cX3_lone 90 = .ok (.if_icmp .ne 6, 3) := by decide +kernel
theorem dX3_lone_93 : decode cX3_lone 93 = .ok (.iinc 2 1, 3) := by decide +kernel
theorem dX3_lone_96 : decode cX3_lone 96 = .ok (.iinc 3 1, 3) := by decide +kernel
theorem dX3_lone_99 : decode cX3_lone 99 = .ok (.goto (-35), 3) := by decide +kernel
theorem dX3_lone_102 : decode cX3_lone 102 = .ok (.iload_n 2, 1) := by decide +kernel
theorem dX3_lone_103 : decode cX3_lone 103 = .ok (.ireturn, 1) := by decide +kernel
theorem dX3_before_0 : decode cX3_before 0 = .ok (.iload_n 1, 1) := by decide +kernel
theorem dX3_before_1 : decode cX3_before 1 = .ok (.invokestatic 95, 3) := by decide +kernel
theorem dX3_before_4 : decode cX3_before 4 = .ok (.ifCond .ne 6, 3) := by decide +kernel
theorem dX3_before_7 : decode cX3_before 7 = .ok (.bipush (-2), 2) := by decide +kernel
theorem dX3_before_9 : decode cX3_before 9 = .ok (.ireturn, 1) := by decide +kernel
theorem dX3_before_10 : decode cX3_before 10 = .ok (.iconst 0, 1) := by decide +kernel
theorem dX3_before_11 : decode cX3_before 11 = .ok (.istore_n 3, 1) := by decide +kernel
theorem dX3_before_12 : decode cX3_before 12 = .ok (.iconst 0, 1) := by decide +kernel
theorem dX3_before_13 : decode cX3_before 13 = .ok (.istore 4, 2) := by decide +kernel
theorem dX3_before_15 : decode cX3_before 15 = .ok (.iload 4, 2) := by decide +kernel
theorem dX3_before_17 : decode cX3_before 17 = .ok (.aload_n 0, 1) := by decide +kernel
theorem dX3_before_18 : decode cX3_before 18 = .ok (.getfield 10, 3) := by decide +kernel
theorem dX3_before_21 : decode cX3_before 21 = .ok (.invokevirtual 133, 3) := by decide +kernel
theorem dX3_before_24 : decode cX3_before 24 = .ok (.if_icmp .ge 50, 3) := by decide +kernel
theorem dX3_before_27 : decode cX3_before 27 = .ok (.aload_n 0, 1) := by decide +kernel
theorem dX3_before_28 : decode cX3_before 28 = .ok (.iload 4, 2) := by decide +kernel
theorem dX3_before_30 : decode cX3_before 30 = .ok (.invokevirtual 136, 3) := by decide +kernel
theorem dX3_before_33 : decode cX3_before 33 = .ok (.ifCond .eq 35, 3) := by decide +kernel
theorem dX3_before_36 : decode cX3_before 36 = .ok (.aload_n 0, 1) := by decide +kernel
theorem dX3_before_37 : decode cX3_before 37 = .ok (.getfield 21, 3) := by decide +kernel
theorem dX3_before_40 : decode cX3_before 40 = .ok (.iload_n 1, 1) := by decide +kernel
theorem dX3_before_41 : decode cX3_before 41 = .ok (.aload_n 0, 1) := by decide +kernel
theorem dX3_before_42 : decode cX3_before 42 = .ok (.getfield 38, 3) := by decide +kernel
theorem dX3_before_45 : decode cX3_before 45 = .ok (.iload 4, 2) := by decide +kernel
theorem dX3_before_47 : decode cX3_before 47 = .ok (.invokevirtual 98, 3) := by decide +kernel
theorem dX3_before_50 : decode cX3_before 50 = .ok (.aload_n 0, 1) := by decide +kernel
theorem dX3_before_51 : decode cX3_before 51 = .ok (.getfield 42, 3) := by decide +kernel
theorem dX3_before_54 : decode cX3_before 54 = .ok (.if_icmp .ne 14, 3) := by decide +kernel
theorem dX3_before_57 : decode cX3_before 57 = .ok (.iload_n 3, 1) := by decide +kernel
theorem dX3_before_58 : decode cX3_before 58 = .ok (.iload_n 2, 1) := by decide +kernel
theorem dX3_before_59 : decode cX3_before 59 = .ok (.if_icmp .ne 6, 3) := by decide +kernel
theorem dX3_before_62 : decode cX3_before 62 = .ok (.iload 4, 2) := by decide +kernel
theorem dX3_before_64 : decode cX3_before 64 = .ok (.ireturn, 1) := by decide +kernel
theorem dX3_before_65 : decode cX3_before 65 = .ok (.iinc 3 1, 3) := by decide +kernel
theorem dX3_before_68 : decode cX3_before 68 = .ok (.iinc 4 1, 3) := by decide +kernel
theorem dX3_before_71 : decode cX3_before 71 = .ok (.goto (-56), 3) := by decide +kernel
theorem dX3_before_74 : decode cX3_before 74 = .ok (.iload_n 2, 1) := by decide +kernel
theorem dX3_before_75 : decode cX3_before 75 = .ok (.iconst (-1), 1) := by decide +kernel
theorem dX3_before_76 : decode cX3_before 76 = .ok (.if_icmp .ne 7, 3) := by decide +kernel
theorem dX3_before_79 : decode cX3_before 79 = .ok (.iload_n 3, 1) := by decide +kernel
theorem dX3_before_80 : decode cX3_before 80 = .ok (.goto 5, 3) := by decide +kernel
theorem dX3_before_83 : decode cX3_before 83 = .ok (.bipush (-6), 2) := by decide +kernel
theorem dX3_before_85 : decode cX3_before 85 = .ok (.ireturn, 1) := by decide +kernel
theorem dX3_rise_0 : decode cX3_rise 0 = .ok (.aload_n 0, 1) := by decide +kernel
theorem dX3_rise_1 : decode cX3_rise 1 = .ok (.getfield 10, 3) := by decide +kernel
theorem dX3_rise_4 : decode cX3_rise 4 = .ok (.aload_n 0, 1) := by decide +kernel
theorem dX3_rise_5 : decode cX3_rise 5 = .ok (.getfield 42, 3) := by decide +kernel
theorem dX3_rise_8 : decode cX3_rise 8 = .ok (.invokevirtual 139, 3) := by decide +kernel
theorem dX3_rise_11 : decode cX3_rise 11 = .ok (.ireturn, 1) := by decide +kernel
theorem dX3_highest_0 : decode cX3_highest 0 = .ok (.aload_n 0, 1) := by decide +kernel
theorem dX3_highest_1 : decode cX3_highest 1 = .ok (.getfield 42, 3) := by decide +kernel
theorem dX3_highest_4 : decode cX3_highest 4 = .ok (.istore_n 1, 1) := by decide +kernel
theorem dX3_highest_5 : decode cX3_highest 5 = .ok (.aload_n 0, 1) := by decide +kernel
theorem dX3_highest_6 : decode cX3_highest 6 = .ok (.getfield 10, 3) := by decide +kernel
theorem dX3_highest_9 : decode cX3_highest 9 = .ok (.aload_n 0, 1) := by decide +kernel
theorem dX3_highest_10 : decode cX3_highest 10 = .ok (.getfield 42, 3) := by decide +kernel
theorem dX3_highest_13 : decode cX3_highest 13 = .ok (.invokevirtual 139, 3) := by decide +kernel
theorem dX3_highest_16 : decode cX3_highest 16 = .ok (.istore_n 2, 1) := by decide +kernel
theorem dX3_highest_17 : decode cX3_highest 17 = .ok (.iconst 0, 1) := by decide +kernel
theorem dX3_highest_18 : decode cX3_highest 18 = .ok (.istore_n 3, 1) := by decide +kernel
theorem dX3_highest_19 : decode cX3_highest 19 = .ok (.iload_n 3, 1) := by decide +kernel
theorem dX3_highest_20 : decode cX3_highest 20 = .ok (.aload_n 0, 1) := by decide +kernel
theorem dX3_highest_21 : decode cX3_highest 21 = .ok (.getfield 10, 3) := by decide +kernel
theorem dX3_highest_24 : decode cX3_highest 24 = .ok (.invokevirtual 133, 3) := by decide +kernel
theorem dX3_highest_27 : decode cX3_highest 27 = .ok (.if_icmp .ge 49, 3) := by decide +kernel
theorem dX3_highest_30 : decode cX3_highest 30 = .ok (.aload_n 0, 1) := by decide +kernel
theorem dX3_highest_31 : decode cX3_highest 31 = .ok (.iload_n 3, 1) := by decide +kernel
theorem dX3_highest_32 : decode cX3_highest 32 = .ok (.invokevirtual 136, 3) := by decide +kernel
theorem dX3_highest_35 : decode cX3_highest 35 = .ok (.ifCond .eq 35, 3) := by decide +kernel
theorem dX3_highest_38 : decode cX3_highest 38 = .ok (.aload_n 0, 1) := by decide +kernel
theorem dX3_highest_39 : decode cX3_highest 39 = .ok (.getfield 10, 3) := by decide +kernel
theorem dX3_highest_42 : decode cX3_highest 42 = .ok (.iload_n 3, 1) := by decide +kernel
theorem dX3_highest_43 : decode cX3_highest 43 = .ok (.invokevirtual 139, 3) := by decide +kernel
theorem dX3_highest_46 : decode cX3_highest 46 = .ok (.istore 4, 2) := by decide +kernel
theorem dX3_highest_48 : decode cX3_highest 48 = .ok (.iload 4, 2) := by decide +kernel
theorem dX3_highest_50 : decode cX3_highest 50 = .ok (.iload_n 2, 1) := by decide +kernel
theorem dX3_highest_51 : decode cX3_highest 51 = .ok (.if_icmp .gt 14, 3) := by decide +kernel
theorem dX3_highest_54 : decode cX3_highest 54 = .ok (.iload 4, 2) := by decide +kernel
theorem dX3_highest_56 : decode cX3_highest 56 = .ok (.iload_n 2, 1) := by decide +kernel
theorem dX3_highest_57 : decode cX3_highest 57 = .ok (.if_icmp .ne 13, 3) := by decide +kernel
theorem dX3_highest_60 : decode cX3_highest 60 = .ok (.iload_n 3, 1) := by decide +kernel
theorem dX3_highest_61 : decode cX3_highest 61 = .ok (.iload_n 1, 1) := by decide +kernel
theorem dX3_highest_62 : decode cX3_highest 62 = .ok (.if_icmp .ge 8, 3) := by decide +kernel
theorem dX3_highest_65 : decode cX3_highest 65 = .ok (.iload_n 3, 1) := by decide +kernel
theorem dX3_highest_66 : decode cX3_highest 66 = .ok (.istore_n 1, 1) := by decide +kernel
theorem dX3_highest_67 : decode cX3_highest 67 = .ok (.iload 4, 2) := by decide +kernel
theorem dX3_highest_69 : decode cX3_highest 69 = .ok (.istore_n 2, 1) := by decide +kernel
theorem dX3_highest_70 : decode cX3_highest 70 = .ok (.iinc 3 1, 3) := by decide +kernel
theorem dX3_highest_73 : decode cX3_highest 73 = .ok (.goto (-54), 3) := by decide +kernel
theorem dX3_highest_76 : decode cX3_highest 76 = .ok (.iload_n 1, 1) := by decide +kernel
theorem dX3_highest_77 : decode cX3_highest 77 = .ok (.ireturn, 1) := by decide +kernel
theorem dX3_rests_0 : decode cX3_rests 0 = .ok (.aload_n 0, 1) := by decide +kernel
theorem dX3_rests_1 : decode cX3_rests 1 = .ok (.aload_n 0, 1) := by decide +kernel
theorem dX3_rests_2 : decode cX3_rests 2 = .ok (.getfield 42, 3) := by decide +kernel
theorem dX3_rests_5 : decode cX3_rests 5 = .ok (.invokevirtual 142, 3) := by decide +kernel
theorem dX3_rests_8 : decode cX3_rests 8 = .ok (.ifCond .eq 7, 3) := by decide +kernel
theorem dX3_rests_11 : decode cX3_rests 11 = .ok (.iconst 1, 1) := by decide +kernel
theorem dX3_rests_12 : decode cX3_rests 12 = .ok (.goto 4, 3) := by decide +kernel
theorem dX3_rests_15 : decode cX3_rests 15 = .ok (.iconst 0, 1) := by decide +kernel
theorem dX3_rests_16 : decode cX3_rests 16 = .ok (.ireturn, 1) := by decide +kernel
theorem dX3_restMany_0 : decode cX3_restMany 0 = .ok (.iconst 0, 1) := by decide +kernel
theorem dX3_restMany_1 : decode cX3_restMany 1 = .ok (.istore_n 1, 1) := by decide +kernel
theorem dX3_restMany_2 : decode cX3_restMany 2 = .ok (.iconst 0, 1) := by decide +kernel
theorem dX3_restMany_3 : decode cX3_restMany 3 = .ok (.istore_n 2, 1) := by decide +kernel
theorem dX3_restMany_4 : decode cX3_restMany 4 = .ok (.iload_n 2, 1) := by decide +kernel
theorem dX3_restMany_5 : decode cX3_restMany 5 = .ok (.aload_n 0, 1) := by decide +kernel
theorem dX3_restMany_6 : decode cX3_restMany 6 = .ok (.getfield 10, 3) := by decide +kernel
theorem dX3_restMany_9 : decode cX3_restMany 9 = .ok (.invokevirtual 133, 3) := by decide +kernel
theorem dX3_restMany_12 : decode cX3_restMany 12 = .ok (.if_icmp .ge 28, 3) := by decide +kernel
theorem dX3_restMany_15 : decode cX3_restMany 15 = .ok (.aload_n 0, 1) := by decide +kernel
theorem dX3_restMany_16 : decode cX3_restMany 16 = .ok (.iload_n 2, 1) := by decide +kernel
theorem dX3_restMany_17 : decode cX3_restMany 17 = .ok (.invokevirtual 136, 3) := by decide +kernel
theorem dX3_restMany_20 : decode cX3_restMany 20 = .ok (.ifCond .eq 14, 3) := by decide +kernel
theorem dX3_restMany_23 : decode cX3_restMany 23 = .ok (.aload_n 0, 1) := by decide +kernel
theorem dX3_restMany_24 : decode cX3_restMany 24 = .ok (.iload_n 2, 1) := by decide +kernel
theorem dX3_restMany_25 : decode cX3_restMany 25 = .ok (.invokevirtual 142, 3) := by decide +kernel
theorem dX3_restMany_28 : decode cX3_restMany 28 = .ok (.ifCond .eq 6, 3) := by decide +kernel
theorem dX3_restMany_31 : decode cX3_restMany 31 = .ok (.iinc 1 1, 3) := by decide +kernel
theorem dX3_restMany_34 : decode cX3_restMany 34 = .ok (.iinc 2 1, 3) := by decide +kernel
theorem dX3_restMany_37 : decode cX3_restMany 37 = .ok (.goto (-33), 3) := by decide +kernel
theorem dX3_restMany_40 : decode cX3_restMany 40 = .ok (.iload_n 1, 1) := by decide +kernel
theorem dX3_restMany_41 : decode cX3_restMany 41 = .ok (.ireturn, 1) := by decide +kernel
theorem dX3_tip_0 : decode cX3_tip 0 = .ok (.iload_n 1, 1) := by decide +kernel
theorem dX3_tip_1 : decode cX3_tip 1 = .ok (.invokestatic 95, 3) := by decide +kernel
theorem dX3_tip_4 : decode cX3_tip 4 = .ok (.ifCond .ne 6, 3) := by decide +kernel
theorem dX3_tip_7 : decode cX3_tip 7 = .ok (.bipush (-2), 2) := by decide +kernel
theorem dX3_tip_9 : decode cX3_tip 9 = .ok (.ireturn, 1) := by decide +kernel
theorem dX3_tip_10 : decode cX3_tip 10 = .ok (.aload_n 0, 1) := by decide +kernel
theorem dX3_tip_11 : decode cX3_tip 11 = .ok (.invokevirtual 130, 3) := by decide +kernel
theorem dX3_tip_14 : decode cX3_tip 14 = .ok (.iconst 0, 1) := by decide +kernel
theorem dX3_tip_15 : decode cX3_tip 15 = .ok (.istore_n 2, 1) := by decide +kernel
theorem dX3_tip_16 : decode cX3_tip 16 = .ok (.iload_n 2, 1) := by decide +kernel
theorem dX3_tip_17 : decode cX3_tip 17 = .ok (.aload_n 0, 1) := by decide +kernel
theorem dX3_tip_18 : decode cX3_tip 18 = .ok (.getfield 10, 3) := by decide +kernel
theorem dX3_tip_21 : decode cX3_tip 21 = .ok (.getfield 45, 3) := by decide +kernel
theorem dX3_tip_24 : decode cX3_tip 24 = .ok (.if_icmp .gt 47, 3) := by decide +kernel
theorem dX3_tip_27 : decode cX3_tip 27 = .ok (.iconst 0, 1) := by decide +kernel
theorem dX3_tip_28 : decode cX3_tip 28 = .ok (.istore_n 3, 1) := by decide +kernel
theorem dX3_tip_29 : decode cX3_tip 29 = .ok (.iload_n 3, 1) := by decide +kernel
theorem dX3_tip_30 : decode cX3_tip 30 = .ok (.aload_n 0, 1) := by decide +kernel
theorem dX3_tip_31 : decode cX3_tip 31 = .ok (.getfield 10, 3) := by decide +kernel
theorem dX3_tip_34 : decode cX3_tip 34 = .ok (.invokevirtual 133, 3) := by decide +kernel
theorem dX3_tip_37 : decode cX3_tip 37 = .ok (.if_icmp .ge 28, 3) := by decide +kernel
theorem dX3_tip_40 : decode cX3_tip 40 = .ok (.iload_n 3, 1) := by decide +kernel
theorem dX3_tip_41 : decode cX3_tip 41 = .ok (.invokestatic 145, 3) := by decide +kernel
theorem dX3_tip_44 : decode cX3_tip 44 = .ok (.iload_n 2, 1) := by decide +kernel
theorem dX3_tip_45 : decode cX3_tip 45 = .ok (.if_icmp .ne 14, 3) := by decide +kernel
theorem dX3_tip_48 : decode cX3_tip 48 = .ok (.aload_n 0, 1) := by decide +kernel
theorem dX3_tip_49 : decode cX3_tip 49 = .ok (.iload_n 1, 1) := by decide +kernel
theorem dX3_tip_50 : decode cX3_tip 50 = .ok (.iload_n 3, 1) := by decide +kernel
theorem dX3_tip_51 : decode cX3_tip 51 = .ok (.invokevirtual 150, 3) := by decide +kernel
theorem dX3_tip_54 : decode cX3_tip 54 = .ok (.ifCond .eq 5, 3) := by decide +kernel
theorem dX3_tip_57 : decode cX3_tip 57 = .ok (.iload_n 3, 1) := by decide +kernel
theorem dX3_tip_58 : decode cX3_tip 58 = .ok (.ireturn, 1) := by decide +kernel
theorem dX3_tip_59 : decode cX3_tip 59 = .ok (.iinc 3 1, 3) := by decide +kernel
theorem dX3_tip_62 : decode cX3_tip 62 = .ok (.goto (-33), 3) := by decide +kernel
theorem dX3_tip_65 : decode cX3_tip 65 = .ok (.iinc 2 1, 3) := by decide +kernel
theorem dX3_tip_68 : decode cX3_tip 68 = .ok (.goto (-52), 3) := by decide +kernel
theorem dX3_tip_71 : decode cX3_tip 71 = .ok (.bipush (-6), 2) := by decide +kernel
theorem dX3_tip_73 : decode cX3_tip 73 = .ok (.ireturn, 1) := by decide +kernel
theorem dX3_share_0 : decode cX3_share 0 = .ok (.iload_n 1, 1) := by decide +kernel
theorem dX3_share_1 : decode cX3_share 1 = .ok (.ifCond .eq 11, 3) := by decide +kernel
theorem dX3_share_4 : decode cX3_share 4 = .ok (.iload_n 1, 1) := by decide +kernel
theorem dX3_share_5 : decode cX3_share 5 = .ok (.iconst 1, 1) := by decide +kernel
theorem dX3_share_6 : decode cX3_share 6 = .ok (.if_icmp .eq 6, 3) := by decide +kernel
theorem dX3_share_9 : decode cX3_share 9 = .ok (.bipush (-2), 2) := by decide +kernel
theorem dX3_share_11 : decode cX3_share 11 = .ok (.ireturn, 1) := by decide +kernel
theorem dX3_share_12 : decode cX3_share 12 = .ok (.aload_n 0, 1) := by decide +kernel
theorem dX3_share_13 : decode cX3_share 13 = .ok (.getfield 10, 3) := by decide +kernel
theorem dX3_share_16 : decode cX3_share 16 = .ok (.invokevirtual 153, 3) := by decide +kernel
theorem dX3_share_19 : decode cX3_share 19 = .ok (.istore_n 2, 1) := by decide +kernel
theorem dX3_share_20 : decode cX3_share 20 = .ok (.iload_n 2, 1) := by decide +kernel
theorem dX3_share_21 : decode cX3_share 21 = .ok (.aload_n 0, 1) := by decide +kernel
theorem dX3_share_22 : decode cX3_share 22 = .ok (.getfield 10, 3) := by decide +kernel
theorem dX3_share_25 : decode cX3_share 25 = .ok (.invokevirtual 156, 3) := by decide +kernel
theorem dX3_share_28 : decode cX3_share 28 = .ok (.iadd, 1) := by decide +kernel
theorem dX3_share_29 : decode cX3_share 29 = .ok (.istore_n 3, 1) := by decide +kernel
theorem dX3_share_30 : decode cX3_share 30 = .ok (.iload_n 3, 1) := by decide +kernel
theorem dX3_share_31 : decode cX3_share 31 = .ok (.ifCond .le 12, 3) := by decide +kernel
theorem dX3_share_34 : decode cX3_share 34 = .ok (.iload_n 2, 1) := by decide +kernel
theorem dX3_share_35 : decode cX3_share 35 = .ok (.ifCond .lt 8, 3) := by decide +kernel
theorem dX3_share_38 : decode cX3_share 38 = .ok (.iload_n 2, 1) := by decide +kernel
theorem dX3_share_39 : decode cX3_share 39 = .ok (.iload_n 3, 1) := by decide +kernel
theorem dX3_share_40 : decode cX3_share 40 = .ok (.if_icmp .le 6, 3) := by decide +kernel
theorem dX3_share_43 : decode cX3_share 43 = .ok (.bipush (-3), 2) := by decide +kernel
theorem dX3_share_45 : decode cX3_share 45 = .ok (.ireturn, 1) := by decide +kernel
theorem dX3_share_46 : decode cX3_share 46 = .ok (.iload_n 3, 1) := by decide +kernel
theorem dX3_share_47 : decode cX3_share 47 = .ok (.iload_n 2, 1) := by decide +kernel
theorem dX3_share_48 : decode cX3_share 48 = .ok (.invokestatic 159, 3) := by decide +kernel
theorem dX3_share_51 : decode cX3_share 51 = .ok (.istore 4, 2) := by decide +kernel
theorem dX3_share_53 : decode cX3_share 53 = .ok (.iload 4, 2) := by decide +kernel
theorem dX3_share_55 : decode cX3_share 55 = .ok (.iconst 1, 1) := by decide +kernel
theorem dX3_share_56 : decode cX3_share 56 = .ok (.if_icmp .ge 8, 3) := by decide +kernel
theorem dX3_share_59 : decode cX3_share 59 = .ok (.bipush (-3), 2) := by decide +kernel
theorem dX3_share_61 : decode cX3_share 61 = .ok (.goto 15, 3) := by decide +kernel
theorem dX3_share_64 : decode cX3_share 64 = .ok (.iload_n 1, 1) := by decide +kernel
theorem dX3_share_65 : decode cX3_share 65 = .ok (.ifCond .ne 7, 3) := by decide +kernel
theorem dX3_share_68 : decode cX3_share 68 = .ok (.iload_n 2, 1) := by decide +kernel
theorem dX3_share_69 : decode cX3_share 69 = .ok (.goto 4, 3) := by decide +kernel
theorem dX3_share_72 : decode cX3_share 72 = .ok (.iload_n 3, 1) := by decide +kernel
theorem dX3_share_73 : decode cX3_share 73 = .ok (.iload 4, 2) := by decide +kernel
theorem dX3_share_75 : decode cX3_share 75 = .ok (.idiv, 1) := by decide +kernel
theorem dX3_share_76 : decode cX3_share 76 = .ok (.ireturn, 1) := by decide +kernel
theorem dX3_hangs_0 : decode cX3_hangs 0 = .ok (.aload_n 0, 1) := by decide +kernel
theorem dX3_hangs_1 : decode cX3_hangs 1 = .ok (.getfield 10, 3) := by decide +kernel
theorem dX3_hangs_4 : decode cX3_hangs 4 = .ok (.iload_n 1, 1) := by decide +kernel
theorem dX3_hangs_5 : decode cX3_hangs 5 = .ok (.invokevirtual 87, 3) := by decide +kernel
theorem dX3_hangs_8 : decode cX3_hangs 8 = .ok (.ifCond .eq 14, 3) := by decide +kernel
theorem dX3_hangs_11 : decode cX3_hangs 11 = .ok (.iload_n 2, 1) := by decide +kernel
theorem dX3_hangs_12 : decode cX3_hangs 12 = .ok (.iconst 1, 1) := by decide +kernel
theorem dX3_hangs_13 : decode cX3_hangs 13 = .ok (.if_icmp .lt 9, 3) := by decide +kernel
theorem dX3_hangs_16 : decode cX3_hangs 16 = .ok (.iload_n 2, 1) := by decide +kernel
theorem dX3_hangs_17 : decode cX3_hangs 17 = .ok (.bipush 100, 2) := by decide +kernel
theorem dX3_hangs_19 : decode cX3_hangs 19 = .ok (.if_icmp .le 6, 3) := by decide +kernel
theorem dX3_hangs_22 : decode cX3_hangs 22 = .ok (.bipush (-2), 2) := by decide +kernel
theorem dX3_hangs_24 : decode cX3_hangs 24 = .ok (.ireturn, 1) := by decide +kernel
theorem dX3_hangs_25 : decode cX3_hangs 25 = .ok (.iconst 0, 1) := by decide +kernel
theorem dX3_hangs_26 : decode cX3_hangs 26 = .ok (.istore_n 3, 1) := by decide +kernel
theorem dX3_hangs_27 : decode cX3_hangs 27 = .ok (.iload_n 3, 1) := by decide +kernel
theorem dX3_hangs_28 : decode cX3_hangs 28 = .ok (.aload_n 0, 1) := by decide +kernel
theorem dX3_hangs_29 : decode cX3_hangs 29 = .ok (.getfield 10, 3) := by decide +kernel
theorem dX3_hangs_32 : decode cX3_hangs 32 = .ok (.getfield 45, 3) := by decide +kernel
theorem dX3_hangs_35 : decode cX3_hangs 35 = .ok (.if_icmp .ge 33, 3) := by decide +kernel
theorem dX3_hangs_38 : decode cX3_hangs 38 = .ok (.iload_n 3, 1) := by decide +kernel
theorem dX3_hangs_39 : decode cX3_hangs 39 = .ok (.iload_n 1, 1) := by decide +kernel
theorem dX3_hangs_40 : decode cX3_hangs 40 = .ok (.invokestatic 84, 3) := by decide +kernel
theorem dX3_hangs_43 : decode cX3_hangs 43 = .ok (.iconst 1, 1) := by decide +kernel
theorem dX3_hangs_44 : decode cX3_hangs 44 = .ok (.if_icmp .ne 18, 3) := by decide +kernel
theorem dX3_hangs_47 : decode cX3_hangs 47 = .ok (.aload_n 0, 1) := by decide +kernel
theorem dX3_hangs_48 : decode cX3_hangs 48 = .ok (.getfield 10, 3) := by decide +kernel
theorem dX3_hangs_51 : decode cX3_hangs 51 = .ok (.iload_n 3, 1) := by decide +kernel
theorem dX3_hangs_52 : decode cX3_hangs 52 = .ok (.iload_n 1, 1) := by decide +kernel
theorem dX3_hangs_53 : decode cX3_hangs 53 = .ok (.iload_n 2, 1) := by decide +kernel
theorem dX3_hangs_54 : decode cX3_hangs 54 = .ok (.invokevirtual 162, 3) := by decide +kernel
theorem dX3_hangs_57 : decode cX3_hangs 57 = .ok (.ifCond .ne 5, 3) := by decide +kernel
theorem dX3_hangs_60 : decode cX3_hangs 60 = .ok (.iconst 0, 1) := by decide +kernel
theorem dX3_hangs_61 : decode cX3_hangs 61 = .ok (.ireturn, 1) := by decide +kernel
theorem dX3_hangs_62 : decode cX3_hangs 62 = .ok (.iinc 3 1, 3) := by decide +kernel
theorem dX3_hangs_65 : decode cX3_hangs 65 = .ok (.goto (-38), 3) := by decide +kernel
theorem dX3_hangs_68 : decode cX3_hangs 68 = .ok (.iconst 1, 1) := by decide +kernel
theorem dX3_hangs_69 : decode cX3_hangs 69 = .ok (.ireturn, 1) := by decide +kernel
theorem dX3_told_0 : decode cX3_told 0 = .ok (.iload_n 1, 1) := by decide +kernel
theorem dX3_told_1 : decode cX3_told 1 = .ok (.tableswitch 69 0 4 #[35, 43, 51, 56, 61], 35) := by decide +kernel
theorem dX3_told_36 : decode cX3_told 36 = .ok (.aload_n 0, 1) := by decide +kernel
theorem dX3_told_37 : decode cX3_told 37 = .ok (.getfield 10, 3) := by decide +kernel
theorem dX3_told_40 : decode cX3_told 40 = .ok (.getfield 45, 3) := by decide +kernel
theorem dX3_told_43 : decode cX3_told 43 = .ok (.ireturn, 1) := by decide +kernel
theorem dX3_told_44 : decode cX3_told 44 = .ok (.aload_n 0, 1) := by decide +kernel
theorem dX3_told_45 : decode cX3_told 45 = .ok (.getfield 10, 3) := by decide +kernel
theorem dX3_told_48 : decode cX3_told 48 = .ok (.invokevirtual 166, 3) := by decide +kernel
theorem dX3_told_51 : decode cX3_told 51 = .ok (.ireturn, 1) := by decide +kernel
theorem dX3_told_52 : decode cX3_told 52 = .ok (.aload_n 0, 1) := by decide +kernel
theorem dX3_told_53 : decode cX3_told 53 = .ok (.getfield 38, 3) := by decide +kernel
theorem dX3_told_56 : decode cX3_told 56 = .ok (.ireturn, 1) := by decide +kernel
theorem dX3_told_57 : decode cX3_told 57 = .ok (.aload_n 0, 1) := by decide +kernel
theorem dX3_told_58 : decode cX3_told 58 = .ok (.getfield 42, 3) := by decide +kernel
theorem dX3_told_61 : decode cX3_told 61 = .ok (.ireturn, 1) := by decide +kernel
theorem dX3_told_62 : decode cX3_told 62 = .ok (.aload_n 0, 1) := by decide +kernel
theorem dX3_told_63 : decode cX3_told 63 = .ok (.getfield 10, 3) := by decide +kernel
theorem dX3_told_66 : decode cX3_told 66 = .ok (.getfield 78, 3) := by decide +kernel
theorem dX3_told_69 : decode cX3_told 69 = .ok (.ireturn, 1) := by decide +kernel
theorem dX3_told_70 : decode cX3_told 70 = .ok (.aload_n 0, 1) := by decide +kernel
theorem dX3_told_71 : decode cX3_told 71 = .ok (.iload_n 1, 1) := by decide +kernel
theorem dX3_told_72 : decode cX3_told 72 = .ok (.invokevirtual 169, 3) := by decide +kernel
theorem dX3_told_75 : decode cX3_told 75 = .ok (.ireturn, 1) := by decide +kernel
theorem dX3_toldPay_0 : decode cX3_toldPay 0 = .ok (.iload_n 1, 1) := by decide +kernel
theorem dX3_toldPay_1 : decode cX3_toldPay 1 = .ok (.bipush 10, 2) := by decide +kernel
theorem dX3_toldPay_3 : decode cX3_toldPay 3 = .ok (.if_icmp .lt 9, 3) := by decide +kernel
theorem dX3_toldPay_6 : decode cX3_toldPay 6 = .ok (.iload_n 1, 1) := by decide +kernel
theorem dX3_toldPay_7 : decode cX3_toldPay 7 = .ok (.bipush 13, 2) := by decide +kernel
theorem dX3_toldPay_9 : decode cX3_toldPay 9 = .ok (.if_icmp .le 6, 3) := by decide +kernel
theorem dX3_toldPay_12 : decode cX3_toldPay 12 = .ok (.ldc 71, 2) := by decide +kernel
theorem dX3_toldPay_14 : decode cX3_toldPay 14 = .ok (.ireturn, 1) := by decide +kernel
theorem dX3_toldPay_15 : decode cX3_toldPay 15 = .ok (.iload_n 1, 1) := by decide +kernel
theorem dX3_toldPay_16 : decode cX3_toldPay 16 = .ok (.bipush 10, 2) := by decide +kernel
theorem dX3_toldPay_18 : decode cX3_toldPay 18 = .ok (.isub, 1) := by decide +kernel
theorem dX3_toldPay_19 : decode cX3_toldPay 19 = .ok (.istore_n 2, 1) := by decide +kernel
theorem dX3_toldPay_20 : decode cX3_toldPay 20 = .ok (.aload_n 0, 1) := by decide +kernel
theorem dX3_toldPay_21 : decode cX3_toldPay 21 = .ok (.getfield 10, 3) := by decide +kernel
theorem dX3_toldPay_24 : decode cX3_toldPay 24 = .ok (.iload_n 2, 1) := by decide +kernel
theorem dX3_toldPay_25 : decode cX3_toldPay 25 = .ok (.iconst 1, 1) := by decide +kernel
theorem dX3_toldPay_26 : decode cX3_toldPay 26 = .ok (.ishr, 1) := by decide +kernel
theorem dX3_toldPay_27 : decode cX3_toldPay 27 = .ok (.iload_n 2, 1) := by decide +kernel
theorem dX3_toldPay_28 : decode cX3_toldPay 28 = .ok (.iconst 1, 1) := by decide +kernel
theorem dX3_toldPay_29 : decode cX3_toldPay 29 = .ok (.iand, 1) := by decide +kernel
theorem dX3_toldPay_30 : decode cX3_toldPay 30 = .ok (.invokevirtual 72, 3) := by decide +kernel
theorem dX3_toldPay_33 : decode cX3_toldPay 33 = .ok (.ireturn, 1) := by decide +kernel
theorem dX3_forgetMoves_0 : decode cX3_forgetMoves 0 = .ok (.aload_n 0, 1) := by decide +kernel
theorem dX3_forgetMoves_1 : decode cX3_forgetMoves 1 = .ok (.getfield 21, 3) := by decide +kernel
theorem dX3_forgetMoves_4 : decode cX3_forgetMoves 4 = .ok (.invokevirtual 172, 3) := by decide +kernel
theorem dX3_forgetMoves_7 : decode cX3_forgetMoves 7 = .ok (.aload_n 0, 1) := by decide +kernel
theorem dX3_forgetMoves_8 : decode cX3_forgetMoves 8 = .ok (.getfield 30, 3) := by decide +kernel
theorem dX3_forgetMoves_11 : decode cX3_forgetMoves 11 = .ok (.invokevirtual 175, 3) := by decide +kernel
theorem dX3_forgetMoves_14 : decode cX3_forgetMoves 14 = .ok (.return_, 1) := by decide +kernel
theorem dX3_clearMarks_0 : decode cX3_clearMarks 0 = .ok (.iconst 0, 1) := by decide +kernel
theorem dX3_clearMarks_1 : decode cX3_clearMarks 1 = .ok (.istore_n 1, 1) := by decide +kernel
theorem dX3_clearMarks_2 : decode cX3_clearMarks 2 = .ok (.iload_n 1, 1) := by decide +kernel
theorem dX3_clearMarks_3 : decode cX3_clearMarks 3 = .ok (.aload_n 0, 1) := by decide +kernel
theorem dX3_clearMarks_4 : decode cX3_clearMarks 4 = .ok (.getfield 10, 3) := by decide +kernel
theorem dX3_clearMarks_7 : decode cX3_clearMarks 7 = .ok (.invokevirtual 133, 3) := by decide +kernel
theorem dX3_clearMarks_10 : decode cX3_clearMarks 10 = .ok (.if_icmp .ge 16, 3) := by decide +kernel
theorem dX3_clearMarks_13 : decode cX3_clearMarks 13 = .ok (.aload_n 0, 1) := by decide +kernel
theorem dX3_clearMarks_14 : decode cX3_clearMarks 14 = .ok (.getfield 34, 3) := by decide +kernel
theorem dX3_clearMarks_17 : decode cX3_clearMarks 17 = .ok (.iload_n 1, 1) := by decide +kernel
theorem dX3_clearMarks_18 : decode cX3_clearMarks 18 = .ok (.iconst (-1), 1) := by decide +kernel
theorem dX3_clearMarks_19 : decode cX3_clearMarks 19 = .ok (.iastore, 1) := by decide +kernel
theorem dX3_clearMarks_20 : decode cX3_clearMarks 20 = .ok (.iinc 1 1, 3) := by decide +kernel
theorem dX3_clearMarks_23 : decode cX3_clearMarks 23 = .ok (.goto (-21), 3) := by decide +kernel
theorem dX3_clearMarks_26 : decode cX3_clearMarks 26 = .ok (.return_, 1) := by decide +kernel
theorem dX3_isBeginning_0 : decode cX3_isBeginning 0 = .ok (.iload_n 1, 1) := by decide +kernel
theorem dX3_isBeginning_1 : decode cX3_isBeginning 1 = .ok (.aload_n 0, 1) := by decide +kernel
theorem dX3_isBeginning_2 : decode cX3_isBeginning 2 = .ok (.getfield 42, 3) := by decide +kernel
theorem dX3_isBeginning_5 : decode cX3_isBeginning 5 = .ok (.ixor, 1) := by decide +kernel
theorem dX3_isBeginning_6 : decode cX3_isBeginning 6 = .ok (.aload_n 0, 1) := by decide +kernel
theorem dX3_isBeginning_7 : decode cX3_isBeginning 7 = .ok (.getfield 38, 3) := by decide +kernel
theorem dX3_isBeginning_10 : decode cX3_isBeginning 10 = .ok (.iand, 1) := by decide +kernel
theorem dX3_isBeginning_11 : decode cX3_isBeginning 11 = .ok (.ifCond .ne 7, 3) := by decide +kernel
theorem dX3_isBeginning_14 : decode cX3_isBeginning 14 = .ok (.iconst 1, 1) := by decide +kernel
theorem dX3_isBeginning_15 : decode cX3_isBeginning 15 = .ok (.goto 4, 3) := by decide +kernel
theorem dX3_isBeginning_18 : decode cX3_isBeginning 18 = .ok (.iconst 0, 1) := by decide +kernel
theorem dX3_isBeginning_19 : decode cX3_isBeginning 19 = .ok (.ireturn, 1) := by decide +kernel
theorem dX3_isAtRest_0 : decode cX3_isAtRest 0 = .ok (.aload_n 0, 1) := by decide +kernel
theorem dX3_isAtRest_1 : decode cX3_isAtRest 1 = .ok (.getfield 21, 3) := by decide +kernel
theorem dX3_isAtRest_4 : decode cX3_isAtRest 4 = .ok (.iconst 0, 1) := by decide +kernel
theorem dX3_isAtRest_5 : decode cX3_isAtRest 5 = .ok (.aload_n 0, 1) := by decide +kernel
theorem dX3_isAtRest_6 : decode cX3_isAtRest 6 = .ok (.getfield 38, 3) := by decide +kernel
theorem dX3_isAtRest_9 : decode cX3_isAtRest 9 = .ok (.iload_n 1, 1) := by decide +kernel
theorem dX3_isAtRest_10 : decode cX3_isAtRest 10 = .ok (.invokevirtual 98, 3) := by decide +kernel
theorem dX3_isAtRest_13 : decode cX3_isAtRest 13 = .ok (.iload_n 1, 1) := by decide +kernel
theorem dX3_isAtRest_14 : decode cX3_isAtRest 14 = .ok (.if_icmp .ne 7, 3) := by decide +kernel
theorem dX3_isAtRest_17 : decode cX3_isAtRest 17 = .ok (.iconst 1, 1) := by decide +kernel
theorem dX3_isAtRest_18 : decode cX3_isAtRest 18 = .ok (.goto 4, 3) := by decide +kernel
theorem dX3_isAtRest_21 : decode cX3_isAtRest 21 = .ok (.iconst 0, 1) := by decide +kernel
theorem dX3_isAtRest_22 : decode cX3_isAtRest 22 = .ok (.ireturn, 1) := by decide +kernel
theorem dX3_tipsAll_0 : decode cX3_tipsAll 0 = .ok (.aload_n 0, 1) := by decide +kernel
theorem dX3_tipsAll_1 : decode cX3_tipsAll 1 = .ok (.getfield 10, 3) := by decide +kernel
theorem dX3_tipsAll_4 : decode cX3_tipsAll 4 = .ok (.invokevirtual 133, 3) := by decide +kernel
theorem dX3_tipsAll_7 : decode cX3_tipsAll 7 = .ok (.iconst 1, 1) := by decide +kernel
theorem dX3_tipsAll_8 : decode cX3_tipsAll 8 = .ok (.isub, 1) := by decide +kernel
theorem dX3_tipsAll_9 : decode cX3_tipsAll 9 = .ok (.istore_n 3, 1) := by decide +kernel
theorem dX3_tipsAll_10 : decode cX3_tipsAll 10 = .ok (.iload_n 2, 1) := by decide +kernel
theorem dX3_tipsAll_11 : decode cX3_tipsAll 11 = .ok (.istore 4, 2) := by decide +kernel
theorem dX3_tipsAll_13 : decode cX3_tipsAll 13 = .ok (.iconst 0, 1) := by decide +kernel
theorem dX3_tipsAll_14 : decode cX3_tipsAll 14 = .ok (.istore 5, 2) := by decide +kernel
theorem dX3_tipsAll_16 : decode cX3_tipsAll 16 = .ok (.iload 5, 2) := by decide +kernel
theorem dX3_tipsAll_18 : decode cX3_tipsAll 18 = .ok (.sipush 1024, 3) := by decide +kernel
theorem dX3_tipsAll_21 : decode cX3_tipsAll 21 = .ok (.if_icmp .gt 49, 3) := by decide +kernel
theorem dX3_tipsAll_24 : decode cX3_tipsAll 24 = .ok (.aload_n 0, 1) := by decide +kernel
theorem dX3_tipsAll_25 : decode cX3_tipsAll 25 = .ok (.getfield 34, 3) := by decide +kernel
theorem dX3_tipsAll_28 : decode cX3_tipsAll 28 = .ok (.iload 4, 2) := by decide +kernel
theorem dX3_tipsAll_30 : decode cX3_tipsAll 30 = .ok (.iaload, 1) := by decide +kernel
theorem dX3_tipsAll_31 : decode cX3_tipsAll 31 = .ok (.iload_n 2, 1) := by decide +kernel
theorem dX3_tipsAll_32 : decode cX3_tipsAll 32 = .ok (.if_icmp .eq 38, 3) := by decide +kernel
theorem dX3_tipsAll_35 : decode cX3_tipsAll 35 = .ok (.iload 4, 2) := by decide +kernel
theorem dX3_tipsAll_37 : decode cX3_tipsAll 37 = .ok (.iload_n 3, 1) := by decide +kernel
theorem dX3_tipsAll_38 : decode cX3_tipsAll 38 = .ok (.if_icmp .ne 5, 3) := by decide +kernel
theorem dX3_tipsAll_41 : decode cX3_tipsAll 41 = .ok (.iconst 1, 1) := by decide +kernel
theorem dX3_tipsAll_42 : decode cX3_tipsAll 42 = .ok (.ireturn, 1) := by decide +kernel
theorem dX3_tipsAll_43 : decode cX3_tipsAll 43 = .ok (.aload_n 0, 1) := by decide +kernel
theorem dX3_tipsAll_44 : decode cX3_tipsAll 44 = .ok (.getfield 34, 3) := by decide +kernel
theorem dX3_tipsAll_47 : decode cX3_tipsAll 47 = .ok (.iload 4, 2) := by decide +kernel
theorem dX3_tipsAll_49 : decode cX3_tipsAll 49 = .ok (.iload_n 2, 1) := by decide +kernel
theorem dX3_tipsAll_50 : decode cX3_tipsAll 50 = .ok (.iastore, 1) := by decide +kernel
theorem dX3_tipsAll_51 : decode cX3_tipsAll 51 = .ok (.aload_n 0, 1) := by decide +kernel
theorem dX3_tipsAll_52 : decode cX3_tipsAll 52 = .ok (.getfield 21, 3) := by decide +kernel
theorem dX3_tipsAll_55 : decode cX3_tipsAll 55 = .ok (.iload_n 1, 1) := by decide +kernel
theorem dX3_tipsAll_56 : decode cX3_tipsAll 56 = .ok (.iload_n 2, 1) := by decide +kernel
theorem dX3_tipsAll_57 : decode cX3_tipsAll 57 = .ok (.iload 4, 2) := by decide +kernel
theorem dX3_tipsAll_59 : decode cX3_tipsAll 59 = .ok (.invokevirtual 98, 3) := by decide +kernel
theorem dX3_tipsAll_62 : decode cX3_tipsAll 62 = .ok (.istore 4, 2) := by decide +kernel
theorem dX3_tipsAll_64 : decode cX3_tipsAll 64 = .ok (.iinc 5 1, 3) := by decide +kernel
theorem dX3_tipsAll_67 : decode cX3_tipsAll 67 = .ok (.goto (-51), 3) := by decide +kernel
theorem dX3_tipsAll_70 : decode cX3_tipsAll 70 = .ok (.iconst 0, 1) := by decide +kernel
theorem dX3_tipsAll_71 : decode cX3_tipsAll 71 = .ok (.ireturn, 1) := by decide +kernel
theorem dX3_isRule_0 : decode cX3_isRule 0 = .ok (.iload_n 0, 1) := by decide +kernel
theorem dX3_isRule_1 : decode cX3_isRule 1 = .ok (.ifCond .lt 12, 3) := by decide +kernel
theorem dX3_isRule_4 : decode cX3_isRule 4 = .ok (.iload_n 0, 1) := by decide +kernel
theorem dX3_isRule_5 : decode cX3_isRule 5 = .ok (.iconst 3, 1) := by decide +kernel
theorem dX3_isRule_6 : decode cX3_isRule 6 = .ok (.if_icmp .gt 7, 3) := by decide +kernel
theorem dX3_isRule_9 : decode cX3_isRule 9 = .ok (.iconst 1, 1) := by decide +kernel
theorem dX3_isRule_10 : decode cX3_isRule 10 = .ok (.goto 4, 3) := by decide +kernel
theorem dX3_isRule_13 : decode cX3_isRule 13 = .ok (.iconst 0, 1) := by decide +kernel
theorem dX3_isRule_14 : decode cX3_isRule 14 = .ok (.ireturn, 1) := by decide +kernel
theorem dX3_isWay_0 : decode cX3_isWay 0 = .ok (.iload_n 0, 1) := by decide +kernel
theorem dX3_isWay_1 : decode cX3_isWay 1 = .ok (.ifCond .eq 8, 3) := by decide +kernel
theorem dX3_isWay_4 : decode cX3_isWay 4 = .ok (.iload_n 0, 1) := by decide +kernel
theorem dX3_isWay_5 : decode cX3_isWay 5 = .ok (.iconst 1, 1) := by decide +kernel
theorem dX3_isWay_6 : decode cX3_isWay 6 = .ok (.if_icmp .ne 7, 3) := by decide +kernel
theorem dX3_isWay_9 : decode cX3_isWay 9 = .ok (.iconst 1, 1) := by decide +kernel
theorem dX3_isWay_10 : decode cX3_isWay 10 = .ok (.goto 4, 3) := by decide +kernel
theorem dX3_isWay_13 : decode cX3_isWay 13 = .ok (.iconst 0, 1) := by decide +kernel
theorem dX3_isWay_14 : decode cX3_isWay 14 = .ok (.ireturn, 1) := by decide +kernel
theorem dX3_bitOf_0 : decode cX3_bitOf 0 = .ok (.iload_n 1, 1) := by decide +kernel
theorem dX3_bitOf_1 : decode cX3_bitOf 1 = .ok (.iload_n 0, 1) := by decide +kernel
theorem dX3_bitOf_2 : decode cX3_bitOf 2 = .ok (.ishr, 1) := by decide +kernel
theorem dX3_bitOf_3 : decode cX3_bitOf 3 = .ok (.iconst 1, 1) := by decide +kernel
theorem dX3_bitOf_4 : decode cX3_bitOf 4 = .ok (.iand, 1) := by decide +kernel
theorem dX3_bitOf_5 : decode cX3_bitOf 5 = .ok (.ireturn, 1) := by decide +kernel
theorem dX3_commonDivisor_0 : decode cX3_commonDivisor 0 = .ok (.iload_n 0, 1) := by decide +kernel
theorem dX3_commonDivisor_1 : decode cX3_commonDivisor 1 = .ok (.istore_n 2, 1) := by decide +kernel
theorem dX3_commonDivisor_2 : decode cX3_commonDivisor 2 = .ok (.iload_n 1, 1) := by decide +kernel
theorem dX3_commonDivisor_3 : decode cX3_commonDivisor 3 = .ok (.istore_n 3, 1) := by decide +kernel
theorem dX3_commonDivisor_4 : decode cX3_commonDivisor 4 = .ok (.iconst 0, 1) := by decide +kernel
theorem dX3_commonDivisor_5 : decode cX3_commonDivisor 5 = .ok (.istore 4, 2) := by decide +kernel
theorem dX3_commonDivisor_7 : decode cX3_commonDivisor 7 = .ok (.iload 4, 2) := by decide +kernel
theorem dX3_commonDivisor_9 : decode cX3_commonDivisor 9 = .ok (.bipush 100, 2) := by decide +kernel
theorem dX3_commonDivisor_11 : decode cX3_commonDivisor 11 = .ok (.if_icmp .ge 23, 3) := by decide +kernel
theorem dX3_commonDivisor_14 : decode cX3_commonDivisor 14 = .ok (.iload_n 3, 1) := by decide +kernel
theorem dX3_commonDivisor_15 : decode cX3_commonDivisor 15 = .ok (.ifCond .eq 19, 3) := by decide +kernel
theorem dX3_commonDivisor_18 : decode cX3_commonDivisor 18 = .ok (.iload_n 2, 1) := by decide +kernel
theorem dX3_commonDivisor_19 : decode cX3_commonDivisor 19 = .ok (.iload_n 3, 1) := by decide +kernel
theorem dX3_commonDivisor_20 : decode cX3_commonDivisor 20 = .ok (.irem, 1) := by decide +kernel
theorem dX3_commonDivisor_21 : decode cX3_commonDivisor 21 = .ok (.istore 5, 2) := by decide +kernel
theorem dX3_commonDivisor_23 : decode cX3_commonDivisor 23 = .ok (.iload_n 3, 1) := by decide +kernel
theorem dX3_commonDivisor_24 : decode cX3_commonDivisor 24 = .ok (.istore_n 2, 1) := by decide +kernel
theorem dX3_commonDivisor_25 : decode cX3_commonDivisor 25 = .ok (.iload 5, 2) := by decide +kernel
theorem dX3_commonDivisor_27 : decode cX3_commonDivisor 27 = .ok (.istore_n 3, 1) := by decide +kernel
theorem dX3_commonDivisor_28 : decode cX3_commonDivisor 28 = .ok (.iinc 4 1, 3) := by decide +kernel
theorem dX3_commonDivisor_31 : decode cX3_commonDivisor 31 = .ok (.goto (-24), 3) := by decide +kernel
theorem dX3_commonDivisor_34 : decode cX3_commonDivisor 34 = .ok (.iload_n 2, 1) := by decide +kernel
theorem dX3_commonDivisor_35 : decode cX3_commonDivisor 35 = .ok (.ireturn, 1) := by decide +kernel

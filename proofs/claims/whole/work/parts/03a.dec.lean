theorem dX0_init_0 : decode cX0_init 0 = .ok (.aload_n 0, 1) := by decide +kernel
theorem dX0_init_1 : decode cX0_init 1 = .ok (.invokespecial 3, 3) := by decide +kernel
theorem dX0_init_4 : decode cX0_init 4 = .ok (.aload_n 0, 1) := by decide +kernel
theorem dX0_init_5 : decode cX0_init 5 = .ok (.aload_n 1, 1) := by decide +kernel
theorem dX0_init_6 : decode cX0_init 6 = .ok (.putfield 9, 3) := by decide +kernel
theorem dX0_init_9 : decode cX0_init 9 = .ok (.aload_n 0, 1) := by decide +kernel
theorem dX0_init_10 : decode cX0_init 10 = .ok (.sipush 3072, 3) := by decide +kernel
theorem dX0_init_13 : decode cX0_init 13 = .ok (.newarray .int, 2) := by decide +kernel
theorem dX0_init_15 : decode cX0_init 15 = .ok (.putfield 15, 3) := by decide +kernel
theorem dX0_init_18 : decode cX0_init 18 = .ok (.aload_n 0, 1) := by decide +kernel
theorem dX0_init_19 : decode cX0_init 19 = .ok (.iconst 3, 1) := by decide +kernel
theorem dX0_init_20 : decode cX0_init 20 = .ok (.newarray .boolean, 2) := by decide +kernel
theorem dX0_init_22 : decode cX0_init 22 = .ok (.putfield 19, 3) := by decide +kernel
theorem dX0_init_25 : decode cX0_init 25 = .ok (.aload_n 0, 1) := by decide +kernel
theorem dX0_init_26 : decode cX0_init 26 = .ok (.bipush 10, 2) := by decide +kernel
theorem dX0_init_28 : decode cX0_init 28 = .ok (.newarray .int, 2) := by decide +kernel
theorem dX0_init_30 : decode cX0_init 30 = .ok (.putfield 23, 3) := by decide +kernel
theorem dX0_init_33 : decode cX0_init 33 = .ok (.return_, 1) := by decide +kernel
theorem dX0_forget_0 : decode cX0_forget 0 = .ok (.iconst 0, 1) := by decide +kernel
theorem dX0_forget_1 : decode cX0_forget 1 = .ok (.istore_n 1, 1) := by decide +kernel
theorem dX0_forget_2 : decode cX0_forget 2 = .ok (.iload_n 1, 1) := by decide +kernel
theorem dX0_forget_3 : decode cX0_forget 3 = .ok (.iconst 3, 1) := by decide +kernel
theorem dX0_forget_4 : decode cX0_forget 4 = .ok (.if_icmp .ge 16, 3) := by decide +kernel
theorem dX0_forget_7 : decode cX0_forget 7 = .ok (.aload_n 0, 1) := by decide +kernel
theorem dX0_forget_8 : decode cX0_forget 8 = .ok (.getfield 19, 3) := by decide +kernel
theorem dX0_forget_11 : decode cX0_forget 11 = .ok (.iload_n 1, 1) := by decide +kernel
theorem dX0_forget_12 : decode cX0_forget 12 = .ok (.iconst 0, 1) := by decide +kernel
theorem dX0_forget_13 : decode cX0_forget 13 = .ok (.bastore, 1) := by decide +kernel
theorem dX0_forget_14 : decode cX0_forget 14 = .ok (.iinc 1 1, 3) := by decide +kernel
theorem dX0_forget_17 : decode cX0_forget 17 = .ok (.goto (-15), 3) := by decide +kernel
theorem dX0_forget_20 : decode cX0_forget 20 = .ok (.return_, 1) := by decide +kernel
theorem dX0_next_0 : decode cX0_next 0 = .ok (.iload_n 1, 1) := by decide +kernel
theorem dX0_next_1 : decode cX0_next 1 = .ok (.iconst 3, 1) := by decide +kernel
theorem dX0_next_2 : decode cX0_next 2 = .ok (.if_icmp .eq 18, 3) := by decide +kernel
theorem dX0_next_5 : decode cX0_next 5 = .ok (.aload_n 0, 1) := by decide +kernel
theorem dX0_next_6 : decode cX0_next 6 = .ok (.iload_n 1, 1) := by decide +kernel
theorem dX0_next_7 : decode cX0_next 7 = .ok (.iload_n 3, 1) := by decide +kernel
theorem dX0_next_8 : decode cX0_next 8 = .ok (.invokevirtual 26, 3) := by decide +kernel
theorem dX0_next_11 : decode cX0_next 11 = .ok (.iload_n 2, 1) := by decide +kernel
theorem dX0_next_12 : decode cX0_next 12 = .ok (.iconst (-1), 1) := by decide +kernel
theorem dX0_next_13 : decode cX0_next 13 = .ok (.ixor, 1) := by decide +kernel
theorem dX0_next_14 : decode cX0_next 14 = .ok (.iand, 1) := by decide +kernel
theorem dX0_next_15 : decode cX0_next 15 = .ok (.iload_n 3, 1) := by decide +kernel
theorem dX0_next_16 : decode cX0_next 16 = .ok (.iload_n 2, 1) := by decide +kernel
theorem dX0_next_17 : decode cX0_next 17 = .ok (.iand, 1) := by decide +kernel
theorem dX0_next_18 : decode cX0_next 18 = .ok (.ior, 1) := by decide +kernel
theorem dX0_next_19 : decode cX0_next 19 = .ok (.ireturn, 1) := by decide +kernel
theorem dX0_next_20 : decode cX0_next 20 = .ok (.iload_n 3, 1) := by decide +kernel
theorem dX0_next_21 : decode cX0_next 21 = .ok (.istore 4, 2) := by decide +kernel
theorem dX0_next_23 : decode cX0_next 23 = .ok (.iconst 0, 1) := by decide +kernel
theorem dX0_next_24 : decode cX0_next 24 = .ok (.istore 5, 2) := by decide +kernel
theorem dX0_next_26 : decode cX0_next 26 = .ok (.iload 5, 2) := by decide +kernel
theorem dX0_next_28 : decode cX0_next 28 = .ok (.aload_n 0, 1) := by decide +kernel
theorem dX0_next_29 : decode cX0_next 29 = .ok (.getfield 9, 3) := by decide +kernel
theorem dX0_next_32 : decode cX0_next 32 = .ok (.getfield 30, 3) := by decide +kernel
theorem dX0_next_35 : decode cX0_next 35 = .ok (.if_icmp .ge 39, 3) := by decide +kernel
theorem dX0_next_38 : decode cX0_next 38 = .ok (.iconst 1, 1) := by decide +kernel
theorem dX0_next_39 : decode cX0_next 39 = .ok (.iload 5, 2) := by decide +kernel
theorem dX0_next_41 : decode cX0_next 41 = .ok (.ishl, 1) := by decide +kernel
theorem dX0_next_42 : decode cX0_next 42 = .ok (.iload_n 2, 1) := by decide +kernel
theorem dX0_next_43 : decode cX0_next 43 = .ok (.iconst (-1), 1) := by decide +kernel
theorem dX0_next_44 : decode cX0_next 44 = .ok (.ixor, 1) := by decide +kernel
theorem dX0_next_45 : decode cX0_next 45 = .ok (.iand, 1) := by decide +kernel
theorem dX0_next_46 : decode cX0_next 46 = .ok (.istore 6, 2) := by decide +kernel
theorem dX0_next_48 : decode cX0_next 48 = .ok (.aload_n 0, 1) := by decide +kernel
theorem dX0_next_49 : decode cX0_next 49 = .ok (.iconst 0, 1) := by decide +kernel
theorem dX0_next_50 : decode cX0_next 50 = .ok (.iload 4, 2) := by decide +kernel
theorem dX0_next_52 : decode cX0_next 52 = .ok (.invokevirtual 26, 3) := by decide +kernel
theorem dX0_next_55 : decode cX0_next 55 = .ok (.iload 6, 2) := by decide +kernel
theorem dX0_next_57 : decode cX0_next 57 = .ok (.iand, 1) := by decide +kernel
theorem dX0_next_58 : decode cX0_next 58 = .ok (.iload 4, 2) := by decide +kernel
theorem dX0_next_60 : decode cX0_next 60 = .ok (.iload 6, 2) := by decide +kernel
theorem dX0_next_62 : decode cX0_next 62 = .ok (.iconst (-1), 1) := by decide +kernel
theorem dX0_next_63 : decode cX0_next 63 = .ok (.ixor, 1) := by decide +kernel
theorem dX0_next_64 : decode cX0_next 64 = .ok (.iand, 1) := by decide +kernel
theorem dX0_next_65 : decode cX0_next 65 = .ok (.ior, 1) := by decide +kernel
theorem dX0_next_66 : decode cX0_next 66 = .ok (.istore 4, 2) := by decide +kernel
theorem dX0_next_68 : decode cX0_next 68 = .ok (.iinc 5 1, 3) := by decide +kernel
theorem dX0_next_71 : decode cX0_next 71 = .ok (.goto (-45), 3) := by decide +kernel
theorem dX0_next_74 : decode cX0_next 74 = .ok (.iload 4, 2) := by decide +kernel
theorem dX0_next_76 : decode cX0_next 76 = .ok (.ireturn, 1) := by decide +kernel
theorem dX0_wishOf_0 : decode cX0_wishOf 0 = .ok (.aload_n 0, 1) := by decide +kernel
theorem dX0_wishOf_1 : decode cX0_wishOf 1 = .ok (.getfield 19, 3) := by decide +kernel
theorem dX0_wishOf_4 : decode cX0_wishOf 4 = .ok (.iload_n 1, 1) := by decide +kernel
theorem dX0_wishOf_5 : decode cX0_wishOf 5 = .ok (.baload, 1) := by decide +kernel
theorem dX0_wishOf_6 : decode cX0_wishOf 6 = .ok (.ifCond .ne 8, 3) := by decide +kernel
theorem dX0_wishOf_9 : decode cX0_wishOf 9 = .ok (.aload_n 0, 1) := by decide +kernel
theorem dX0_wishOf_10 : decode cX0_wishOf 10 = .ok (.iload_n 1, 1) := by decide +kernel
theorem dX0_wishOf_11 : decode cX0_wishOf 11 = .ok (.invokevirtual 36, 3) := by decide +kernel
theorem dX0_wishOf_14 : decode cX0_wishOf 14 = .ok (.iload_n 1, 1) := by decide +kernel
theorem dX0_wishOf_15 : decode cX0_wishOf 15 = .ok (.sipush 1024, 3) := by decide +kernel
theorem dX0_wishOf_18 : decode cX0_wishOf 18 = .ok (.imul, 1) := by decide +kernel
theorem dX0_wishOf_19 : decode cX0_wishOf 19 = .ok (.iload_n 2, 1) := by decide +kernel
theorem dX0_wishOf_20 : decode cX0_wishOf 20 = .ok (.iadd, 1) := by decide +kernel
theorem dX0_wishOf_21 : decode cX0_wishOf 21 = .ok (.istore_n 3, 1) := by decide +kernel
theorem dX0_wishOf_22 : decode cX0_wishOf 22 = .ok (.aload_n 0, 1) := by decide +kernel
theorem dX0_wishOf_23 : decode cX0_wishOf 23 = .ok (.getfield 15, 3) := by decide +kernel
theorem dX0_wishOf_26 : decode cX0_wishOf 26 = .ok (.iload_n 3, 1) := by decide +kernel
theorem dX0_wishOf_27 : decode cX0_wishOf 27 = .ok (.iaload, 1) := by decide +kernel
theorem dX0_wishOf_28 : decode cX0_wishOf 28 = .ok (.iconst (-1), 1) := by decide +kernel
theorem dX0_wishOf_29 : decode cX0_wishOf 29 = .ok (.if_icmp .ne 70, 3) := by decide +kernel
theorem dX0_wishOf_32 : decode cX0_wishOf 32 = .ok (.iload_n 1, 1) := by decide +kernel
theorem dX0_wishOf_33 : decode cX0_wishOf 33 = .ok (.lookupswitch 55 #[(0, 27), (1, 41)], 27) := by decide +kernel
theorem dX0_wishOf_60 : decode cX0_wishOf 60 = .ok (.aload_n 0, 1) := by decide +kernel
theorem dX0_wishOf_61 : decode cX0_wishOf 61 = .ok (.getfield 15, 3) := by decide +kernel
theorem dX0_wishOf_64 : decode cX0_wishOf 64 = .ok (.iload_n 3, 1) := by decide +kernel
theorem dX0_wishOf_65 : decode cX0_wishOf 65 = .ok (.aload_n 0, 1) := by decide +kernel
theorem dX0_wishOf_66 : decode cX0_wishOf 66 = .ok (.iload_n 2, 1) := by decide +kernel
theorem dX0_wishOf_67 : decode cX0_wishOf 67 = .ok (.invokevirtual 40, 3) := by decide +kernel
theorem dX0_wishOf_70 : decode cX0_wishOf 70 = .ok (.iastore, 1) := by decide +kernel
theorem dX0_wishOf_71 : decode cX0_wishOf 71 = .ok (.goto 28, 3) := by decide +kernel
theorem dX0_wishOf_74 : decode cX0_wishOf 74 = .ok (.aload_n 0, 1) := by decide +kernel
theorem dX0_wishOf_75 : decode cX0_wishOf 75 = .ok (.getfield 15, 3) := by decide +kernel
theorem dX0_wishOf_78 : decode cX0_wishOf 78 = .ok (.iload_n 3, 1) := by decide +kernel
theorem dX0_wishOf_79 : decode cX0_wishOf 79 = .ok (.aload_n 0, 1) := by decide +kernel
theorem dX0_wishOf_80 : decode cX0_wishOf 80 = .ok (.iload_n 2, 1) := by decide +kernel
theorem dX0_wishOf_81 : decode cX0_wishOf 81 = .ok (.invokevirtual 44, 3) := by decide +kernel
theorem dX0_wishOf_84 : decode cX0_wishOf 84 = .ok (.iastore, 1) := by decide +kernel
theorem dX0_wishOf_85 : decode cX0_wishOf 85 = .ok (.goto 14, 3) := by decide +kernel
theorem dX0_wishOf_88 : decode cX0_wishOf 88 = .ok (.aload_n 0, 1) := by decide +kernel
theorem dX0_wishOf_89 : decode cX0_wishOf 89 = .ok (.getfield 15, 3) := by decide +kernel
theorem dX0_wishOf_92 : decode cX0_wishOf 92 = .ok (.iload_n 3, 1) := by decide +kernel
theorem dX0_wishOf_93 : decode cX0_wishOf 93 = .ok (.aload_n 0, 1) := by decide +kernel
theorem dX0_wishOf_94 : decode cX0_wishOf 94 = .ok (.iload_n 2, 1) := by decide +kernel
theorem dX0_wishOf_95 : decode cX0_wishOf 95 = .ok (.invokevirtual 47, 3) := by decide +kernel
theorem dX0_wishOf_98 : decode cX0_wishOf 98 = .ok (.iastore, 1) := by decide +kernel
theorem dX0_wishOf_99 : decode cX0_wishOf 99 = .ok (.aload_n 0, 1) := by decide +kernel
theorem dX0_wishOf_100 : decode cX0_wishOf 100 = .ok (.getfield 15, 3) := by decide +kernel
theorem dX0_wishOf_103 : decode cX0_wishOf 103 = .ok (.iload_n 3, 1) := by decide +kernel
theorem dX0_wishOf_104 : decode cX0_wishOf 104 = .ok (.iaload, 1) := by decide +kernel
theorem dX0_wishOf_105 : decode cX0_wishOf 105 = .ok (.ireturn, 1) := by decide +kernel
theorem dX0_takeIntoUse_0 : decode cX0_takeIntoUse 0 = .ok (.iconst 0, 1) := by decide +kernel
theorem dX0_takeIntoUse_1 : decode cX0_takeIntoUse 1 = .ok (.istore_n 2, 1) := by decide +kernel
theorem dX0_takeIntoUse_2 : decode cX0_takeIntoUse 2 = .ok (.iload_n 2, 1) := by decide +kernel
theorem dX0_takeIntoUse_3 : decode cX0_takeIntoUse 3 = .ok (.aload_n 0, 1) := by decide +kernel
theorem dX0_takeIntoUse_4 : decode cX0_takeIntoUse 4 = .ok (.getfield 9, 3) := by decide +kernel
theorem dX0_takeIntoUse_7 : decode cX0_takeIntoUse 7 = .ok (.invokevirtual 50, 3) := by decide +kernel
theorem dX0_takeIntoUse_10 : decode cX0_takeIntoUse 10 = .ok (.if_icmp .ge 22, 3) := by decide +kernel
theorem dX0_takeIntoUse_13 : decode cX0_takeIntoUse 13 = .ok (.aload_n 0, 1) := by decide +kernel
theorem dX0_takeIntoUse_14 : decode cX0_takeIntoUse 14 = .ok (.getfield 15, 3) := by decide +kernel
theorem dX0_takeIntoUse_17 : decode cX0_takeIntoUse 17 = .ok (.iload_n 1, 1) := by decide +kernel
theorem dX0_takeIntoUse_18 : decode cX0_takeIntoUse 18 = .ok (.sipush 1024, 3) := by decide +kernel
theorem dX0_takeIntoUse_21 : decode cX0_takeIntoUse 21 = .ok (.imul, 1) := by decide +kernel
theorem dX0_takeIntoUse_22 : decode cX0_takeIntoUse 22 = .ok (.iload_n 2, 1) := by decide +kernel
theorem dX0_takeIntoUse_23 : decode cX0_takeIntoUse 23 = .ok (.iadd, 1) := by decide +kernel
theorem dX0_takeIntoUse_24 : decode cX0_takeIntoUse 24 = .ok (.iconst (-1), 1) := by decide +kernel
theorem dX0_takeIntoUse_25 : decode cX0_takeIntoUse 25 = .ok (.iastore, 1) := by decide +kernel
theorem dX0_takeIntoUse_26 : decode cX0_takeIntoUse 26 = .ok (.iinc 2 1, 3) := by decide +kernel
theorem dX0_takeIntoUse_29 : decode cX0_takeIntoUse 29 = .ok (.goto (-27), 3) := by decide +kernel
theorem dX0_takeIntoUse_32 : decode cX0_takeIntoUse 32 = .ok (.aload_n 0, 1) := by decide +kernel
theorem dX0_takeIntoUse_33 : decode cX0_takeIntoUse 33 = .ok (.getfield 19, 3) := by decide +kernel
theorem dX0_takeIntoUse_36 : decode cX0_takeIntoUse 36 = .ok (.iload_n 1, 1) := by decide +kernel
theorem dX0_takeIntoUse_37 : decode cX0_takeIntoUse 37 = .ok (.iconst 1, 1) := by decide +kernel
theorem dX0_takeIntoUse_38 : decode cX0_takeIntoUse 38 = .ok (.bastore, 1) := by decide +kernel
theorem dX0_takeIntoUse_39 : decode cX0_takeIntoUse 39 = .ok (.return_, 1) := by decide +kernel
theorem dX0_repliesTo_0 : decode cX0_repliesTo 0 = .ok (.iconst 0, 1) := by decide +kernel
theorem dX0_repliesTo_1 : decode cX0_repliesTo 1 = .ok (.istore_n 2, 1) := by decide +kernel
theorem dX0_repliesTo_2 : decode cX0_repliesTo 2 = .ok (.iconst 0, 1) := by decide +kernel
theorem dX0_repliesTo_3 : decode cX0_repliesTo 3 = .ok (.istore_n 3, 1) := by decide +kernel
theorem dX0_repliesTo_4 : decode cX0_repliesTo 4 = .ok (.iload_n 3, 1) := by decide +kernel
theorem dX0_repliesTo_5 : decode cX0_repliesTo 5 = .ok (.aload_n 0, 1) := by decide +kernel
theorem dX0_repliesTo_6 : decode cX0_repliesTo 6 = .ok (.getfield 9, 3) := by decide +kernel
theorem dX0_repliesTo_9 : decode cX0_repliesTo 9 = .ok (.getfield 30, 3) := by decide +kernel
theorem dX0_repliesTo_12 : decode cX0_repliesTo 12 = .ok (.if_icmp .ge 62, 3) := by decide +kernel
theorem dX0_repliesTo_15 : decode cX0_repliesTo 15 = .ok (.aload_n 0, 1) := by decide +kernel
theorem dX0_repliesTo_16 : decode cX0_repliesTo 16 = .ok (.getfield 9, 3) := by decide +kernel
theorem dX0_repliesTo_19 : decode cX0_repliesTo 19 = .ok (.iload_n 3, 1) := by decide +kernel
theorem dX0_repliesTo_20 : decode cX0_repliesTo 20 = .ok (.iconst 0, 1) := by decide +kernel
theorem dX0_repliesTo_21 : decode cX0_repliesTo 21 = .ok (.iload_n 1, 1) := by decide +kernel
theorem dX0_repliesTo_22 : decode cX0_repliesTo 22 = .ok (.invokevirtual 54, 3) := by decide +kernel
theorem dX0_repliesTo_25 : decode cX0_repliesTo 25 = .ok (.istore 4, 2) := by decide +kernel
theorem dX0_repliesTo_27 : decode cX0_repliesTo 27 = .ok (.aload_n 0, 1) := by decide +kernel
theorem dX0_repliesTo_28 : decode cX0_repliesTo 28 = .ok (.getfield 9, 3) := by decide +kernel
theorem dX0_repliesTo_31 : decode cX0_repliesTo 31 = .ok (.iload_n 3, 1) := by decide +kernel
theorem dX0_repliesTo_32 : decode cX0_repliesTo 32 = .ok (.iconst 1, 1) := by decide +kernel
theorem dX0_repliesTo_33 : decode cX0_repliesTo 33 = .ok (.iload_n 1, 1) := by decide +kernel
theorem dX0_repliesTo_34 : decode cX0_repliesTo 34 = .ok (.invokevirtual 54, 3) := by decide +kernel
theorem dX0_repliesTo_37 : decode cX0_repliesTo 37 = .ok (.istore 5, 2) := by decide +kernel
theorem dX0_repliesTo_39 : decode cX0_repliesTo 39 = .ok (.iload 5, 2) := by decide +kernel
theorem dX0_repliesTo_41 : decode cX0_repliesTo 41 = .ok (.iload 4, 2) := by decide +kernel
theorem dX0_repliesTo_43 : decode cX0_repliesTo 43 = .ok (.if_icmp .gt 19, 3) := by decide +kernel
theorem dX0_repliesTo_46 : decode cX0_repliesTo 46 = .ok (.iload 5, 2) := by decide +kernel
theorem dX0_repliesTo_48 : decode cX0_repliesTo 48 = .ok (.iload 4, 2) := by decide +kernel
theorem dX0_repliesTo_50 : decode cX0_repliesTo 50 = .ok (.if_icmp .ne 18, 3) := by decide +kernel
theorem dX0_repliesTo_53 : decode cX0_repliesTo 53 = .ok (.iload_n 3, 1) := by decide +kernel
theorem dX0_repliesTo_54 : decode cX0_repliesTo 54 = .ok (.iload_n 1, 1) := by decide +kernel
theorem dX0_repliesTo_55 : decode cX0_repliesTo 55 = .ok (.invokestatic 58, 3) := by decide +kernel
theorem dX0_repliesTo_58 : decode cX0_repliesTo 58 = .ok (.iconst 1, 1) := by decide +kernel
theorem dX0_repliesTo_59 : decode cX0_repliesTo 59 = .ok (.if_icmp .ne 9, 3) := by decide +kernel
theorem dX0_repliesTo_62 : decode cX0_repliesTo 62 = .ok (.iload_n 2, 1) := by decide +kernel
theorem dX0_repliesTo_63 : decode cX0_repliesTo 63 = .ok (.iconst 1, 1) := by decide +kernel
theorem dX0_repliesTo_64 : decode cX0_repliesTo 64 = .ok (.iload_n 3, 1) := by decide +kernel
theorem dX0_repliesTo_65 : decode cX0_repliesTo 65 = .ok (.ishl, 1) := by decide +kernel
theorem dX0_repliesTo_66 : decode cX0_repliesTo 66 = .ok (.ior, 1) := by decide +kernel
theorem dX0_repliesTo_67 : decode cX0_repliesTo 67 = .ok (.istore_n 2, 1) := by decide +kernel
theorem dX0_repliesTo_68 : decode cX0_repliesTo 68 = .ok (.iinc 3 1, 3) := by decide +kernel
theorem dX0_repliesTo_71 : decode cX0_repliesTo 71 = .ok (.goto (-67), 3) := by decide +kernel
theorem dX0_repliesTo_74 : decode cX0_repliesTo 74 = .ok (.iload_n 2, 1) := by decide +kernel
theorem dX0_repliesTo_75 : decode cX0_repliesTo 75 = .ok (.ireturn, 1) := by decide +kernel
theorem dX0_copiesIn_0 : decode cX0_copiesIn 0 = .ok (.iconst 0, 1) := by decide +kernel
theorem dX0_copiesIn_1 : decode cX0_copiesIn 1 = .ok (.istore_n 2, 1) := by decide +kernel
theorem dX0_copiesIn_2 : decode cX0_copiesIn 2 = .ok (.iload_n 2, 1) := by decide +kernel
theorem dX0_copiesIn_3 : decode cX0_copiesIn 3 = .ok (.aload_n 0, 1) := by decide +kernel
theorem dX0_copiesIn_4 : decode cX0_copiesIn 4 = .ok (.getfield 9, 3) := by decide +kernel
theorem dX0_copiesIn_7 : decode cX0_copiesIn 7 = .ok (.getfield 30, 3) := by decide +kernel
theorem dX0_copiesIn_10 : decode cX0_copiesIn 10 = .ok (.if_icmp .ge 29, 3) := by decide +kernel
theorem dX0_copiesIn_13 : decode cX0_copiesIn 13 = .ok (.aload_n 0, 1) := by decide +kernel
theorem dX0_copiesIn_14 : decode cX0_copiesIn 14 = .ok (.getfield 23, 3) := by decide +kernel
theorem dX0_copiesIn_17 : decode cX0_copiesIn 17 = .ok (.iload_n 2, 1) := by decide +kernel
theorem dX0_copiesIn_18 : decode cX0_copiesIn 18 = .ok (.aload_n 0, 1) := by decide +kernel
theorem dX0_copiesIn_19 : decode cX0_copiesIn 19 = .ok (.getfield 9, 3) := by decide +kernel
theorem dX0_copiesIn_22 : decode cX0_copiesIn 22 = .ok (.iload_n 2, 1) := by decide +kernel
theorem dX0_copiesIn_23 : decode cX0_copiesIn 23 = .ok (.iload_n 2, 1) := by decide +kernel
theorem dX0_copiesIn_24 : decode cX0_copiesIn 24 = .ok (.iload_n 1, 1) := by decide +kernel
theorem dX0_copiesIn_25 : decode cX0_copiesIn 25 = .ok (.invokestatic 58, 3) := by decide +kernel
theorem dX0_copiesIn_28 : decode cX0_copiesIn 28 = .ok (.iload_n 1, 1) := by decide +kernel
theorem dX0_copiesIn_29 : decode cX0_copiesIn 29 = .ok (.invokevirtual 54, 3) := by decide +kernel
theorem dX0_copiesIn_32 : decode cX0_copiesIn 32 = .ok (.iastore, 1) := by decide +kernel
theorem dX0_copiesIn_33 : decode cX0_copiesIn 33 = .ok (.iinc 2 1, 3) := by decide +kernel
theorem dX0_copiesIn_36 : decode cX0_copiesIn 36 = .ok (.goto (-34), 3) := by decide +kernel
theorem dX0_copiesIn_39 : decode cX0_copiesIn 39 = .ok (.iconst 0, 1) := by decide +kernel
theorem dX0_copiesIn_40 : decode cX0_copiesIn 40 = .ok (.istore_n 2, 1) := by decide +kernel
theorem dX0_copiesIn_41 : decode cX0_copiesIn 41 = .ok (.iconst 0, 1) := by decide +kernel
theorem dX0_copiesIn_42 : decode cX0_copiesIn 42 = .ok (.istore_n 3, 1) := by decide +kernel
theorem dX0_copiesIn_43 : decode cX0_copiesIn 43 = .ok (.iload_n 3, 1) := by decide +kernel
theorem dX0_copiesIn_44 : decode cX0_copiesIn 44 = .ok (.aload_n 0, 1) := by decide +kernel
theorem dX0_copiesIn_45 : decode cX0_copiesIn 45 = .ok (.getfield 9, 3) := by decide +kernel
theorem dX0_copiesIn_48 : decode cX0_copiesIn 48 = .ok (.getfield 30, 3) := by decide +kernel
theorem dX0_copiesIn_51 : decode cX0_copiesIn 51 = .ok (.if_icmp .ge 23, 3) := by decide +kernel
theorem dX0_copiesIn_54 : decode cX0_copiesIn 54 = .ok (.iload_n 2, 1) := by decide +kernel
theorem dX0_copiesIn_55 : decode cX0_copiesIn 55 = .ok (.aload_n 0, 1) := by decide +kernel
theorem dX0_copiesIn_56 : decode cX0_copiesIn 56 = .ok (.iload_n 3, 1) := by decide +kernel
theorem dX0_copiesIn_57 : decode cX0_copiesIn 57 = .ok (.invokevirtual 61, 3) := by decide +kernel
theorem dX0_copiesIn_60 : decode cX0_copiesIn 60 = .ok (.iload_n 1, 1) := by decide +kernel
theorem dX0_copiesIn_61 : decode cX0_copiesIn 61 = .ok (.invokestatic 58, 3) := by decide +kernel
theorem dX0_copiesIn_64 : decode cX0_copiesIn 64 = .ok (.iload_n 3, 1) := by decide +kernel
theorem dX0_copiesIn_65 : decode cX0_copiesIn 65 = .ok (.ishl, 1) := by decide +kernel
theorem dX0_copiesIn_66 : decode cX0_copiesIn 66 = .ok (.ior, 1) := by decide +kernel
theorem dX0_copiesIn_67 : decode cX0_copiesIn 67 = .ok (.istore_n 2, 1) := by decide +kernel
theorem dX0_copiesIn_68 : decode cX0_copiesIn 68 = .ok (.iinc 3 1, 3) := by decide +kernel
theorem dX0_copiesIn_71 : decode cX0_copiesIn 71 = .ok (.goto (-28), 3) := by decide +kernel
theorem dX0_copiesIn_74 : decode cX0_copiesIn 74 = .ok (.iload_n 2, 1) := by decide +kernel
theorem dX0_copiesIn_75 : decode cX0_copiesIn 75 = .ok (.ireturn, 1) := by decide +kernel
theorem dX0_bestBeside_0 : decode cX0_bestBeside 0 = .ok (.iload_n 1, 1) := by decide +kernel
theorem dX0_bestBeside_1 : decode cX0_bestBeside 1 = .ok (.istore_n 2, 1) := by decide +kernel
theorem dX0_bestBeside_2 : decode cX0_bestBeside 2 = .ok (.iconst 0, 1) := by decide +kernel
theorem dX0_bestBeside_3 : decode cX0_bestBeside 3 = .ok (.istore_n 3, 1) := by decide +kernel
theorem dX0_bestBeside_4 : decode cX0_bestBeside 4 = .ok (.iload_n 3, 1) := by decide +kernel
theorem dX0_bestBeside_5 : decode cX0_bestBeside 5 = .ok (.aload_n 0, 1) := by decide +kernel
theorem dX0_bestBeside_6 : decode cX0_bestBeside 6 = .ok (.getfield 9, 3) := by decide +kernel
theorem dX0_bestBeside_9 : decode cX0_bestBeside 9 = .ok (.getfield 30, 3) := by decide +kernel
theorem dX0_bestBeside_12 : decode cX0_bestBeside 12 = .ok (.if_icmp .ge 38, 3) := by decide +kernel
theorem dX0_bestBeside_15 : decode cX0_bestBeside 15 = .ok (.aload_n 0, 1) := by decide +kernel
theorem dX0_bestBeside_16 : decode cX0_bestBeside 16 = .ok (.getfield 9, 3) := by decide +kernel
theorem dX0_bestBeside_19 : decode cX0_bestBeside 19 = .ok (.iload_n 1, 1) := by decide +kernel
theorem dX0_bestBeside_20 : decode cX0_bestBeside 20 = .ok (.iload_n 3, 1) := by decide +kernel
theorem dX0_bestBeside_21 : decode cX0_bestBeside 21 = .ok (.invokevirtual 64, 3) := by decide +kernel
theorem dX0_bestBeside_24 : decode cX0_bestBeside 24 = .ok (.ifCond .eq 20, 3) := by decide +kernel
theorem dX0_bestBeside_27 : decode cX0_bestBeside 27 = .ok (.aload_n 0, 1) := by decide +kernel
theorem dX0_bestBeside_28 : decode cX0_bestBeside 28 = .ok (.getfield 23, 3) := by decide +kernel
theorem dX0_bestBeside_31 : decode cX0_bestBeside 31 = .ok (.iload_n 3, 1) := by decide +kernel
theorem dX0_bestBeside_32 : decode cX0_bestBeside 32 = .ok (.iaload, 1) := by decide +kernel
theorem dX0_bestBeside_33 : decode cX0_bestBeside 33 = .ok (.aload_n 0, 1) := by decide +kernel
theorem dX0_bestBeside_34 : decode cX0_bestBeside 34 = .ok (.getfield 23, 3) := by decide +kernel
theorem dX0_bestBeside_37 : decode cX0_bestBeside 37 = .ok (.iload_n 2, 1) := by decide +kernel
theorem dX0_bestBeside_38 : decode cX0_bestBeside 38 = .ok (.iaload, 1) := by decide +kernel
theorem dX0_bestBeside_39 : decode cX0_bestBeside 39 = .ok (.if_icmp .le 5, 3) := by decide +kernel
theorem dX0_bestBeside_42 : decode cX0_bestBeside 42 = .ok (.iload_n 3, 1) := by decide +kernel
theorem dX0_bestBeside_43 : decode cX0_bestBeside 43 = .ok (.istore_n 2, 1) := by decide +kernel
theorem dX0_bestBeside_44 : decode cX0_bestBeside 44 = .ok (.iinc 3 1, 3) := by decide +kernel
theorem dX0_bestBeside_47 : decode cX0_bestBeside 47 = .ok (.goto (-43), 3) := by decide +kernel
theorem dX0_bestBeside_50 : decode cX0_bestBeside 50 = .ok (.iload_n 2, 1) := by decide +kernel
theorem dX0_bestBeside_51 : decode cX0_bestBeside 51 = .ok (.ireturn, 1) := by decide +kernel
theorem dX0_overBarIn_0 : decode cX0_overBarIn 0 = .ok (.iconst 0, 1) := by decide +kernel
theorem dX0_overBarIn_1 : decode cX0_overBarIn 1 = .ok (.istore_n 2, 1) := by decide +kernel
theorem dX0_overBarIn_2 : decode cX0_overBarIn 2 = .ok (.iconst 0, 1) := by decide +kernel
theorem dX0_overBarIn_3 : decode cX0_overBarIn 3 = .ok (.istore_n 3, 1) := by decide +kernel
theorem dX0_overBarIn_4 : decode cX0_overBarIn 4 = .ok (.iload_n 3, 1) := by decide +kernel
theorem dX0_overBarIn_5 : decode cX0_overBarIn 5 = .ok (.aload_n 0, 1) := by decide +kernel
theorem dX0_overBarIn_6 : decode cX0_overBarIn 6 = .ok (.getfield 9, 3) := by decide +kernel
theorem dX0_overBarIn_9 : decode cX0_overBarIn 9 = .ok (.getfield 30, 3) := by decide +kernel
theorem dX0_overBarIn_12 : decode cX0_overBarIn 12 = .ok (.if_icmp .ge 67, 3) := by decide +kernel
theorem dX0_overBarIn_15 : decode cX0_overBarIn 15 = .ok (.aload_n 0, 1) := by decide +kernel
theorem dX0_overBarIn_16 : decode cX0_overBarIn 16 = .ok (.getfield 9, 3) := by decide +kernel
theorem dX0_overBarIn_19 : decode cX0_overBarIn 19 = .ok (.getfield 67, 3) := by decide +kernel
theorem dX0_overBarIn_22 : decode cX0_overBarIn 22 = .ok (.iload_n 3, 1) := by decide +kernel
theorem dX0_overBarIn_23 : decode cX0_overBarIn 23 = .ok (.iaload, 1) := by decide +kernel
theorem dX0_overBarIn_24 : decode cX0_overBarIn 24 = .ok (.ifCond .ne 20, 3) := by decide +kernel
theorem dX0_overBarIn_27 : decode cX0_overBarIn 27 = .ok (.iload_n 3, 1) := by decide +kernel
theorem dX0_overBarIn_28 : decode cX0_overBarIn 28 = .ok (.iload_n 1, 1) := by decide +kernel
theorem dX0_overBarIn_29 : decode cX0_overBarIn 29 = .ok (.invokestatic 58, 3) := by decide +kernel
theorem dX0_overBarIn_32 : decode cX0_overBarIn 32 = .ok (.iconst 1, 1) := by decide +kernel
theorem dX0_overBarIn_33 : decode cX0_overBarIn 33 = .ok (.if_icmp .ne 7, 3) := by decide +kernel
theorem dX0_overBarIn_36 : decode cX0_overBarIn 36 = .ok (.iconst 1, 1) := by decide +kernel
theorem dX0_overBarIn_37 : decode cX0_overBarIn 37 = .ok (.goto 23, 3) := by decide +kernel
theorem dX0_overBarIn_40 : decode cX0_overBarIn 40 = .ok (.iconst 0, 1) := by decide +kernel
theorem dX0_overBarIn_41 : decode cX0_overBarIn 41 = .ok (.goto 19, 3) := by decide +kernel
theorem dX0_overBarIn_44 : decode cX0_overBarIn 44 = .ok (.aload_n 0, 1) := by decide +kernel
theorem dX0_overBarIn_45 : decode cX0_overBarIn 45 = .ok (.getfield 9, 3) := by decide +kernel
theorem dX0_overBarIn_48 : decode cX0_overBarIn 48 = .ok (.iload_n 3, 1) := by decide +kernel
theorem dX0_overBarIn_49 : decode cX0_overBarIn 49 = .ok (.iload_n 1, 1) := by decide +kernel
theorem dX0_overBarIn_50 : decode cX0_overBarIn 50 = .ok (.aload_n 0, 1) := by decide +kernel
theorem dX0_overBarIn_51 : decode cX0_overBarIn 51 = .ok (.getfield 9, 3) := by decide +kernel
theorem dX0_overBarIn_54 : decode cX0_overBarIn 54 = .ok (.getfield 70, 3) := by decide +kernel
theorem dX0_overBarIn_57 : decode cX0_overBarIn 57 = .ok (.invokevirtual 73, 3) := by decide +kernel
theorem dX0_overBarIn_60 : decode cX0_overBarIn 60 = .ok (.istore 4, 2) := by decide +kernel
theorem dX0_overBarIn_62 : decode cX0_overBarIn 62 = .ok (.iload 4, 2) := by decide +kernel
theorem dX0_overBarIn_64 : decode cX0_overBarIn 64 = .ok (.ifCond .eq 9, 3) := by decide +kernel
theorem dX0_overBarIn_67 : decode cX0_overBarIn 67 = .ok (.iload_n 2, 1) := by decide +kernel
theorem dX0_overBarIn_68 : decode cX0_overBarIn 68 = .ok (.iconst 1, 1) := by decide +kernel
theorem dX0_overBarIn_69 : decode cX0_overBarIn 69 = .ok (.iload_n 3, 1) := by decide +kernel
theorem dX0_overBarIn_70 : decode cX0_overBarIn 70 = .ok (.ishl, 1) := by decide +kernel
theorem dX0_overBarIn_71 : decode cX0_overBarIn 71 = .ok (.ior, 1) := by decide +kernel
theorem dX0_overBarIn_72 : decode cX0_overBarIn 72 = .ok (.istore_n 2, 1) := by decide +kernel
theorem dX0_overBarIn_73 : decode cX0_overBarIn 73 = .ok (.iinc 3 1, 3) := by decide +kernel
theorem dX0_overBarIn_76 : decode cX0_overBarIn 76 = .ok (.goto (-72), 3) := by decide +kernel
theorem dX0_overBarIn_79 : decode cX0_overBarIn 79 = .ok (.iload_n 2, 1) := by decide +kernel
theorem dX0_overBarIn_80 : decode cX0_overBarIn 80 = .ok (.ireturn, 1) := by decide +kernel
theorem dX1_init_0 : decode cX1_init 0 = .ok (.aload_n 0, 1) := by decide +kernel
theorem dX1_init_1 : decode cX1_init 1 = .ok (.invokespecial 3, 3) := by decide +kernel
theorem dX1_init_4 : decode cX1_init 4 = .ok (.aload_n 0, 1) := by decide +kernel
theorem dX1_init_5 : decode cX1_init 5 = .ok (.bipush 100, 2) := by decide +kernel
theorem dX1_init_7 : decode cX1_init 7 = .ok (.newarray .int, 2) := by decide +kernel
theorem dX1_init_9 : decode cX1_init 9 = .ok (.putfield 9, 3) := by decide +kernel
theorem dX1_init_12 : decode cX1_init 12 = .ok (.aload_n 0, 1) := by decide +kernel
theorem dX1_init_13 : decode cX1_init 13 = .ok (.bipush 10, 2) := by decide +kernel
theorem dX1_init_15 : decode cX1_init 15 = .ok (.newarray .int, 2) := by decide +kernel
theorem dX1_init_17 : decode cX1_init 17 = .ok (.putfield 15, 3) := by decide +kernel
theorem dX1_init_20 : decode cX1_init 20 = .ok (.aload_n 0, 1) := by decide +kernel
theorem dX1_init_21 : decode cX1_init 21 = .ok (.iconst 4, 1) := by decide +kernel
theorem dX1_init_22 : decode cX1_init 22 = .ok (.newarray .int, 2) := by decide +kernel
theorem dX1_init_24 : decode cX1_init 24 = .ok (.dup, 1) := by decide +kernel
theorem dX1_init_25 : decode cX1_init 25 = .ok (.iconst 0, 1) := by decide +kernel
theorem dX1_init_26 : decode cX1_init 26 = .ok (.iconst 1, 1) := by decide +kernel
theorem dX1_init_27 : decode cX1_init 27 = .ok (.iastore, 1) := by decide +kernel
theorem dX1_init_28 : decode cX1_init 28 = .ok (.dup, 1) := by decide +kernel
theorem dX1_init_29 : decode cX1_init 29 = .ok (.iconst 1, 1) := by decide +kernel
theorem dX1_init_30 : decode cX1_init 30 = .ok (.iconst 0, 1) := by decide +kernel
theorem dX1_init_31 : decode cX1_init 31 = .ok (.iastore, 1) := by decide +kernel
theorem dX1_init_32 : decode cX1_init 32 = .ok (.dup, 1) := by decide +kernel
theorem dX1_init_33 : decode cX1_init 33 = .ok (.iconst 2, 1) := by decide +kernel
theorem dX1_init_34 : decode cX1_init 34 = .ok (.iconst 0, 1) := by decide +kernel
theorem dX1_init_35 : decode cX1_init 35 = .ok (.iastore, 1) := by decide +kernel
theorem dX1_init_36 : decode cX1_init 36 = .ok (.dup, 1) := by decide +kernel
theorem dX1_init_37 : decode cX1_init 37 = .ok (.iconst 3, 1) := by decide +kernel
theorem dX1_init_38 : decode cX1_init 38 = .ok (.iconst 1, 1) := by decide +kernel
theorem dX1_init_39 : decode cX1_init 39 = .ok (.iastore, 1) := by decide +kernel
theorem dX1_init_40 : decode cX1_init 40 = .ok (.putfield 18, 3) := by decide +kernel
theorem dX1_init_43 : decode cX1_init 43 = .ok (.aload_n 0, 1) := by decide +kernel
theorem dX1_init_44 : decode cX1_init 44 = .ok (.iconst 4, 1) := by decide +kernel
theorem dX1_init_45 : decode cX1_init 45 = .ok (.putfield 21, 3) := by decide +kernel
theorem dX1_init_48 : decode cX1_init 48 = .ok (.aload_n 0, 1) := by decide +kernel
theorem dX1_init_49 : decode cX1_init 49 = .ok (.bipush 50, 2) := by decide +kernel
theorem dX1_init_51 : decode cX1_init 51 = .ok (.putfield 25, 3) := by decide +kernel
theorem dX1_init_54 : decode cX1_init 54 = .ok (.return_, 1) := by decide +kernel
theorem dX1_beginAnew_0 : decode cX1_beginAnew 0 = .ok (.aload_n 0, 1) := by decide +kernel
theorem dX1_beginAnew_1 : decode cX1_beginAnew 1 = .ok (.iload_n 1, 1) := by decide +kernel
theorem dX1_beginAnew_2 : decode cX1_beginAnew 2 = .ok (.putfield 21, 3) := by decide +kernel
theorem dX1_beginAnew_5 : decode cX1_beginAnew 5 = .ok (.iconst 0, 1) := by decide +kernel
theorem dX1_beginAnew_6 : decode cX1_beginAnew 6 = .ok (.istore_n 2, 1) := by decide +kernel
theorem dX1_beginAnew_7 : decode cX1_beginAnew 7 = .ok (.iload_n 2, 1) := by decide +kernel
theorem dX1_beginAnew_8 : decode cX1_beginAnew 8 = .ok (.aload_n 0, 1) := by decide +kernel
theorem dX1_beginAnew_9 : decode cX1_beginAnew 9 = .ok (.getfield 9, 3) := by decide +kernel
theorem dX1_beginAnew_12 : decode cX1_beginAnew 12 = .ok (.arraylength, 1) := by decide +kernel
theorem dX1_beginAnew_13 : decode cX1_beginAnew 13 = .ok (.if_icmp .ge 16, 3) := by decide +kernel
theorem dX1_beginAnew_16 : decode cX1_beginAnew 16 = .ok (.aload_n 0, 1) := by decide +kernel
theorem dX1_beginAnew_17 : decode cX1_beginAnew 17 = .ok (.getfield 9, 3) := by decide +kernel
theorem dX1_beginAnew_20 : decode cX1_beginAnew 20 = .ok (.iload_n 2, 1) := by decide +kernel
theorem dX1_beginAnew_21 : decode cX1_beginAnew 21 = .ok (.iconst 0, 1) := by decide +kernel
theorem dX1_beginAnew_22 : decode cX1_beginAnew 22 = .ok (.iastore, 1) := by decide +kernel
theorem dX1_beginAnew_23 : decode cX1_beginAnew 23 = .ok (.iinc 2 1, 3) := by decide +kernel
theorem dX1_beginAnew_26 : decode cX1_beginAnew 26 = .ok (.goto (-19), 3) := by decide +kernel
theorem dX1_beginAnew_29 : decode cX1_beginAnew 29 = .ok (.iconst 0, 1) := by decide +kernel
theorem dX1_beginAnew_30 : decode cX1_beginAnew 30 = .ok (.istore_n 2, 1) := by decide +kernel
theorem dX1_beginAnew_31 : decode cX1_beginAnew 31 = .ok (.iload_n 2, 1) := by decide +kernel
theorem dX1_beginAnew_32 : decode cX1_beginAnew 32 = .ok (.aload_n 0, 1) := by decide +kernel
theorem dX1_beginAnew_33 : decode cX1_beginAnew 33 = .ok (.getfield 15, 3) := by decide +kernel
theorem dX1_beginAnew_36 : decode cX1_beginAnew 36 = .ok (.arraylength, 1) := by decide +kernel
theorem dX1_beginAnew_37 : decode cX1_beginAnew 37 = .ok (.if_icmp .ge 16, 3) := by decide +kernel
theorem dX1_beginAnew_40 : decode cX1_beginAnew 40 = .ok (.aload_n 0, 1) := by decide +kernel
theorem dX1_beginAnew_41 : decode cX1_beginAnew 41 = .ok (.getfield 15, 3) := by decide +kernel
theorem dX1_beginAnew_44 : decode cX1_beginAnew 44 = .ok (.iload_n 2, 1) := by decide +kernel
theorem dX1_beginAnew_45 : decode cX1_beginAnew 45 = .ok (.iconst 0, 1) := by decide +kernel
theorem dX1_beginAnew_46 : decode cX1_beginAnew 46 = .ok (.iastore, 1) := by decide +kernel
theorem dX1_beginAnew_47 : decode cX1_beginAnew 47 = .ok (.iinc 2 1, 3) := by decide +kernel
theorem dX1_beginAnew_50 : decode cX1_beginAnew 50 = .ok (.goto (-19), 3) := by decide +kernel
theorem dX1_beginAnew_53 : decode cX1_beginAnew 53 = .ok (.return_, 1) := by decide +kernel
theorem dX1_states_0 : decode cX1_states 0 = .ok (.iconst 1, 1) := by decide +kernel
theorem dX1_states_1 : decode cX1_states 1 = .ok (.aload_n 0, 1) := by decide +kernel
theorem dX1_states_2 : decode cX1_states 2 = .ok (.getfield 21, 3) := by decide +kernel
theorem dX1_states_5 : decode cX1_states 5 = .ok (.ishl, 1) := by decide +kernel
theorem dX1_states_6 : decode cX1_states 6 = .ok (.ireturn, 1) := by decide +kernel
theorem dX1_has_0 : decode cX1_has 0 = .ok (.iload_n 1, 1) := by decide +kernel
theorem dX1_has_1 : decode cX1_has 1 = .ok (.ifCond .lt 15, 3) := by decide +kernel
theorem dX1_has_4 : decode cX1_has 4 = .ok (.iload_n 1, 1) := by decide +kernel
theorem dX1_has_5 : decode cX1_has 5 = .ok (.aload_n 0, 1) := by decide +kernel
theorem dX1_has_6 : decode cX1_has 6 = .ok (.getfield 21, 3) := by decide +kernel
theorem dX1_has_9 : decode cX1_has 9 = .ok (.if_icmp .ge 7, 3) := by decide +kernel
theorem dX1_has_12 : decode cX1_has 12 = .ok (.iconst 1, 1) := by decide +kernel
theorem dX1_has_13 : decode cX1_has 13 = .ok (.goto 4, 3) := by decide +kernel
theorem dX1_has_16 : decode cX1_has 16 = .ok (.iconst 0, 1) := by decide +kernel
theorem dX1_has_17 : decode cX1_has 17 = .ok (.ireturn, 1) := by decide +kernel
theorem dX1_mayJoin_0 : decode cX1_mayJoin 0 = .ok (.aload_n 0, 1) := by decide +kernel
theorem dX1_mayJoin_1 : decode cX1_mayJoin 1 = .ok (.iload_n 1, 1) := by decide +kernel
theorem dX1_mayJoin_2 : decode cX1_mayJoin 2 = .ok (.invokevirtual 28, 3) := by decide +kernel
theorem dX1_mayJoin_5 : decode cX1_mayJoin 5 = .ok (.ifCond .eq 20, 3) := by decide +kernel
theorem dX1_mayJoin_8 : decode cX1_mayJoin 8 = .ok (.aload_n 0, 1) := by decide +kernel
theorem dX1_mayJoin_9 : decode cX1_mayJoin 9 = .ok (.iload_n 2, 1) := by decide +kernel
theorem dX1_mayJoin_10 : decode cX1_mayJoin 10 = .ok (.invokevirtual 28, 3) := by decide +kernel
theorem dX1_mayJoin_13 : decode cX1_mayJoin 13 = .ok (.ifCond .eq 12, 3) := by decide +kernel
theorem dX1_mayJoin_16 : decode cX1_mayJoin 16 = .ok (.iload_n 1, 1) := by decide +kernel
theorem dX1_mayJoin_17 : decode cX1_mayJoin 17 = .ok (.iload_n 2, 1) := by decide +kernel
theorem dX1_mayJoin_18 : decode cX1_mayJoin 18 = .ok (.if_icmp .eq 7, 3) := by decide +kernel
theorem dX1_mayJoin_21 : decode cX1_mayJoin 21 = .ok (.iconst 1, 1) := by decide +kernel
theorem dX1_mayJoin_22 : decode cX1_mayJoin 22 = .ok (.goto 4, 3) := by decide +kernel
theorem dX1_mayJoin_25 : decode cX1_mayJoin 25 = .ok (.iconst 0, 1) := by decide +kernel
theorem dX1_mayJoin_26 : decode cX1_mayJoin 26 = .ok (.ireturn, 1) := by decide +kernel
theorem dX1_isState_0 : decode cX1_isState 0 = .ok (.iload_n 1, 1) := by decide +kernel
theorem dX1_isState_1 : decode cX1_isState 1 = .ok (.ifCond .lt 15, 3) := by decide +kernel
theorem dX1_isState_4 : decode cX1_isState 4 = .ok (.iload_n 1, 1) := by decide +kernel
theorem dX1_isState_5 : decode cX1_isState 5 = .ok (.aload_n 0, 1) := by decide +kernel
theorem dX1_isState_6 : decode cX1_isState 6 = .ok (.invokevirtual 32, 3) := by decide +kernel
theorem dX1_isState_9 : decode cX1_isState 9 = .ok (.if_icmp .ge 7, 3) := by decide +kernel
theorem dX1_isState_12 : decode cX1_isState 12 = .ok (.iconst 1, 1) := by decide +kernel
theorem dX1_isState_13 : decode cX1_isState 13 = .ok (.goto 4, 3) := by decide +kernel
theorem dX1_isState_16 : decode cX1_isState 16 = .ok (.iconst 0, 1) := by decide +kernel
theorem dX1_isState_17 : decode cX1_isState 17 = .ok (.ireturn, 1) := by decide +kernel
theorem dX1_weightOf_0 : decode cX1_weightOf 0 = .ok (.aload_n 0, 1) := by decide +kernel
theorem dX1_weightOf_1 : decode cX1_weightOf 1 = .ok (.getfield 9, 3) := by decide +kernel
theorem dX1_weightOf_4 : decode cX1_weightOf 4 = .ok (.iload_n 1, 1) := by decide +kernel
theorem dX1_weightOf_5 : decode cX1_weightOf 5 = .ok (.bipush 10, 2) := by decide +kernel
theorem dX1_weightOf_7 : decode cX1_weightOf 7 = .ok (.imul, 1) := by decide +kernel
theorem dX1_weightOf_8 : decode cX1_weightOf 8 = .ok (.iload_n 2, 1) := by decide +kernel
theorem dX1_weightOf_9 : decode cX1_weightOf 9 = .ok (.iadd, 1) := by decide +kernel
theorem dX1_weightOf_10 : decode cX1_weightOf 10 = .ok (.iaload, 1) := by decide +kernel
theorem dX1_weightOf_11 : decode cX1_weightOf 11 = .ok (.ireturn, 1) := by decide +kernel
theorem dX1_setWeight_0 : decode cX1_setWeight 0 = .ok (.iload_n 3, 1) := by decide +kernel
theorem dX1_setWeight_1 : decode cX1_setWeight 1 = .ok (.aload_n 0, 1) := by decide +kernel
theorem dX1_setWeight_2 : decode cX1_setWeight 2 = .ok (.iload_n 1, 1) := by decide +kernel
theorem dX1_setWeight_3 : decode cX1_setWeight 3 = .ok (.iload_n 2, 1) := by decide +kernel
theorem dX1_setWeight_4 : decode cX1_setWeight 4 = .ok (.invokevirtual 36, 3) := by decide +kernel
theorem dX1_setWeight_7 : decode cX1_setWeight 7 = .ok (.isub, 1) := by decide +kernel
theorem dX1_setWeight_8 : decode cX1_setWeight 8 = .ok (.istore 4, 2) := by decide +kernel
theorem dX1_setWeight_10 : decode cX1_setWeight 10 = .ok (.aload_n 0, 1) := by decide +kernel
theorem dX1_setWeight_11 : decode cX1_setWeight 11 = .ok (.getfield 15, 3) := by decide +kernel
theorem dX1_setWeight_14 : decode cX1_setWeight 14 = .ok (.iload_n 1, 1) := by decide +kernel
theorem dX1_setWeight_15 : decode cX1_setWeight 15 = .ok (.dup2, 1) := by decide +kernel
theorem dX1_setWeight_16 : decode cX1_setWeight 16 = .ok (.iaload, 1) := by decide +kernel
theorem dX1_setWeight_17 : decode cX1_setWeight 17 = .ok (.iload 4, 2) := by decide +kernel
theorem dX1_setWeight_19 : decode cX1_setWeight 19 = .ok (.iadd, 1) := by decide +kernel
theorem dX1_setWeight_20 : decode cX1_setWeight 20 = .ok (.iastore, 1) := by decide +kernel
theorem dX1_setWeight_21 : decode cX1_setWeight 21 = .ok (.aload_n 0, 1) := by decide +kernel
theorem dX1_setWeight_22 : decode cX1_setWeight 22 = .ok (.getfield 15, 3) := by decide +kernel
theorem dX1_setWeight_25 : decode cX1_setWeight 25 = .ok (.iload_n 2, 1) := by decide +kernel
theorem dX1_setWeight_26 : decode cX1_setWeight 26 = .ok (.dup2, 1) := by decide +kernel
theorem dX1_setWeight_27 : decode cX1_setWeight 27 = .ok (.iaload, 1) := by decide +kernel
theorem dX1_setWeight_28 : decode cX1_setWeight 28 = .ok (.iload 4, 2) := by decide +kernel
theorem dX1_setWeight_30 : decode cX1_setWeight 30 = .ok (.iadd, 1) := by decide +kernel
theorem dX1_setWeight_31 : decode cX1_setWeight 31 = .ok (.iastore, 1) := by decide +kernel
theorem dX1_setWeight_32 : decode cX1_setWeight 32 = .ok (.aload_n 0, 1) := by decide +kernel
theorem dX1_setWeight_33 : decode cX1_setWeight 33 = .ok (.getfield 9, 3) := by decide +kernel
theorem dX1_setWeight_36 : decode cX1_setWeight 36 = .ok (.iload_n 1, 1) := by decide +kernel
theorem dX1_setWeight_37 : decode cX1_setWeight 37 = .ok (.bipush 10, 2) := by decide +kernel
theorem dX1_setWeight_39 : decode cX1_setWeight 39 = .ok (.imul, 1) := by decide +kernel
theorem dX1_setWeight_40 : decode cX1_setWeight 40 = .ok (.iload_n 2, 1) := by decide +kernel
theorem dX1_setWeight_41 : decode cX1_setWeight 41 = .ok (.iadd, 1) := by decide +kernel
theorem dX1_setWeight_42 : decode cX1_setWeight 42 = .ok (.iload_n 3, 1) := by decide +kernel
theorem dX1_setWeight_43 : decode cX1_setWeight 43 = .ok (.iastore, 1) := by decide +kernel
theorem dX1_setWeight_44 : decode cX1_setWeight 44 = .ok (.aload_n 0, 1) := by decide +kernel
theorem dX1_setWeight_45 : decode cX1_setWeight 45 = .ok (.getfield 9, 3) := by decide +kernel
theorem dX1_setWeight_48 : decode cX1_setWeight 48 = .ok (.iload_n 2, 1) := by decide +kernel
theorem dX1_setWeight_49 : decode cX1_setWeight 49 = .ok (.bipush 10, 2) := by decide +kernel
theorem dX1_setWeight_51 : decode cX1_setWeight 51 = .ok (.imul, 1) := by decide +kernel
theorem dX1_setWeight_52 : decode cX1_setWeight 52 = .ok (.iload_n 1, 1) := by decide +kernel
theorem dX1_setWeight_53 : decode cX1_setWeight 53 = .ok (.iadd, 1) := by decide +kernel
theorem dX1_setWeight_54 : decode cX1_setWeight 54 = .ok (.iload_n 3, 1) := by decide +kernel
theorem dX1_setWeight_55 : decode cX1_setWeight 55 = .ok (.iastore, 1) := by decide +kernel
theorem dX1_setWeight_56 : decode cX1_setWeight 56 = .ok (.return_, 1) := by decide +kernel
theorem dX1_payOf_0 : decode cX1_payOf 0 = .ok (.aload_n 0, 1) := by decide +kernel
theorem dX1_payOf_1 : decode cX1_payOf 1 = .ok (.getfield 18, 3) := by decide +kernel
theorem dX1_payOf_4 : decode cX1_payOf 4 = .ok (.iconst 2, 1) := by decide +kernel
theorem dX1_payOf_5 : decode cX1_payOf 5 = .ok (.iload_n 1, 1) := by decide +kernel
theorem dX1_payOf_6 : decode cX1_payOf 6 = .ok (.imul, 1) := by decide +kernel
theorem dX1_payOf_7 : decode cX1_payOf 7 = .ok (.iload_n 2, 1) := by decide +kernel
theorem dX1_payOf_8 : decode cX1_payOf 8 = .ok (.iadd, 1) := by decide +kernel
theorem dX1_payOf_9 : decode cX1_payOf 9 = .ok (.iaload, 1) := by decide +kernel
theorem dX1_payOf_10 : decode cX1_payOf 10 = .ok (.ireturn, 1) := by decide +kernel
theorem dX1_setPay_0 : decode cX1_setPay 0 = .ok (.aload_n 0, 1) := by decide +kernel
theorem dX1_setPay_1 : decode cX1_setPay 1 = .ok (.getfield 18, 3) := by decide +kernel
theorem dX1_setPay_4 : decode cX1_setPay 4 = .ok (.iconst 2, 1) := by decide +kernel
theorem dX1_setPay_5 : decode cX1_setPay 5 = .ok (.iload_n 1, 1) := by decide +kernel
theorem dX1_setPay_6 : decode cX1_setPay 6 = .ok (.imul, 1) := by decide +kernel
theorem dX1_setPay_7 : decode cX1_setPay 7 = .ok (.iload_n 2, 1) := by decide +kernel
theorem dX1_setPay_8 : decode cX1_setPay 8 = .ok (.iadd, 1) := by decide +kernel
theorem dX1_setPay_9 : decode cX1_setPay 9 = .ok (.iload_n 3, 1) := by decide +kernel
theorem dX1_setPay_10 : decode cX1_setPay 10 = .ok (.iastore, 1) := by decide +kernel
theorem dX1_setPay_11 : decode cX1_setPay 11 = .ok (.return_, 1) := by decide +kernel
theorem dX1_howManyLines_0 : decode cX1_howManyLines 0 = .ok (.iconst 0, 1) := by decide +kernel
theorem dX1_howManyLines_1 : decode cX1_howManyLines 1 = .ok (.istore_n 1, 1) := by decide +kernel
theorem dX1_howManyLines_2 : decode cX1_howManyLines 2 = .ok (.iconst 0, 1) := by decide +kernel
theorem dX1_howManyLines_3 : decode cX1_howManyLines 3 = .ok (.istore_n 2, 1) := by decide +kernel
theorem dX1_howManyLines_4 : decode cX1_howManyLines 4 = .ok (.iload_n 2, 1) := by decide +kernel
theorem dX1_howManyLines_5 : decode cX1_howManyLines 5 = .ok (.aload_n 0, 1) := by decide +kernel
theorem dX1_howManyLines_6 : decode cX1_howManyLines 6 = .ok (.getfield 21, 3) := by decide +kernel
theorem dX1_howManyLines_9 : decode cX1_howManyLines 9 = .ok (.if_icmp .ge 39, 3) := by decide +kernel
theorem dX1_howManyLines_12 : decode cX1_howManyLines 12 = .ok (.iload_n 2, 1) := by decide +kernel
theorem dX1_howManyLines_13 : decode cX1_howManyLines 13 = .ok (.iconst 1, 1) := by decide +kernel
theorem dX1_howManyLines_14 : decode cX1_howManyLines 14 = .ok (.iadd, 1) := by decide +kernel
theorem dX1_howManyLines_15 : decode cX1_howManyLines 15 = .ok (.istore_n 3, 1) := by decide +kernel
theorem dX1_howManyLines_16 : decode cX1_howManyLines 16 = .ok (.iload_n 3, 1) := by decide +kernel
theorem dX1_howManyLines_17 : decode cX1_howManyLines 17 = .ok (.aload_n 0, 1) := by decide +kernel
theorem dX1_howManyLines_18 : decode cX1_howManyLines 18 = .ok (.getfield 21, 3) := by decide +kernel
theorem dX1_howManyLines_21 : decode cX1_howManyLines 21 = .ok (.if_icmp .ge 21, 3) := by decide +kernel
theorem dX1_howManyLines_24 : decode cX1_howManyLines 24 = .ok (.aload_n 0, 1) := by decide +kernel
theorem dX1_howManyLines_25 : decode cX1_howManyLines 25 = .ok (.iload_n 2, 1) := by decide +kernel
theorem dX1_howManyLines_26 : decode cX1_howManyLines 26 = .ok (.iload_n 3, 1) := by decide +kernel
theorem dX1_howManyLines_27 : decode cX1_howManyLines 27 = .ok (.invokevirtual 36, 3) := by decide +kernel
theorem dX1_howManyLines_30 : decode cX1_howManyLines 30 = .ok (.ifCond .eq 6, 3) := by decide +kernel
theorem dX1_howManyLines_33 : decode cX1_howManyLines 33 = .ok (.iinc 1 1, 3) := by decide +kernel
theorem dX1_howManyLines_36 : decode cX1_howManyLines 36 = .ok (.iinc 3 1, 3) := by decide +kernel
theorem dX1_howManyLines_39 : decode cX1_howManyLines 39 = .ok (.goto (-23), 3) := by decide +kernel
theorem dX1_howManyLines_42 : decode cX1_howManyLines 42 = .ok (.iinc 2 1, 3) := by decide +kernel
theorem dX1_howManyLines_45 : decode cX1_howManyLines 45 = .ok (.goto (-41), 3) := by decide +kernel
theorem dX1_howManyLines_48 : decode cX1_howManyLines 48 = .ok (.iload_n 1, 1) := by decide +kernel
theorem dX1_howManyLines_49 : decode cX1_howManyLines 49 = .ok (.ireturn, 1) := by decide +kernel
theorem dX1_weightsInto_0 : decode cX1_weightsInto 0 = .ok (.iconst 0, 1) := by decide +kernel
theorem dX1_weightsInto_1 : decode cX1_weightsInto 1 = .ok (.istore_n 3, 1) := by decide +kernel
theorem dX1_weightsInto_2 : decode cX1_weightsInto 2 = .ok (.iconst 0, 1) := by decide +kernel
theorem dX1_weightsInto_3 : decode cX1_weightsInto 3 = .ok (.istore 4, 2) := by decide +kernel
theorem dX1_weightsInto_5 : decode cX1_weightsInto 5 = .ok (.iload 4, 2) := by decide +kernel
theorem dX1_weightsInto_7 : decode cX1_weightsInto 7 = .ok (.aload_n 0, 1) := by decide +kernel
theorem dX1_weightsInto_8 : decode cX1_weightsInto 8 = .ok (.getfield 21, 3) := by decide +kernel
theorem dX1_weightsInto_11 : decode cX1_weightsInto 11 = .ok (.if_icmp .ge 31, 3) := by decide +kernel
theorem dX1_weightsInto_14 : decode cX1_weightsInto 14 = .ok (.iload_n 3, 1) := by decide +kernel
theorem dX1_weightsInto_15 : decode cX1_weightsInto 15 = .ok (.aload_n 0, 1) := by decide +kernel
theorem dX1_weightsInto_16 : decode cX1_weightsInto 16 = .ok (.getfield 9, 3) := by decide +kernel
theorem dX1_weightsInto_19 : decode cX1_weightsInto 19 = .ok (.iload_n 1, 1) := by decide +kernel
theorem dX1_weightsInto_20 : decode cX1_weightsInto 20 = .ok (.bipush 10, 2) := by decide +kernel
theorem dX1_weightsInto_22 : decode cX1_weightsInto 22 = .ok (.imul, 1) := by decide +kernel
theorem dX1_weightsInto_23 : decode cX1_weightsInto 23 = .ok (.iload 4, 2) := by decide +kernel
theorem dX1_weightsInto_25 : decode cX1_weightsInto 25 = .ok (.iadd, 1) := by decide +kernel
theorem dX1_weightsInto_26 : decode cX1_weightsInto 26 = .ok (.iaload, 1) := by decide +kernel
theorem dX1_weightsInto_27 : decode cX1_weightsInto 27 = .ok (.iload_n 2, 1) := by decide +kernel
theorem dX1_weightsInto_28 : decode cX1_weightsInto 28 = .ok (.iload 4, 2) := by decide +kernel
theorem dX1_weightsInto_30 : decode cX1_weightsInto 30 = .ok (.ishr, 1) := by decide +kernel
theorem dX1_weightsInto_31 : decode cX1_weightsInto 31 = .ok (.iconst 1, 1) := by decide +kernel
theorem dX1_weightsInto_32 : decode cX1_weightsInto 32 = .ok (.iand, 1) := by decide +kernel
theorem dX1_weightsInto_33 : decode cX1_weightsInto 33 = .ok (.imul, 1) := by decide +kernel
theorem dX1_weightsInto_34 : decode cX1_weightsInto 34 = .ok (.iadd, 1) := by decide +kernel
theorem dX1_weightsInto_35 : decode cX1_weightsInto 35 = .ok (.istore_n 3, 1) := by decide +kernel
theorem dX1_weightsInto_36 : decode cX1_weightsInto 36 = .ok (.iinc 4 1, 3) := by decide +kernel
theorem dX1_weightsInto_39 : decode cX1_weightsInto 39 = .ok (.goto (-34), 3) := by decide +kernel
theorem dX1_weightsInto_42 : decode cX1_weightsInto 42 = .ok (.iload_n 3, 1) := by decide +kernel
theorem dX1_weightsInto_43 : decode cX1_weightsInto 43 = .ok (.ireturn, 1) := by decide +kernel
theorem dX1_wageOf_0 : decode cX1_wageOf 0 = .ok (.aload_n 0, 1) := by decide +kernel
theorem dX1_wageOf_1 : decode cX1_wageOf 1 = .ok (.iload_n 1, 1) := by decide +kernel
theorem dX1_wageOf_2 : decode cX1_wageOf 2 = .ok (.iload_n 3, 1) := by decide +kernel
theorem dX1_wageOf_3 : decode cX1_wageOf 3 = .ok (.invokevirtual 40, 3) := by decide +kernel
theorem dX1_wageOf_6 : decode cX1_wageOf 6 = .ok (.istore 4, 2) := by decide +kernel
theorem dX1_wageOf_8 : decode cX1_wageOf 8 = .ok (.aload_n 0, 1) := by decide +kernel
theorem dX1_wageOf_9 : decode cX1_wageOf 9 = .ok (.getfield 15, 3) := by decide +kernel
theorem dX1_wageOf_12 : decode cX1_wageOf 12 = .ok (.iload_n 1, 1) := by decide +kernel
theorem dX1_wageOf_13 : decode cX1_wageOf 13 = .ok (.iaload, 1) := by decide +kernel
theorem dX1_wageOf_14 : decode cX1_wageOf 14 = .ok (.iload 4, 2) := by decide +kernel
theorem dX1_wageOf_16 : decode cX1_wageOf 16 = .ok (.isub, 1) := by decide +kernel
theorem dX1_wageOf_17 : decode cX1_wageOf 17 = .ok (.istore 5, 2) := by decide +kernel
theorem dX1_wageOf_19 : decode cX1_wageOf 19 = .ok (.iload 4, 2) := by decide +kernel
theorem dX1_wageOf_21 : decode cX1_wageOf 21 = .ok (.aload_n 0, 1) := by decide +kernel
theorem dX1_wageOf_22 : decode cX1_wageOf 22 = .ok (.iload_n 2, 1) := by decide +kernel
theorem dX1_wageOf_23 : decode cX1_wageOf 23 = .ok (.iconst 1, 1) := by decide +kernel
theorem dX1_wageOf_24 : decode cX1_wageOf 24 = .ok (.invokevirtual 43, 3) := by decide +kernel
theorem dX1_wageOf_27 : decode cX1_wageOf 27 = .ok (.imul, 1) := by decide +kernel
theorem dX1_wageOf_28 : decode cX1_wageOf 28 = .ok (.iload 5, 2) := by decide +kernel
theorem dX1_wageOf_30 : decode cX1_wageOf 30 = .ok (.aload_n 0, 1) := by decide +kernel
theorem dX1_wageOf_31 : decode cX1_wageOf 31 = .ok (.iload_n 2, 1) := by decide +kernel
theorem dX1_wageOf_32 : decode cX1_wageOf 32 = .ok (.iconst 0, 1) := by decide +kernel
theorem dX1_wageOf_33 : decode cX1_wageOf 33 = .ok (.invokevirtual 43, 3) := by decide +kernel
theorem dX1_wageOf_36 : decode cX1_wageOf 36 = .ok (.imul, 1) := by decide +kernel
theorem dX1_wageOf_37 : decode cX1_wageOf 37 = .ok (.iadd, 1) := by decide +kernel
theorem dX1_wageOf_38 : decode cX1_wageOf 38 = .ok (.ireturn, 1) := by decide +kernel
theorem dX1_reaches_0 : decode cX1_reaches 0 = .ok (.bipush 100, 2) := by decide +kernel
theorem dX1_reaches_2 : decode cX1_reaches 2 = .ok (.aload_n 0, 1) := by decide +kernel
theorem dX1_reaches_3 : decode cX1_reaches 3 = .ok (.iload_n 1, 1) := by decide +kernel
theorem dX1_reaches_4 : decode cX1_reaches 4 = .ok (.iload_n 2, 1) := by decide +kernel
theorem dX1_reaches_5 : decode cX1_reaches 5 = .ok (.invokevirtual 40, 3) := by decide +kernel
theorem dX1_reaches_8 : decode cX1_reaches 8 = .ok (.imul, 1) := by decide +kernel
theorem dX1_reaches_9 : decode cX1_reaches 9 = .ok (.iload_n 3, 1) := by decide +kernel
theorem dX1_reaches_10 : decode cX1_reaches 10 = .ok (.aload_n 0, 1) := by decide +kernel
theorem dX1_reaches_11 : decode cX1_reaches 11 = .ok (.getfield 15, 3) := by decide +kernel
theorem dX1_reaches_14 : decode cX1_reaches 14 = .ok (.iload_n 1, 1) := by decide +kernel
theorem dX1_reaches_15 : decode cX1_reaches 15 = .ok (.iaload, 1) := by decide +kernel
theorem dX1_reaches_16 : decode cX1_reaches 16 = .ok (.imul, 1) := by decide +kernel
theorem dX1_reaches_17 : decode cX1_reaches 17 = .ok (.if_icmp .lt 7, 3) := by decide +kernel
theorem dX1_reaches_20 : decode cX1_reaches 20 = .ok (.iconst 1, 1) := by decide +kernel
theorem dX1_reaches_21 : decode cX1_reaches 21 = .ok (.goto 4, 3) := by decide +kernel
theorem dX1_reaches_24 : decode cX1_reaches 24 = .ok (.iconst 0, 1) := by decide +kernel
theorem dX1_reaches_25 : decode cX1_reaches 25 = .ok (.ireturn, 1) := by decide +kernel
theorem dX1_gainOfZero_0 : decode cX1_gainOfZero 0 = .ok (.aload_n 0, 1) := by decide +kernel
theorem dX1_gainOfZero_1 : decode cX1_gainOfZero 1 = .ok (.iconst 0, 1) := by decide +kernel
theorem dX1_gainOfZero_2 : decode cX1_gainOfZero 2 = .ok (.iconst 0, 1) := by decide +kernel
theorem dX1_gainOfZero_3 : decode cX1_gainOfZero 3 = .ok (.invokevirtual 43, 3) := by decide +kernel
theorem dX1_gainOfZero_6 : decode cX1_gainOfZero 6 = .ok (.aload_n 0, 1) := by decide +kernel
theorem dX1_gainOfZero_7 : decode cX1_gainOfZero 7 = .ok (.iconst 1, 1) := by decide +kernel
theorem dX1_gainOfZero_8 : decode cX1_gainOfZero 8 = .ok (.iconst 0, 1) := by decide +kernel
theorem dX1_gainOfZero_9 : decode cX1_gainOfZero 9 = .ok (.invokevirtual 43, 3) := by decide +kernel
theorem dX1_gainOfZero_12 : decode cX1_gainOfZero 12 = .ok (.isub, 1) := by decide +kernel
theorem dX1_gainOfZero_13 : decode cX1_gainOfZero 13 = .ok (.ireturn, 1) := by decide +kernel
theorem dX1_gainOfOne_0 : decode cX1_gainOfOne 0 = .ok (.aload_n 0, 1) := by decide +kernel
theorem dX1_gainOfOne_1 : decode cX1_gainOfOne 1 = .ok (.iconst 1, 1) := by decide +kernel
theorem dX1_gainOfOne_2 : decode cX1_gainOfOne 2 = .ok (.iconst 1, 1) := by decide +kernel
theorem dX1_gainOfOne_3 : decode cX1_gainOfOne 3 = .ok (.invokevirtual 43, 3) := by decide +kernel
theorem dX1_gainOfOne_6 : decode cX1_gainOfOne 6 = .ok (.aload_n 0, 1) := by decide +kernel
theorem dX1_gainOfOne_7 : decode cX1_gainOfOne 7 = .ok (.iconst 0, 1) := by decide +kernel
theorem dX1_gainOfOne_8 : decode cX1_gainOfOne 8 = .ok (.iconst 1, 1) := by decide +kernel
theorem dX1_gainOfOne_9 : decode cX1_gainOfOne 9 = .ok (.invokevirtual 43, 3) := by decide +kernel
theorem dX1_gainOfOne_12 : decode cX1_gainOfOne 12 = .ok (.isub, 1) := by decide +kernel
theorem dX1_gainOfOne_13 : decode cX1_gainOfOne 13 = .ok (.ireturn, 1) := by decide +kernel
theorem dX1_riseOf_0 : decode cX1_riseOf 0 = .ok (.iconst 0, 1) := by decide +kernel
theorem dX1_riseOf_1 : decode cX1_riseOf 1 = .ok (.istore_n 2, 1) := by decide +kernel
theorem dX1_riseOf_2 : decode cX1_riseOf 2 = .ok (.iconst 0, 1) := by decide +kernel
theorem dX1_riseOf_3 : decode cX1_riseOf 3 = .ok (.istore_n 3, 1) := by decide +kernel
theorem dX1_riseOf_4 : decode cX1_riseOf 4 = .ok (.iload_n 3, 1) := by decide +kernel
theorem dX1_riseOf_5 : decode cX1_riseOf 5 = .ok (.aload_n 0, 1) := by decide +kernel
theorem dX1_riseOf_6 : decode cX1_riseOf 6 = .ok (.getfield 21, 3) := by decide +kernel
theorem dX1_riseOf_9 : decode cX1_riseOf 9 = .ok (.if_icmp .ge 79, 3) := by decide +kernel
theorem dX1_riseOf_12 : decode cX1_riseOf 12 = .ok (.iload_n 3, 1) := by decide +kernel
theorem dX1_riseOf_13 : decode cX1_riseOf 13 = .ok (.iload_n 1, 1) := by decide +kernel
theorem dX1_riseOf_14 : decode cX1_riseOf 14 = .ok (.invokestatic 46, 3) := by decide +kernel
theorem dX1_riseOf_17 : decode cX1_riseOf 17 = .ok (.istore 4, 2) := by decide +kernel
theorem dX1_riseOf_19 : decode cX1_riseOf 19 = .ok (.iload 4, 2) := by decide +kernel
theorem dX1_riseOf_21 : decode cX1_riseOf 21 = .ok (.iconst 1, 1) := by decide +kernel
theorem dX1_riseOf_22 : decode cX1_riseOf 22 = .ok (.if_icmp .ne 10, 3) := by decide +kernel
theorem dX1_riseOf_25 : decode cX1_riseOf 25 = .ok (.aload_n 0, 1) := by decide +kernel
theorem dX1_riseOf_26 : decode cX1_riseOf 26 = .ok (.invokevirtual 49, 3) := by decide +kernel
theorem dX1_riseOf_29 : decode cX1_riseOf 29 = .ok (.goto 7, 3) := by decide +kernel
theorem dX1_riseOf_32 : decode cX1_riseOf 32 = .ok (.aload_n 0, 1) := by decide +kernel
theorem dX1_riseOf_33 : decode cX1_riseOf 33 = .ok (.invokevirtual 52, 3) := by decide +kernel
theorem dX1_riseOf_36 : decode cX1_riseOf 36 = .ok (.istore 5, 2) := by decide +kernel
theorem dX1_riseOf_38 : decode cX1_riseOf 38 = .ok (.iload_n 3, 1) := by decide +kernel
theorem dX1_riseOf_39 : decode cX1_riseOf 39 = .ok (.iconst 1, 1) := by decide +kernel
theorem dX1_riseOf_40 : decode cX1_riseOf 40 = .ok (.iadd, 1) := by decide +kernel
theorem dX1_riseOf_41 : decode cX1_riseOf 41 = .ok (.istore 6, 2) := by decide +kernel
theorem dX1_riseOf_43 : decode cX1_riseOf 43 = .ok (.iload 6, 2) := by decide +kernel
theorem dX1_riseOf_45 : decode cX1_riseOf 45 = .ok (.aload_n 0, 1) := by decide +kernel
theorem dX1_riseOf_46 : decode cX1_riseOf 46 = .ok (.getfield 21, 3) := by decide +kernel
theorem dX1_riseOf_49 : decode cX1_riseOf 49 = .ok (.if_icmp .ge 33, 3) := by decide +kernel
theorem dX1_riseOf_52 : decode cX1_riseOf 52 = .ok (.iload 6, 2) := by decide +kernel
theorem dX1_riseOf_54 : decode cX1_riseOf 54 = .ok (.iload_n 1, 1) := by decide +kernel
theorem dX1_riseOf_55 : decode cX1_riseOf 55 = .ok (.invokestatic 46, 3) := by decide +kernel
theorem dX1_riseOf_58 : decode cX1_riseOf 58 = .ok (.iload 4, 2) := by decide +kernel
theorem dX1_riseOf_60 : decode cX1_riseOf 60 = .ok (.if_icmp .ne 16, 3) := by decide +kernel
theorem dX1_riseOf_63 : decode cX1_riseOf 63 = .ok (.iload_n 2, 1) := by decide +kernel
theorem dX1_riseOf_64 : decode cX1_riseOf 64 = .ok (.aload_n 0, 1) := by decide +kernel
theorem dX1_riseOf_65 : decode cX1_riseOf 65 = .ok (.iload_n 3, 1) := by decide +kernel
theorem dX1_riseOf_66 : decode cX1_riseOf 66 = .ok (.iload 6, 2) := by decide +kernel
theorem dX1_riseOf_68 : decode cX1_riseOf 68 = .ok (.invokevirtual 36, 3) := by decide +kernel
theorem dX1_riseOf_71 : decode cX1_riseOf 71 = .ok (.iload 5, 2) := by decide +kernel
theorem dX1_riseOf_73 : decode cX1_riseOf 73 = .ok (.imul, 1) := by decide +kernel
theorem dX1_riseOf_74 : decode cX1_riseOf 74 = .ok (.iadd, 1) := by decide +kernel
theorem dX1_riseOf_75 : decode cX1_riseOf 75 = .ok (.istore_n 2, 1) := by decide +kernel
theorem dX1_riseOf_76 : decode cX1_riseOf 76 = .ok (.iinc 6 1, 3) := by decide +kernel
theorem dX1_riseOf_79 : decode cX1_riseOf 79 = .ok (.goto (-36), 3) := by decide +kernel
theorem dX1_riseOf_82 : decode cX1_riseOf 82 = .ok (.iinc 3 1, 3) := by decide +kernel
theorem dX1_riseOf_85 : decode cX1_riseOf 85 = .ok (.goto (-81), 3) := by decide +kernel
theorem dX1_riseOf_88 : decode cX1_riseOf 88 = .ok (.iload_n 2, 1) := by decide +kernel
theorem dX1_riseOf_89 : decode cX1_riseOf 89 = .ok (.ireturn, 1) := by decide +kernel
theorem dJ6_bitCount_0f7a4_0 : decode cJ6_bitCount_0f7a4 0 = .ok (.iload_n 0, 1) := by decide +kernel
theorem dJ6_bitCount_0f7a4_1 : decode cJ6_bitCount_0f7a4 1 = .ok (.iload_n 0, 1) := by decide +kernel
theorem dJ6_bitCount_0f7a4_2 : decode cJ6_bitCount_0f7a4 2 = .ok (.iconst 1, 1) := by decide +kernel
theorem dJ6_bitCount_0f7a4_3 : decode cJ6_bitCount_0f7a4 3 = .ok (.iushr, 1) := by decide +kernel
theorem dJ6_bitCount_0f7a4_4 : decode cJ6_bitCount_0f7a4 4 = .ok (.ldc_w 265, 3) := by decide +kernel
theorem dJ6_bitCount_0f7a4_7 : decode cJ6_bitCount_0f7a4 7 = .ok (.iand, 1) := by decide +kernel
theorem dJ6_bitCount_0f7a4_8 : decode cJ6_bitCount_0f7a4 8 = .ok (.isub, 1) := by decide +kernel
theorem dJ6_bitCount_0f7a4_9 : decode cJ6_bitCount_0f7a4 9 = .ok (.istore_n 0, 1) := by decide +kernel
theorem dJ6_bitCount_0f7a4_10 : decode cJ6_bitCount_0f7a4 10 = .ok (.iload_n 0, 1) := by decide +kernel
theorem dJ6_bitCount_0f7a4_11 : decode cJ6_bitCount_0f7a4 11 = .ok (.ldc_w 266, 3) := by decide +kernel
theorem dJ6_bitCount_0f7a4_14 : decode cJ6_bitCount_0f7a4 14 = .ok (.iand, 1) := by decide +kernel
theorem dJ6_bitCount_0f7a4_15 : decode cJ6_bitCount_0f7a4 15 = .ok (.iload_n 0, 1) := by decide +kernel
theorem dJ6_bitCount_0f7a4_16 : decode cJ6_bitCount_0f7a4 16 = .ok (.iconst 2, 1) := by decide +kernel
theorem dJ6_bitCount_0f7a4_17 : decode cJ6_bitCount_0f7a4 17 = .ok (.iushr, 1) := by decide +kernel
theorem dJ6_bitCount_0f7a4_18 : decode cJ6_bitCount_0f7a4 18 = .ok (.ldc_w 266, 3) := by decide +kernel
theorem dJ6_bitCount_0f7a4_21 : decode cJ6_bitCount_0f7a4 21 = .ok (.iand, 1) := by decide +kernel
theorem dJ6_bitCount_0f7a4_22 : decode cJ6_bitCount_0f7a4 22 = .ok (.iadd, 1) := by decide +kernel
theorem dJ6_bitCount_0f7a4_23 : decode cJ6_bitCount_0f7a4 23 = .ok (.istore_n 0, 1) := by decide +kernel
theorem dJ6_bitCount_0f7a4_24 : decode cJ6_bitCount_0f7a4 24 = .ok (.iload_n 0, 1) := by decide +kernel
theorem dJ6_bitCount_0f7a4_25 : decode cJ6_bitCount_0f7a4 25 = .ok (.iload_n 0, 1) := by decide +kernel
theorem dJ6_bitCount_0f7a4_26 : decode cJ6_bitCount_0f7a4 26 = .ok (.iconst 4, 1) := by decide +kernel
theorem dJ6_bitCount_0f7a4_27 : decode cJ6_bitCount_0f7a4 27 = .ok (.iushr, 1) := by decide +kernel
theorem dJ6_bitCount_0f7a4_28 : decode cJ6_bitCount_0f7a4 28 = .ok (.iadd, 1) := by decide +kernel
theorem dJ6_bitCount_0f7a4_29 : decode cJ6_bitCount_0f7a4 29 = .ok (.ldc_w 267, 3) := by decide +kernel
theorem dJ6_bitCount_0f7a4_32 : decode cJ6_bitCount_0f7a4 32 = .ok (.iand, 1) := by decide +kernel
theorem dJ6_bitCount_0f7a4_33 : decode cJ6_bitCount_0f7a4 33 = .ok (.istore_n 0, 1) := by decide +kernel
theorem dJ6_bitCount_0f7a4_34 : decode cJ6_bitCount_0f7a4 34 = .ok (.iload_n 0, 1) := by decide +kernel
theorem dJ6_bitCount_0f7a4_35 : decode cJ6_bitCount_0f7a4 35 = .ok (.iload_n 0, 1) := by decide +kernel
theorem dJ6_bitCount_0f7a4_36 : decode cJ6_bitCount_0f7a4 36 = .ok (.bipush 8, 2) := by decide +kernel
theorem dJ6_bitCount_0f7a4_38 : decode cJ6_bitCount_0f7a4 38 = .ok (.iushr, 1) := by decide +kernel
theorem dJ6_bitCount_0f7a4_39 : decode cJ6_bitCount_0f7a4 39 = .ok (.iadd, 1) := by decide +kernel
theorem dJ6_bitCount_0f7a4_40 : decode cJ6_bitCount_0f7a4 40 = .ok (.istore_n 0, 1) := by decide +kernel
theorem dJ6_bitCount_0f7a4_41 : decode cJ6_bitCount_0f7a4 41 = .ok (.iload_n 0, 1) := by decide +kernel
theorem dJ6_bitCount_0f7a4_42 : decode cJ6_bitCount_0f7a4 42 = .ok (.iload_n 0, 1) := by decide +kernel
theorem dJ6_bitCount_0f7a4_43 : decode cJ6_bitCount_0f7a4 43 = .ok (.bipush 16, 2) := by decide +kernel
theorem dJ6_bitCount_0f7a4_45 : decode cJ6_bitCount_0f7a4 45 = .ok (.iushr, 1) := by decide +kernel
theorem dJ6_bitCount_0f7a4_46 : decode cJ6_bitCount_0f7a4 46 = .ok (.iadd, 1) := by decide +kernel
theorem dJ6_bitCount_0f7a4_47 : decode cJ6_bitCount_0f7a4 47 = .ok (.istore_n 0, 1) := by decide +kernel
theorem dJ6_bitCount_0f7a4_48 : decode cJ6_bitCount_0f7a4 48 = .ok (.iload_n 0, 1) := by decide +kernel
theorem dJ6_bitCount_0f7a4_49 : decode cJ6_bitCount_0f7a4 49 = .ok (.bipush 63, 2) := by decide +kernel
theorem dJ6_bitCount_0f7a4_51 : decode cJ6_bitCount_0f7a4 51 = .ok (.iand, 1) := by decide +kernel
theorem dJ6_bitCount_0f7a4_52 : decode cJ6_bitCount_0f7a4 52 = .ok (.ireturn, 1) := by decide +kernel

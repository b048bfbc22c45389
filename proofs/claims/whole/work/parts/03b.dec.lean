theorem dX2_init_0 : decode cX2_init 0 = .ok (.aload_n 0, 1) := by decide +kernel
theorem dX2_init_1 : decode cX2_init 1 = .ok (.invokespecial 3, 3) := by decide +kernel
theorem dX2_init_4 : decode cX2_init 4 = .ok (.aload_n 0, 1) := by decide +kernel
theorem dX2_init_5 : decode cX2_init 5 = .ok (.aload_n 1, 1) := by decide +kernel
theorem dX2_init_6 : decode cX2_init 6 = .ok (.putfield 9, 3) := by decide +kernel
theorem dX2_init_9 : decode cX2_init 9 = .ok (.aload_n 0, 1) := by decide +kernel
theorem dX2_init_10 : decode cX2_init 10 = .ok (.aload_n 2, 1) := by decide +kernel
theorem dX2_init_11 : decode cX2_init 11 = .ok (.putfield 15, 3) := by decide +kernel
theorem dX2_init_14 : decode cX2_init 14 = .ok (.aload_n 0, 1) := by decide +kernel
theorem dX2_init_15 : decode cX2_init 15 = .ok (.sipush 1024, 3) := by decide +kernel
theorem dX2_init_18 : decode cX2_init 18 = .ok (.newarray .int, 2) := by decide +kernel
theorem dX2_init_20 : decode cX2_init 20 = .ok (.putfield 19, 3) := by decide +kernel
theorem dX2_init_23 : decode cX2_init 23 = .ok (.aload_n 0, 1) := by decide +kernel
theorem dX2_init_24 : decode cX2_init 24 = .ok (.sipush 1024, 3) := by decide +kernel
theorem dX2_init_27 : decode cX2_init 27 = .ok (.newarray .int, 2) := by decide +kernel
theorem dX2_init_29 : decode cX2_init 29 = .ok (.putfield 23, 3) := by decide +kernel
theorem dX2_init_32 : decode cX2_init 32 = .ok (.aload_n 0, 1) := by decide +kernel
theorem dX2_init_33 : decode cX2_init 33 = .ok (.sipush 1024, 3) := by decide +kernel
theorem dX2_init_36 : decode cX2_init 36 = .ok (.newarray .int, 2) := by decide +kernel
theorem dX2_init_38 : decode cX2_init 38 = .ok (.putfield 26, 3) := by decide +kernel
theorem dX2_init_41 : decode cX2_init 41 = .ok (.aload_n 0, 1) := by decide +kernel
theorem dX2_init_42 : decode cX2_init 42 = .ok (.iconst 0, 1) := by decide +kernel
theorem dX2_init_43 : decode cX2_init 43 = .ok (.putfield 29, 3) := by decide +kernel
theorem dX2_init_46 : decode cX2_init 46 = .ok (.aload_n 0, 1) := by decide +kernel
theorem dX2_init_47 : decode cX2_init 47 = .ok (.iconst 0, 1) := by decide +kernel
theorem dX2_init_48 : decode cX2_init 48 = .ok (.putfield 33, 3) := by decide +kernel
theorem dX2_init_51 : decode cX2_init 51 = .ok (.aload_n 0, 1) := by decide +kernel
theorem dX2_init_52 : decode cX2_init 52 = .ok (.iconst 0, 1) := by decide +kernel
theorem dX2_init_53 : decode cX2_init 53 = .ok (.putfield 37, 3) := by decide +kernel
theorem dX2_init_56 : decode cX2_init 56 = .ok (.aload_n 0, 1) := by decide +kernel
theorem dX2_init_57 : decode cX2_init 57 = .ok (.iconst 0, 1) := by decide +kernel
theorem dX2_init_58 : decode cX2_init 58 = .ok (.putfield 40, 3) := by decide +kernel
theorem dX2_init_61 : decode cX2_init 61 = .ok (.return_, 1) := by decide +kernel
theorem dX2_forget_0 : decode cX2_forget 0 = .ok (.aload_n 0, 1) := by decide +kernel
theorem dX2_forget_1 : decode cX2_forget 1 = .ok (.iconst 0, 1) := by decide +kernel
theorem dX2_forget_2 : decode cX2_forget 2 = .ok (.putfield 29, 3) := by decide +kernel
theorem dX2_forget_5 : decode cX2_forget 5 = .ok (.return_, 1) := by decide +kernel
theorem dX2_goThrough_0 : decode cX2_goThrough 0 = .ok (.aload_n 0, 1) := by decide +kernel
theorem dX2_goThrough_1 : decode cX2_goThrough 1 = .ok (.getfield 29, 3) := by decide +kernel
theorem dX2_goThrough_4 : decode cX2_goThrough 4 = .ok (.ifCond .eq 30, 3) := by decide +kernel
theorem dX2_goThrough_7 : decode cX2_goThrough 7 = .ok (.aload_n 0, 1) := by decide +kernel
theorem dX2_goThrough_8 : decode cX2_goThrough 8 = .ok (.getfield 33, 3) := by decide +kernel
theorem dX2_goThrough_11 : decode cX2_goThrough 11 = .ok (.iload_n 1, 1) := by decide +kernel
theorem dX2_goThrough_12 : decode cX2_goThrough 12 = .ok (.if_icmp .ne 22, 3) := by decide +kernel
theorem dX2_goThrough_15 : decode cX2_goThrough 15 = .ok (.aload_n 0, 1) := by decide +kernel
theorem dX2_goThrough_16 : decode cX2_goThrough 16 = .ok (.getfield 37, 3) := by decide +kernel
theorem dX2_goThrough_19 : decode cX2_goThrough 19 = .ok (.iload_n 2, 1) := by decide +kernel
theorem dX2_goThrough_20 : decode cX2_goThrough 20 = .ok (.if_icmp .ne 14, 3) := by decide +kernel
theorem dX2_goThrough_23 : decode cX2_goThrough 23 = .ok (.aload_n 0, 1) := by decide +kernel
theorem dX2_goThrough_24 : decode cX2_goThrough 24 = .ok (.getfield 40, 3) := by decide +kernel
theorem dX2_goThrough_27 : decode cX2_goThrough 27 = .ok (.iload_n 3, 1) := by decide +kernel
theorem dX2_goThrough_28 : decode cX2_goThrough 28 = .ok (.iload_n 2, 1) := by decide +kernel
theorem dX2_goThrough_29 : decode cX2_goThrough 29 = .ok (.iand, 1) := by decide +kernel
theorem dX2_goThrough_30 : decode cX2_goThrough 30 = .ok (.if_icmp .ne 4, 3) := by decide +kernel
theorem dX2_goThrough_33 : decode cX2_goThrough 33 = .ok (.return_, 1) := by decide +kernel
theorem dX2_goThrough_34 : decode cX2_goThrough 34 = .ok (.aload_n 0, 1) := by decide +kernel
theorem dX2_goThrough_35 : decode cX2_goThrough 35 = .ok (.iload_n 1, 1) := by decide +kernel
theorem dX2_goThrough_36 : decode cX2_goThrough 36 = .ok (.putfield 33, 3) := by decide +kernel
theorem dX2_goThrough_39 : decode cX2_goThrough 39 = .ok (.aload_n 0, 1) := by decide +kernel
theorem dX2_goThrough_40 : decode cX2_goThrough 40 = .ok (.iload_n 2, 1) := by decide +kernel
theorem dX2_goThrough_41 : decode cX2_goThrough 41 = .ok (.putfield 37, 3) := by decide +kernel
theorem dX2_goThrough_44 : decode cX2_goThrough 44 = .ok (.aload_n 0, 1) := by decide +kernel
theorem dX2_goThrough_45 : decode cX2_goThrough 45 = .ok (.iload_n 3, 1) := by decide +kernel
theorem dX2_goThrough_46 : decode cX2_goThrough 46 = .ok (.iload_n 2, 1) := by decide +kernel
theorem dX2_goThrough_47 : decode cX2_goThrough 47 = .ok (.iand, 1) := by decide +kernel
theorem dX2_goThrough_48 : decode cX2_goThrough 48 = .ok (.putfield 40, 3) := by decide +kernel
theorem dX2_goThrough_51 : decode cX2_goThrough 51 = .ok (.iconst 0, 1) := by decide +kernel
theorem dX2_goThrough_52 : decode cX2_goThrough 52 = .ok (.istore 4, 2) := by decide +kernel
theorem dX2_goThrough_54 : decode cX2_goThrough 54 = .ok (.iload 4, 2) := by decide +kernel
theorem dX2_goThrough_56 : decode cX2_goThrough 56 = .ok (.aload_n 0, 1) := by decide +kernel
theorem dX2_goThrough_57 : decode cX2_goThrough 57 = .ok (.getfield 9, 3) := by decide +kernel
theorem dX2_goThrough_60 : decode cX2_goThrough 60 = .ok (.invokevirtual 43, 3) := by decide +kernel
theorem dX2_goThrough_63 : decode cX2_goThrough 63 = .ok (.if_icmp .ge 63, 3) := by decide +kernel
theorem dX2_goThrough_66 : decode cX2_goThrough 66 = .ok (.aload_n 0, 1) := by decide +kernel
theorem dX2_goThrough_67 : decode cX2_goThrough 67 = .ok (.getfield 19, 3) := by decide +kernel
theorem dX2_goThrough_70 : decode cX2_goThrough 70 = .ok (.iload 4, 2) := by decide +kernel
theorem dX2_goThrough_72 : decode cX2_goThrough 72 = .ok (.aload_n 0, 1) := by decide +kernel
theorem dX2_goThrough_73 : decode cX2_goThrough 73 = .ok (.iload 4, 2) := by decide +kernel
theorem dX2_goThrough_75 : decode cX2_goThrough 75 = .ok (.invokevirtual 49, 3) := by decide +kernel
theorem dX2_goThrough_78 : decode cX2_goThrough 78 = .ok (.ifCond .eq 23, 3) := by decide +kernel
theorem dX2_goThrough_81 : decode cX2_goThrough 81 = .ok (.aload_n 0, 1) := by decide +kernel
theorem dX2_goThrough_82 : decode cX2_goThrough 82 = .ok (.getfield 15, 3) := by decide +kernel
theorem dX2_goThrough_85 : decode cX2_goThrough 85 = .ok (.aload_n 0, 1) := by decide +kernel
theorem dX2_goThrough_86 : decode cX2_goThrough 86 = .ok (.getfield 33, 3) := by decide +kernel
theorem dX2_goThrough_89 : decode cX2_goThrough 89 = .ok (.aload_n 0, 1) := by decide +kernel
theorem dX2_goThrough_90 : decode cX2_goThrough 90 = .ok (.getfield 37, 3) := by decide +kernel
theorem dX2_goThrough_93 : decode cX2_goThrough 93 = .ok (.iload 4, 2) := by decide +kernel
theorem dX2_goThrough_95 : decode cX2_goThrough 95 = .ok (.invokevirtual 53, 3) := by decide +kernel
theorem dX2_goThrough_98 : decode cX2_goThrough 98 = .ok (.goto 5, 3) := by decide +kernel
theorem dX2_goThrough_101 : decode cX2_goThrough 101 = .ok (.iload 4, 2) := by decide +kernel
theorem dX2_goThrough_103 : decode cX2_goThrough 103 = .ok (.iastore, 1) := by decide +kernel
theorem dX2_goThrough_104 : decode cX2_goThrough 104 = .ok (.aload_n 0, 1) := by decide +kernel
theorem dX2_goThrough_105 : decode cX2_goThrough 105 = .ok (.getfield 23, 3) := by decide +kernel
theorem dX2_goThrough_108 : decode cX2_goThrough 108 = .ok (.iload 4, 2) := by decide +kernel
theorem dX2_goThrough_110 : decode cX2_goThrough 110 = .ok (.iconst (-1), 1) := by decide +kernel
theorem dX2_goThrough_111 : decode cX2_goThrough 111 = .ok (.iastore, 1) := by decide +kernel
theorem dX2_goThrough_112 : decode cX2_goThrough 112 = .ok (.aload_n 0, 1) := by decide +kernel
theorem dX2_goThrough_113 : decode cX2_goThrough 113 = .ok (.getfield 26, 3) := by decide +kernel
theorem dX2_goThrough_116 : decode cX2_goThrough 116 = .ok (.iload 4, 2) := by decide +kernel
theorem dX2_goThrough_118 : decode cX2_goThrough 118 = .ok (.iconst 0, 1) := by decide +kernel
theorem dX2_goThrough_119 : decode cX2_goThrough 119 = .ok (.iastore, 1) := by decide +kernel
theorem dX2_goThrough_120 : decode cX2_goThrough 120 = .ok (.iinc 4 1, 3) := by decide +kernel
theorem dX2_goThrough_123 : decode cX2_goThrough 123 = .ok (.goto (-69), 3) := by decide +kernel
theorem dX2_goThrough_126 : decode cX2_goThrough 126 = .ok (.iconst 0, 1) := by decide +kernel
theorem dX2_goThrough_127 : decode cX2_goThrough 127 = .ok (.istore 4, 2) := by decide +kernel
theorem dX2_goThrough_129 : decode cX2_goThrough 129 = .ok (.iload 4, 2) := by decide +kernel
theorem dX2_goThrough_131 : decode cX2_goThrough 131 = .ok (.aload_n 0, 1) := by decide +kernel
theorem dX2_goThrough_132 : decode cX2_goThrough 132 = .ok (.getfield 9, 3) := by decide +kernel
theorem dX2_goThrough_135 : decode cX2_goThrough 135 = .ok (.invokevirtual 43, 3) := by decide +kernel
theorem dX2_goThrough_138 : decode cX2_goThrough 138 = .ok (.if_icmp .ge 24, 3) := by decide +kernel
theorem dX2_goThrough_141 : decode cX2_goThrough 141 = .ok (.aload_n 0, 1) := by decide +kernel
theorem dX2_goThrough_142 : decode cX2_goThrough 142 = .ok (.iload 4, 2) := by decide +kernel
theorem dX2_goThrough_144 : decode cX2_goThrough 144 = .ok (.invokevirtual 49, 3) := by decide +kernel
theorem dX2_goThrough_147 : decode cX2_goThrough 147 = .ok (.ifCond .eq 9, 3) := by decide +kernel
theorem dX2_goThrough_150 : decode cX2_goThrough 150 = .ok (.aload_n 0, 1) := by decide +kernel
theorem dX2_goThrough_151 : decode cX2_goThrough 151 = .ok (.iload 4, 2) := by decide +kernel
theorem dX2_goThrough_153 : decode cX2_goThrough 153 = .ok (.invokevirtual 59, 3) := by decide +kernel
theorem dX2_goThrough_156 : decode cX2_goThrough 156 = .ok (.iinc 4 1, 3) := by decide +kernel
theorem dX2_goThrough_159 : decode cX2_goThrough 159 = .ok (.goto (-30), 3) := by decide +kernel
theorem dX2_goThrough_162 : decode cX2_goThrough 162 = .ok (.aload_n 0, 1) := by decide +kernel
theorem dX2_goThrough_163 : decode cX2_goThrough 163 = .ok (.iconst 1, 1) := by decide +kernel
theorem dX2_goThrough_164 : decode cX2_goThrough 164 = .ok (.putfield 29, 3) := by decide +kernel
theorem dX2_goThrough_167 : decode cX2_goThrough 167 = .ok (.return_, 1) := by decide +kernel
theorem dX2_isBeginning_0 : decode cX2_isBeginning 0 = .ok (.iload_n 1, 1) := by decide +kernel
theorem dX2_isBeginning_1 : decode cX2_isBeginning 1 = .ok (.aload_n 0, 1) := by decide +kernel
theorem dX2_isBeginning_2 : decode cX2_isBeginning 2 = .ok (.getfield 37, 3) := by decide +kernel
theorem dX2_isBeginning_5 : decode cX2_isBeginning 5 = .ok (.iand, 1) := by decide +kernel
theorem dX2_isBeginning_6 : decode cX2_isBeginning 6 = .ok (.aload_n 0, 1) := by decide +kernel
theorem dX2_isBeginning_7 : decode cX2_isBeginning 7 = .ok (.getfield 40, 3) := by decide +kernel
theorem dX2_isBeginning_10 : decode cX2_isBeginning 10 = .ok (.if_icmp .ne 7, 3) := by decide +kernel
theorem dX2_isBeginning_13 : decode cX2_isBeginning 13 = .ok (.iconst 1, 1) := by decide +kernel
theorem dX2_isBeginning_14 : decode cX2_isBeginning 14 = .ok (.goto 4, 3) := by decide +kernel
theorem dX2_isBeginning_17 : decode cX2_isBeginning 17 = .ok (.iconst 0, 1) := by decide +kernel
theorem dX2_isBeginning_18 : decode cX2_isBeginning 18 = .ok (.ireturn, 1) := by decide +kernel
theorem dX2_follow_0 : decode cX2_follow 0 = .ok (.iload_n 1, 1) := by decide +kernel
theorem dX2_follow_1 : decode cX2_follow 1 = .ok (.istore_n 2, 1) := by decide +kernel
theorem dX2_follow_2 : decode cX2_follow 2 = .ok (.iconst 0, 1) := by decide +kernel
theorem dX2_follow_3 : decode cX2_follow 3 = .ok (.istore_n 3, 1) := by decide +kernel
theorem dX2_follow_4 : decode cX2_follow 4 = .ok (.iload_n 3, 1) := by decide +kernel
theorem dX2_follow_5 : decode cX2_follow 5 = .ok (.sipush 1024, 3) := by decide +kernel
theorem dX2_follow_8 : decode cX2_follow 8 = .ok (.if_icmp .ge 34, 3) := by decide +kernel
theorem dX2_follow_11 : decode cX2_follow 11 = .ok (.aload_n 0, 1) := by decide +kernel
theorem dX2_follow_12 : decode cX2_follow 12 = .ok (.getfield 23, 3) := by decide +kernel
theorem dX2_follow_15 : decode cX2_follow 15 = .ok (.iload_n 2, 1) := by decide +kernel
theorem dX2_follow_16 : decode cX2_follow 16 = .ok (.iaload, 1) := by decide +kernel
theorem dX2_follow_17 : decode cX2_follow 17 = .ok (.iconst (-1), 1) := by decide +kernel
theorem dX2_follow_18 : decode cX2_follow 18 = .ok (.if_icmp .ne 24, 3) := by decide +kernel
theorem dX2_follow_21 : decode cX2_follow 21 = .ok (.aload_n 0, 1) := by decide +kernel
theorem dX2_follow_22 : decode cX2_follow 22 = .ok (.getfield 23, 3) := by decide +kernel
theorem dX2_follow_25 : decode cX2_follow 25 = .ok (.iload_n 2, 1) := by decide +kernel
theorem dX2_follow_26 : decode cX2_follow 26 = .ok (.bipush (-2), 2) := by decide +kernel
theorem dX2_follow_28 : decode cX2_follow 28 = .ok (.iastore, 1) := by decide +kernel
theorem dX2_follow_29 : decode cX2_follow 29 = .ok (.aload_n 0, 1) := by decide +kernel
theorem dX2_follow_30 : decode cX2_follow 30 = .ok (.getfield 19, 3) := by decide +kernel
theorem dX2_follow_33 : decode cX2_follow 33 = .ok (.iload_n 2, 1) := by decide +kernel
theorem dX2_follow_34 : decode cX2_follow 34 = .ok (.iaload, 1) := by decide +kernel
theorem dX2_follow_35 : decode cX2_follow 35 = .ok (.istore_n 2, 1) := by decide +kernel
theorem dX2_follow_36 : decode cX2_follow 36 = .ok (.iinc 3 1, 3) := by decide +kernel
theorem dX2_follow_39 : decode cX2_follow 39 = .ok (.goto (-35), 3) := by decide +kernel
theorem dX2_follow_42 : decode cX2_follow 42 = .ok (.aload_n 0, 1) := by decide +kernel
theorem dX2_follow_43 : decode cX2_follow 43 = .ok (.getfield 23, 3) := by decide +kernel
theorem dX2_follow_46 : decode cX2_follow 46 = .ok (.iload_n 2, 1) := by decide +kernel
theorem dX2_follow_47 : decode cX2_follow 47 = .ok (.iaload, 1) := by decide +kernel
theorem dX2_follow_48 : decode cX2_follow 48 = .ok (.bipush (-2), 2) := by decide +kernel
theorem dX2_follow_50 : decode cX2_follow 50 = .ok (.if_icmp .ne 8, 3) := by decide +kernel
theorem dX2_follow_53 : decode cX2_follow 53 = .ok (.aload_n 0, 1) := by decide +kernel
theorem dX2_follow_54 : decode cX2_follow 54 = .ok (.iload_n 2, 1) := by decide +kernel
theorem dX2_follow_55 : decode cX2_follow 55 = .ok (.invokevirtual 63, 3) := by decide +kernel
theorem dX2_follow_58 : decode cX2_follow 58 = .ok (.aload_n 0, 1) := by decide +kernel
theorem dX2_follow_59 : decode cX2_follow 59 = .ok (.iload_n 1, 1) := by decide +kernel
theorem dX2_follow_60 : decode cX2_follow 60 = .ok (.invokevirtual 66, 3) := by decide +kernel
theorem dX2_follow_63 : decode cX2_follow 63 = .ok (.return_, 1) := by decide +kernel
theorem dX2_closeRing_0 : decode cX2_closeRing 0 = .ok (.iload_n 1, 1) := by decide +kernel
theorem dX2_closeRing_1 : decode cX2_closeRing 1 = .ok (.istore_n 2, 1) := by decide +kernel
theorem dX2_closeRing_2 : decode cX2_closeRing 2 = .ok (.aload_n 0, 1) := by decide +kernel
theorem dX2_closeRing_3 : decode cX2_closeRing 3 = .ok (.getfield 19, 3) := by decide +kernel
theorem dX2_closeRing_6 : decode cX2_closeRing 6 = .ok (.iload_n 1, 1) := by decide +kernel
theorem dX2_closeRing_7 : decode cX2_closeRing 7 = .ok (.iaload, 1) := by decide +kernel
theorem dX2_closeRing_8 : decode cX2_closeRing 8 = .ok (.istore_n 3, 1) := by decide +kernel
theorem dX2_closeRing_9 : decode cX2_closeRing 9 = .ok (.iconst 0, 1) := by decide +kernel
theorem dX2_closeRing_10 : decode cX2_closeRing 10 = .ok (.istore 4, 2) := by decide +kernel
theorem dX2_closeRing_12 : decode cX2_closeRing 12 = .ok (.iload 4, 2) := by decide +kernel
theorem dX2_closeRing_14 : decode cX2_closeRing 14 = .ok (.sipush 1024, 3) := by decide +kernel
theorem dX2_closeRing_17 : decode cX2_closeRing 17 = .ok (.if_icmp .ge 27, 3) := by decide +kernel
theorem dX2_closeRing_20 : decode cX2_closeRing 20 = .ok (.iload_n 3, 1) := by decide +kernel
theorem dX2_closeRing_21 : decode cX2_closeRing 21 = .ok (.iload_n 1, 1) := by decide +kernel
theorem dX2_closeRing_22 : decode cX2_closeRing 22 = .ok (.if_icmp .eq 22, 3) := by decide +kernel
theorem dX2_closeRing_25 : decode cX2_closeRing 25 = .ok (.iload_n 2, 1) := by decide +kernel
theorem dX2_closeRing_26 : decode cX2_closeRing 26 = .ok (.iload_n 3, 1) := by decide +kernel
theorem dX2_closeRing_27 : decode cX2_closeRing 27 = .ok (.invokestatic 69, 3) := by decide +kernel
theorem dX2_closeRing_30 : decode cX2_closeRing 30 = .ok (.istore_n 2, 1) := by decide +kernel
theorem dX2_closeRing_31 : decode cX2_closeRing 31 = .ok (.aload_n 0, 1) := by decide +kernel
theorem dX2_closeRing_32 : decode cX2_closeRing 32 = .ok (.getfield 19, 3) := by decide +kernel
theorem dX2_closeRing_35 : decode cX2_closeRing 35 = .ok (.iload_n 3, 1) := by decide +kernel
theorem dX2_closeRing_36 : decode cX2_closeRing 36 = .ok (.iaload, 1) := by decide +kernel
theorem dX2_closeRing_37 : decode cX2_closeRing 37 = .ok (.istore_n 3, 1) := by decide +kernel
theorem dX2_closeRing_38 : decode cX2_closeRing 38 = .ok (.iinc 4 1, 3) := by decide +kernel
theorem dX2_closeRing_41 : decode cX2_closeRing 41 = .ok (.goto (-29), 3) := by decide +kernel
theorem dX2_closeRing_44 : decode cX2_closeRing 44 = .ok (.iconst 0, 1) := by decide +kernel
theorem dX2_closeRing_45 : decode cX2_closeRing 45 = .ok (.istore 4, 2) := by decide +kernel
theorem dX2_closeRing_47 : decode cX2_closeRing 47 = .ok (.iload 4, 2) := by decide +kernel
theorem dX2_closeRing_49 : decode cX2_closeRing 49 = .ok (.sipush 1024, 3) := by decide +kernel
theorem dX2_closeRing_52 : decode cX2_closeRing 52 = .ok (.if_icmp .ge 34, 3) := by decide +kernel
theorem dX2_closeRing_55 : decode cX2_closeRing 55 = .ok (.aload_n 0, 1) := by decide +kernel
theorem dX2_closeRing_56 : decode cX2_closeRing 56 = .ok (.getfield 23, 3) := by decide +kernel
theorem dX2_closeRing_59 : decode cX2_closeRing 59 = .ok (.iload_n 3, 1) := by decide +kernel
theorem dX2_closeRing_60 : decode cX2_closeRing 60 = .ok (.iaload, 1) := by decide +kernel
theorem dX2_closeRing_61 : decode cX2_closeRing 61 = .ok (.bipush (-2), 2) := by decide +kernel
theorem dX2_closeRing_63 : decode cX2_closeRing 63 = .ok (.if_icmp .ne 23, 3) := by decide +kernel
theorem dX2_closeRing_66 : decode cX2_closeRing 66 = .ok (.aload_n 0, 1) := by decide +kernel
theorem dX2_closeRing_67 : decode cX2_closeRing 67 = .ok (.getfield 23, 3) := by decide +kernel
theorem dX2_closeRing_70 : decode cX2_closeRing 70 = .ok (.iload_n 3, 1) := by decide +kernel
theorem dX2_closeRing_71 : decode cX2_closeRing 71 = .ok (.iload_n 2, 1) := by decide +kernel
theorem dX2_closeRing_72 : decode cX2_closeRing 72 = .ok (.iastore, 1) := by decide +kernel
theorem dX2_closeRing_73 : decode cX2_closeRing 73 = .ok (.aload_n 0, 1) := by decide +kernel
theorem dX2_closeRing_74 : decode cX2_closeRing 74 = .ok (.getfield 19, 3) := by decide +kernel
theorem dX2_closeRing_77 : decode cX2_closeRing 77 = .ok (.iload_n 3, 1) := by decide +kernel
theorem dX2_closeRing_78 : decode cX2_closeRing 78 = .ok (.iaload, 1) := by decide +kernel
theorem dX2_closeRing_79 : decode cX2_closeRing 79 = .ok (.istore_n 3, 1) := by decide +kernel
theorem dX2_closeRing_80 : decode cX2_closeRing 80 = .ok (.iinc 4 1, 3) := by decide +kernel
theorem dX2_closeRing_83 : decode cX2_closeRing 83 = .ok (.goto (-36), 3) := by decide +kernel
theorem dX2_closeRing_86 : decode cX2_closeRing 86 = .ok (.return_, 1) := by decide +kernel
theorem dX2_closeTail_0 : decode cX2_closeTail 0 = .ok (.iconst 0, 1) := by decide +kernel
theorem dX2_closeTail_1 : decode cX2_closeTail 1 = .ok (.istore_n 2, 1) := by decide +kernel
theorem dX2_closeTail_2 : decode cX2_closeTail 2 = .ok (.iload_n 1, 1) := by decide +kernel
theorem dX2_closeTail_3 : decode cX2_closeTail 3 = .ok (.istore_n 3, 1) := by decide +kernel
theorem dX2_closeTail_4 : decode cX2_closeTail 4 = .ok (.iload_n 2, 1) := by decide +kernel
theorem dX2_closeTail_5 : decode cX2_closeTail 5 = .ok (.sipush 1024, 3) := by decide +kernel
theorem dX2_closeTail_8 : decode cX2_closeTail 8 = .ok (.if_icmp .ge 27, 3) := by decide +kernel
theorem dX2_closeTail_11 : decode cX2_closeTail 11 = .ok (.aload_n 0, 1) := by decide +kernel
theorem dX2_closeTail_12 : decode cX2_closeTail 12 = .ok (.getfield 23, 3) := by decide +kernel
theorem dX2_closeTail_15 : decode cX2_closeTail 15 = .ok (.iload_n 3, 1) := by decide +kernel
theorem dX2_closeTail_16 : decode cX2_closeTail 16 = .ok (.iaload, 1) := by decide +kernel
theorem dX2_closeTail_17 : decode cX2_closeTail 17 = .ok (.bipush (-2), 2) := by decide +kernel
theorem dX2_closeTail_19 : decode cX2_closeTail 19 = .ok (.if_icmp .ne 16, 3) := by decide +kernel
theorem dX2_closeTail_22 : decode cX2_closeTail 22 = .ok (.aload_n 0, 1) := by decide +kernel
theorem dX2_closeTail_23 : decode cX2_closeTail 23 = .ok (.getfield 19, 3) := by decide +kernel
theorem dX2_closeTail_26 : decode cX2_closeTail 26 = .ok (.iload_n 3, 1) := by decide +kernel
theorem dX2_closeTail_27 : decode cX2_closeTail 27 = .ok (.iaload, 1) := by decide +kernel
theorem dX2_closeTail_28 : decode cX2_closeTail 28 = .ok (.istore_n 3, 1) := by decide +kernel
theorem dX2_closeTail_29 : decode cX2_closeTail 29 = .ok (.iinc 2 1, 3) := by decide +kernel
theorem dX2_closeTail_32 : decode cX2_closeTail 32 = .ok (.goto (-28), 3) := by decide +kernel
theorem dX2_closeTail_35 : decode cX2_closeTail 35 = .ok (.aload_n 0, 1) := by decide +kernel
theorem dX2_closeTail_36 : decode cX2_closeTail 36 = .ok (.getfield 23, 3) := by decide +kernel
theorem dX2_closeTail_39 : decode cX2_closeTail 39 = .ok (.iload_n 3, 1) := by decide +kernel
theorem dX2_closeTail_40 : decode cX2_closeTail 40 = .ok (.iaload, 1) := by decide +kernel
theorem dX2_closeTail_41 : decode cX2_closeTail 41 = .ok (.istore 4, 2) := by decide +kernel
theorem dX2_closeTail_43 : decode cX2_closeTail 43 = .ok (.aload_n 0, 1) := by decide +kernel
theorem dX2_closeTail_44 : decode cX2_closeTail 44 = .ok (.getfield 26, 3) := by decide +kernel
theorem dX2_closeTail_47 : decode cX2_closeTail 47 = .ok (.iload_n 3, 1) := by decide +kernel
theorem dX2_closeTail_48 : decode cX2_closeTail 48 = .ok (.iaload, 1) := by decide +kernel
theorem dX2_closeTail_49 : decode cX2_closeTail 49 = .ok (.iload_n 2, 1) := by decide +kernel
theorem dX2_closeTail_50 : decode cX2_closeTail 50 = .ok (.iadd, 1) := by decide +kernel
theorem dX2_closeTail_51 : decode cX2_closeTail 51 = .ok (.istore 5, 2) := by decide +kernel
theorem dX2_closeTail_53 : decode cX2_closeTail 53 = .ok (.iload_n 1, 1) := by decide +kernel
theorem dX2_closeTail_54 : decode cX2_closeTail 54 = .ok (.istore_n 3, 1) := by decide +kernel
theorem dX2_closeTail_55 : decode cX2_closeTail 55 = .ok (.iconst 0, 1) := by decide +kernel
theorem dX2_closeTail_56 : decode cX2_closeTail 56 = .ok (.istore 6, 2) := by decide +kernel
theorem dX2_closeTail_58 : decode cX2_closeTail 58 = .ok (.iload 6, 2) := by decide +kernel
theorem dX2_closeTail_60 : decode cX2_closeTail 60 = .ok (.iload_n 2, 1) := by decide +kernel
theorem dX2_closeTail_61 : decode cX2_closeTail 61 = .ok (.if_icmp .ge 35, 3) := by decide +kernel
theorem dX2_closeTail_64 : decode cX2_closeTail 64 = .ok (.aload_n 0, 1) := by decide +kernel
theorem dX2_closeTail_65 : decode cX2_closeTail 65 = .ok (.getfield 23, 3) := by decide +kernel
theorem dX2_closeTail_68 : decode cX2_closeTail 68 = .ok (.iload_n 3, 1) := by decide +kernel
theorem dX2_closeTail_69 : decode cX2_closeTail 69 = .ok (.iload 4, 2) := by decide +kernel
theorem dX2_closeTail_71 : decode cX2_closeTail 71 = .ok (.iastore, 1) := by decide +kernel
theorem dX2_closeTail_72 : decode cX2_closeTail 72 = .ok (.aload_n 0, 1) := by decide +kernel
theorem dX2_closeTail_73 : decode cX2_closeTail 73 = .ok (.getfield 26, 3) := by decide +kernel
theorem dX2_closeTail_76 : decode cX2_closeTail 76 = .ok (.iload_n 3, 1) := by decide +kernel
theorem dX2_closeTail_77 : decode cX2_closeTail 77 = .ok (.iload 5, 2) := by decide +kernel
theorem dX2_closeTail_79 : decode cX2_closeTail 79 = .ok (.iload 6, 2) := by decide +kernel
theorem dX2_closeTail_81 : decode cX2_closeTail 81 = .ok (.isub, 1) := by decide +kernel
theorem dX2_closeTail_82 : decode cX2_closeTail 82 = .ok (.iastore, 1) := by decide +kernel
theorem dX2_closeTail_83 : decode cX2_closeTail 83 = .ok (.aload_n 0, 1) := by decide +kernel
theorem dX2_closeTail_84 : decode cX2_closeTail 84 = .ok (.getfield 19, 3) := by decide +kernel
theorem dX2_closeTail_87 : decode cX2_closeTail 87 = .ok (.iload_n 3, 1) := by decide +kernel
theorem dX2_closeTail_88 : decode cX2_closeTail 88 = .ok (.iaload, 1) := by decide +kernel
theorem dX2_closeTail_89 : decode cX2_closeTail 89 = .ok (.istore_n 3, 1) := by decide +kernel
theorem dX2_closeTail_90 : decode cX2_closeTail 90 = .ok (.iinc 6 1, 3) := by decide +kernel
theorem dX2_closeTail_93 : decode cX2_closeTail 93 = .ok (.goto (-35), 3) := by decide +kernel
theorem dX2_closeTail_96 : decode cX2_closeTail 96 = .ok (.return_, 1) := by decide +kernel
theorem dX2_howManyEnds_0 : decode cX2_howManyEnds 0 = .ok (.iconst 0, 1) := by decide +kernel
theorem dX2_howManyEnds_1 : decode cX2_howManyEnds 1 = .ok (.istore_n 1, 1) := by decide +kernel
theorem dX2_howManyEnds_2 : decode cX2_howManyEnds 2 = .ok (.iconst 0, 1) := by decide +kernel
theorem dX2_howManyEnds_3 : decode cX2_howManyEnds 3 = .ok (.istore_n 2, 1) := by decide +kernel
theorem dX2_howManyEnds_4 : decode cX2_howManyEnds 4 = .ok (.iload_n 2, 1) := by decide +kernel
theorem dX2_howManyEnds_5 : decode cX2_howManyEnds 5 = .ok (.aload_n 0, 1) := by decide +kernel
theorem dX2_howManyEnds_6 : decode cX2_howManyEnds 6 = .ok (.getfield 9, 3) := by decide +kernel
theorem dX2_howManyEnds_9 : decode cX2_howManyEnds 9 = .ok (.invokevirtual 43, 3) := by decide +kernel
theorem dX2_howManyEnds_12 : decode cX2_howManyEnds 12 = .ok (.if_icmp .ge 22, 3) := by decide +kernel
theorem dX2_howManyEnds_15 : decode cX2_howManyEnds 15 = .ok (.aload_n 0, 1) := by decide +kernel
theorem dX2_howManyEnds_16 : decode cX2_howManyEnds 16 = .ok (.getfield 23, 3) := by decide +kernel
theorem dX2_howManyEnds_19 : decode cX2_howManyEnds 19 = .ok (.iload_n 2, 1) := by decide +kernel
theorem dX2_howManyEnds_20 : decode cX2_howManyEnds 20 = .ok (.iaload, 1) := by decide +kernel
theorem dX2_howManyEnds_21 : decode cX2_howManyEnds 21 = .ok (.iload_n 2, 1) := by decide +kernel
theorem dX2_howManyEnds_22 : decode cX2_howManyEnds 22 = .ok (.if_icmp .ne 6, 3) := by decide +kernel
theorem dX2_howManyEnds_25 : decode cX2_howManyEnds 25 = .ok (.iinc 1 1, 3) := by decide +kernel
theorem dX2_howManyEnds_28 : decode cX2_howManyEnds 28 = .ok (.iinc 2 1, 3) := by decide +kernel
theorem dX2_howManyEnds_31 : decode cX2_howManyEnds 31 = .ok (.goto (-27), 3) := by decide +kernel
theorem dX2_howManyEnds_34 : decode cX2_howManyEnds 34 = .ok (.iload_n 1, 1) := by decide +kernel
theorem dX2_howManyEnds_35 : decode cX2_howManyEnds 35 = .ok (.ireturn, 1) := by decide +kernel
theorem dX2_endAt_0 : decode cX2_endAt 0 = .ok (.iconst 0, 1) := by decide +kernel
theorem dX2_endAt_1 : decode cX2_endAt 1 = .ok (.istore_n 2, 1) := by decide +kernel
theorem dX2_endAt_2 : decode cX2_endAt 2 = .ok (.iconst 0, 1) := by decide +kernel
theorem dX2_endAt_3 : decode cX2_endAt 3 = .ok (.istore_n 3, 1) := by decide +kernel
theorem dX2_endAt_4 : decode cX2_endAt 4 = .ok (.iload_n 3, 1) := by decide +kernel
theorem dX2_endAt_5 : decode cX2_endAt 5 = .ok (.aload_n 0, 1) := by decide +kernel
theorem dX2_endAt_6 : decode cX2_endAt 6 = .ok (.getfield 9, 3) := by decide +kernel
theorem dX2_endAt_9 : decode cX2_endAt 9 = .ok (.invokevirtual 43, 3) := by decide +kernel
theorem dX2_endAt_12 : decode cX2_endAt 12 = .ok (.if_icmp .ge 29, 3) := by decide +kernel
theorem dX2_endAt_15 : decode cX2_endAt 15 = .ok (.aload_n 0, 1) := by decide +kernel
theorem dX2_endAt_16 : decode cX2_endAt 16 = .ok (.getfield 23, 3) := by decide +kernel
theorem dX2_endAt_19 : decode cX2_endAt 19 = .ok (.iload_n 3, 1) := by decide +kernel
theorem dX2_endAt_20 : decode cX2_endAt 20 = .ok (.iaload, 1) := by decide +kernel
theorem dX2_endAt_21 : decode cX2_endAt 21 = .ok (.iload_n 3, 1) := by decide +kernel
theorem dX2_endAt_22 : decode cX2_endAt 22 = .ok (.if_icmp .ne 13, 3) := by decide +kernel
theorem dX2_endAt_25 : decode cX2_endAt 25 = .ok (.iload_n 2, 1) := by decide +kernel
theorem dX2_endAt_26 : decode cX2_endAt 26 = .ok (.iload_n 1, 1) := by decide +kernel
theorem dX2_endAt_27 : decode cX2_endAt 27 = .ok (.if_icmp .ne 5, 3) := by decide +kernel
theorem dX2_endAt_30 : decode cX2_endAt 30 = .ok (.iload_n 3, 1) := by decide +kernel
theorem dX2_endAt_31 : decode cX2_endAt 31 = .ok (.ireturn, 1) := by decide +kernel
theorem dX2_endAt_32 : decode cX2_endAt 32 = .ok (.iinc 2 1, 3) := by decide +kernel
theorem dX2_endAt_35 : decode cX2_endAt 35 = .ok (.iinc 3 1, 3) := by decide +kernel
theorem dX2_endAt_38 : decode cX2_endAt 38 = .ok (.goto (-34), 3) := by decide +kernel
theorem dX2_endAt_41 : decode cX2_endAt 41 = .ok (.bipush (-6), 2) := by decide +kernel
theorem dX2_endAt_43 : decode cX2_endAt 43 = .ok (.ireturn, 1) := by decide +kernel
theorem dX2_howManyComeTo_0 : decode cX2_howManyComeTo 0 = .ok (.iconst 0, 1) := by decide +kernel
theorem dX2_howManyComeTo_1 : decode cX2_howManyComeTo 1 = .ok (.istore_n 2, 1) := by decide +kernel
theorem dX2_howManyComeTo_2 : decode cX2_howManyComeTo 2 = .ok (.iconst 0, 1) := by decide +kernel
theorem dX2_howManyComeTo_3 : decode cX2_howManyComeTo 3 = .ok (.istore_n 3, 1) := by decide +kernel
theorem dX2_howManyComeTo_4 : decode cX2_howManyComeTo 4 = .ok (.iload_n 3, 1) := by decide +kernel
theorem dX2_howManyComeTo_5 : decode cX2_howManyComeTo 5 = .ok (.aload_n 0, 1) := by decide +kernel
theorem dX2_howManyComeTo_6 : decode cX2_howManyComeTo 6 = .ok (.getfield 9, 3) := by decide +kernel
theorem dX2_howManyComeTo_9 : decode cX2_howManyComeTo 9 = .ok (.invokevirtual 43, 3) := by decide +kernel
theorem dX2_howManyComeTo_12 : decode cX2_howManyComeTo 12 = .ok (.if_icmp .ge 22, 3) := by decide +kernel
theorem dX2_howManyComeTo_15 : decode cX2_howManyComeTo 15 = .ok (.aload_n 0, 1) := by decide +kernel
theorem dX2_howManyComeTo_16 : decode cX2_howManyComeTo 16 = .ok (.getfield 23, 3) := by decide +kernel
theorem dX2_howManyComeTo_19 : decode cX2_howManyComeTo 19 = .ok (.iload_n 3, 1) := by decide +kernel
theorem dX2_howManyComeTo_20 : decode cX2_howManyComeTo 20 = .ok (.iaload, 1) := by decide +kernel
theorem dX2_howManyComeTo_21 : decode cX2_howManyComeTo 21 = .ok (.iload_n 1, 1) := by decide +kernel
theorem dX2_howManyComeTo_22 : decode cX2_howManyComeTo 22 = .ok (.if_icmp .ne 6, 3) := by decide +kernel
theorem dX2_howManyComeTo_25 : decode cX2_howManyComeTo 25 = .ok (.iinc 2 1, 3) := by decide +kernel
theorem dX2_howManyComeTo_28 : decode cX2_howManyComeTo 28 = .ok (.iinc 3 1, 3) := by decide +kernel
theorem dX2_howManyComeTo_31 : decode cX2_howManyComeTo 31 = .ok (.goto (-27), 3) := by decide +kernel
theorem dX2_howManyComeTo_34 : decode cX2_howManyComeTo 34 = .ok (.iload_n 2, 1) := by decide +kernel
theorem dX2_howManyComeTo_35 : decode cX2_howManyComeTo 35 = .ok (.ireturn, 1) := by decide +kernel
theorem dX2_ringLength_0 : decode cX2_ringLength 0 = .ok (.iconst 0, 1) := by decide +kernel
theorem dX2_ringLength_1 : decode cX2_ringLength 1 = .ok (.istore_n 2, 1) := by decide +kernel
theorem dX2_ringLength_2 : decode cX2_ringLength 2 = .ok (.iconst 0, 1) := by decide +kernel
theorem dX2_ringLength_3 : decode cX2_ringLength 3 = .ok (.istore_n 3, 1) := by decide +kernel
theorem dX2_ringLength_4 : decode cX2_ringLength 4 = .ok (.iload_n 3, 1) := by decide +kernel
theorem dX2_ringLength_5 : decode cX2_ringLength 5 = .ok (.aload_n 0, 1) := by decide +kernel
theorem dX2_ringLength_6 : decode cX2_ringLength 6 = .ok (.getfield 9, 3) := by decide +kernel
theorem dX2_ringLength_9 : decode cX2_ringLength 9 = .ok (.invokevirtual 43, 3) := by decide +kernel
theorem dX2_ringLength_12 : decode cX2_ringLength 12 = .ok (.if_icmp .ge 31, 3) := by decide +kernel
theorem dX2_ringLength_15 : decode cX2_ringLength 15 = .ok (.aload_n 0, 1) := by decide +kernel
theorem dX2_ringLength_16 : decode cX2_ringLength 16 = .ok (.getfield 23, 3) := by decide +kernel
theorem dX2_ringLength_19 : decode cX2_ringLength 19 = .ok (.iload_n 3, 1) := by decide +kernel
theorem dX2_ringLength_20 : decode cX2_ringLength 20 = .ok (.iaload, 1) := by decide +kernel
theorem dX2_ringLength_21 : decode cX2_ringLength 21 = .ok (.iload_n 1, 1) := by decide +kernel
theorem dX2_ringLength_22 : decode cX2_ringLength 22 = .ok (.if_icmp .ne 15, 3) := by decide +kernel
theorem dX2_ringLength_25 : decode cX2_ringLength 25 = .ok (.aload_n 0, 1) := by decide +kernel
theorem dX2_ringLength_26 : decode cX2_ringLength 26 = .ok (.getfield 26, 3) := by decide +kernel
theorem dX2_ringLength_29 : decode cX2_ringLength 29 = .ok (.iload_n 3, 1) := by decide +kernel
theorem dX2_ringLength_30 : decode cX2_ringLength 30 = .ok (.iaload, 1) := by decide +kernel
theorem dX2_ringLength_31 : decode cX2_ringLength 31 = .ok (.ifCond .ne 6, 3) := by decide +kernel
theorem dX2_ringLength_34 : decode cX2_ringLength 34 = .ok (.iinc 2 1, 3) := by decide +kernel
theorem dX2_ringLength_37 : decode cX2_ringLength 37 = .ok (.iinc 3 1, 3) := by decide +kernel
theorem dX2_ringLength_40 : decode cX2_ringLength 40 = .ok (.goto (-36), 3) := by decide +kernel
theorem dX2_ringLength_43 : decode cX2_ringLength 43 = .ok (.iload_n 2, 1) := by decide +kernel
theorem dX2_ringLength_44 : decode cX2_ringLength 44 = .ok (.ireturn, 1) := by decide +kernel
theorem dX2_greatestTail_0 : decode cX2_greatestTail 0 = .ok (.iconst 0, 1) := by decide +kernel
theorem dX2_greatestTail_1 : decode cX2_greatestTail 1 = .ok (.istore_n 2, 1) := by decide +kernel
theorem dX2_greatestTail_2 : decode cX2_greatestTail 2 = .ok (.iconst 0, 1) := by decide +kernel
theorem dX2_greatestTail_3 : decode cX2_greatestTail 3 = .ok (.istore_n 3, 1) := by decide +kernel
theorem dX2_greatestTail_4 : decode cX2_greatestTail 4 = .ok (.iload_n 3, 1) := by decide +kernel
theorem dX2_greatestTail_5 : decode cX2_greatestTail 5 = .ok (.aload_n 0, 1) := by decide +kernel
theorem dX2_greatestTail_6 : decode cX2_greatestTail 6 = .ok (.getfield 9, 3) := by decide +kernel
theorem dX2_greatestTail_9 : decode cX2_greatestTail 9 = .ok (.invokevirtual 43, 3) := by decide +kernel
theorem dX2_greatestTail_12 : decode cX2_greatestTail 12 = .ok (.if_icmp .ge 30, 3) := by decide +kernel
theorem dX2_greatestTail_15 : decode cX2_greatestTail 15 = .ok (.aload_n 0, 1) := by decide +kernel
theorem dX2_greatestTail_16 : decode cX2_greatestTail 16 = .ok (.getfield 23, 3) := by decide +kernel
theorem dX2_greatestTail_19 : decode cX2_greatestTail 19 = .ok (.iload_n 3, 1) := by decide +kernel
theorem dX2_greatestTail_20 : decode cX2_greatestTail 20 = .ok (.iaload, 1) := by decide +kernel
theorem dX2_greatestTail_21 : decode cX2_greatestTail 21 = .ok (.iload_n 1, 1) := by decide +kernel
theorem dX2_greatestTail_22 : decode cX2_greatestTail 22 = .ok (.if_icmp .ne 14, 3) := by decide +kernel
theorem dX2_greatestTail_25 : decode cX2_greatestTail 25 = .ok (.iload_n 2, 1) := by decide +kernel
theorem dX2_greatestTail_26 : decode cX2_greatestTail 26 = .ok (.aload_n 0, 1) := by decide +kernel
theorem dX2_greatestTail_27 : decode cX2_greatestTail 27 = .ok (.getfield 26, 3) := by decide +kernel
theorem dX2_greatestTail_30 : decode cX2_greatestTail 30 = .ok (.iload_n 3, 1) := by decide +kernel
theorem dX2_greatestTail_31 : decode cX2_greatestTail 31 = .ok (.iaload, 1) := by decide +kernel
theorem dX2_greatestTail_32 : decode cX2_greatestTail 32 = .ok (.invokestatic 75, 3) := by decide +kernel
theorem dX2_greatestTail_35 : decode cX2_greatestTail 35 = .ok (.istore_n 2, 1) := by decide +kernel
theorem dX2_greatestTail_36 : decode cX2_greatestTail 36 = .ok (.iinc 3 1, 3) := by decide +kernel
theorem dX2_greatestTail_39 : decode cX2_greatestTail 39 = .ok (.goto (-35), 3) := by decide +kernel
theorem dX2_greatestTail_42 : decode cX2_greatestTail 42 = .ok (.iload_n 2, 1) := by decide +kernel
theorem dX2_greatestTail_43 : decode cX2_greatestTail 43 = .ok (.ireturn, 1) := by decide +kernel
theorem dX2_firstOfRing_0 : decode cX2_firstOfRing 0 = .ok (.aload_n 0, 1) := by decide +kernel
theorem dX2_firstOfRing_1 : decode cX2_firstOfRing 1 = .ok (.getfield 26, 3) := by decide +kernel
theorem dX2_firstOfRing_4 : decode cX2_firstOfRing 4 = .ok (.iload_n 1, 1) := by decide +kernel
theorem dX2_firstOfRing_5 : decode cX2_firstOfRing 5 = .ok (.iaload, 1) := by decide +kernel
theorem dX2_firstOfRing_6 : decode cX2_firstOfRing 6 = .ok (.istore_n 2, 1) := by decide +kernel
theorem dX2_firstOfRing_7 : decode cX2_firstOfRing 7 = .ok (.iload_n 1, 1) := by decide +kernel
theorem dX2_firstOfRing_8 : decode cX2_firstOfRing 8 = .ok (.istore_n 3, 1) := by decide +kernel
theorem dX2_firstOfRing_9 : decode cX2_firstOfRing 9 = .ok (.iconst 0, 1) := by decide +kernel
theorem dX2_firstOfRing_10 : decode cX2_firstOfRing 10 = .ok (.istore 4, 2) := by decide +kernel
theorem dX2_firstOfRing_12 : decode cX2_firstOfRing 12 = .ok (.iload 4, 2) := by decide +kernel
theorem dX2_firstOfRing_14 : decode cX2_firstOfRing 14 = .ok (.iload_n 2, 1) := by decide +kernel
theorem dX2_firstOfRing_15 : decode cX2_firstOfRing 15 = .ok (.if_icmp .ge 16, 3) := by decide +kernel
theorem dX2_firstOfRing_18 : decode cX2_firstOfRing 18 = .ok (.aload_n 0, 1) := by decide +kernel
theorem dX2_firstOfRing_19 : decode cX2_firstOfRing 19 = .ok (.getfield 19, 3) := by decide +kernel
theorem dX2_firstOfRing_22 : decode cX2_firstOfRing 22 = .ok (.iload_n 3, 1) := by decide +kernel
theorem dX2_firstOfRing_23 : decode cX2_firstOfRing 23 = .ok (.iaload, 1) := by decide +kernel
theorem dX2_firstOfRing_24 : decode cX2_firstOfRing 24 = .ok (.istore_n 3, 1) := by decide +kernel
theorem dX2_firstOfRing_25 : decode cX2_firstOfRing 25 = .ok (.iinc 4 1, 3) := by decide +kernel
theorem dX2_firstOfRing_28 : decode cX2_firstOfRing 28 = .ok (.goto (-16), 3) := by decide +kernel
theorem dX2_firstOfRing_31 : decode cX2_firstOfRing 31 = .ok (.iload_n 3, 1) := by decide +kernel
theorem dX2_firstOfRing_32 : decode cX2_firstOfRing 32 = .ok (.ireturn, 1) := by decide +kernel

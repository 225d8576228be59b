theorem dX5_comesTime_86 : decode cX5_comesTime 86 = .ok (.iload_n 2, 1) := by decide +kernel
theorem dX5_comesTime_87 : decode cX5_comesTime 87 = .ok (.invokevirtual 162, 3) := by decide +kernel
theorem dX5_comesTime_90 : decode cX5_comesTime 90 = .ok (.iinc 2 1, 3) := by decide +kernel
theorem dX5_comesTime_93 : decode cX5_comesTime 93 = .ok (.goto (-34), 3) := by decide +kernel
theorem dX5_comesTime_96 : decode cX5_comesTime 96 = .ok (.return_, 1) := by decide +kernel
theorem dX5_numberOf_0 : decode cX5_numberOf 0 = .ok (.iload_n 1, 1) := by decide +kernel
theorem dX5_numberOf_1 : decode cX5_numberOf 1 = .ok (.iconst 1, 1) := by decide +kernel
theorem dX5_numberOf_2 : decode cX5_numberOf 2 = .ok (.if_icmp .ne 5, 3) := by decide +kernel
theorem dX5_numberOf_5 : decode cX5_numberOf 5 = .ok (.iconst (-1), 1) := by decide +kernel
theorem dX5_numberOf_6 : decode cX5_numberOf 6 = .ok (.ireturn, 1) := by decide +kernel
theorem dX5_numberOf_7 : decode cX5_numberOf 7 = .ok (.aload_n 0, 1) := by decide +kernel
theorem dX5_numberOf_8 : decode cX5_numberOf 8 = .ok (.getfield 58, 3) := by decide +kernel
theorem dX5_numberOf_11 : decode cX5_numberOf 11 = .ok (.bipush 7, 2) := by decide +kernel
theorem dX5_numberOf_13 : decode cX5_numberOf 13 = .ok (.iaload, 1) := by decide +kernel
theorem dX5_numberOf_14 : decode cX5_numberOf 14 = .ok (.istore_n 2, 1) := by decide +kernel
theorem dX5_numberOf_15 : decode cX5_numberOf 15 = .ok (.aload_n 0, 1) := by decide +kernel
theorem dX5_numberOf_16 : decode cX5_numberOf 16 = .ok (.getfield 58, 3) := by decide +kernel
theorem dX5_numberOf_19 : decode cX5_numberOf 19 = .ok (.bipush 7, 2) := by decide +kernel
theorem dX5_numberOf_21 : decode cX5_numberOf 21 = .ok (.dup2, 1) := by decide +kernel
theorem dX5_numberOf_22 : decode cX5_numberOf 22 = .ok (.iaload, 1) := by decide +kernel
theorem dX5_numberOf_23 : decode cX5_numberOf 23 = .ok (.iconst 1, 1) := by decide +kernel
theorem dX5_numberOf_24 : decode cX5_numberOf 24 = .ok (.iadd, 1) := by decide +kernel
theorem dX5_numberOf_25 : decode cX5_numberOf 25 = .ok (.iastore, 1) := by decide +kernel
theorem dX5_numberOf_26 : decode cX5_numberOf 26 = .ok (.iload_n 2, 1) := by decide +kernel
theorem dX5_numberOf_27 : decode cX5_numberOf 27 = .ok (.sipush 200, 3) := by decide +kernel
theorem dX5_numberOf_30 : decode cX5_numberOf 30 = .ok (.if_icmp .ge 30, 3) := by decide +kernel
theorem dX5_numberOf_33 : decode cX5_numberOf 33 = .ok (.aload_n 0, 1) := by decide +kernel
theorem dX5_numberOf_34 : decode cX5_numberOf 34 = .ok (.getfield 61, 3) := by decide +kernel
theorem dX5_numberOf_37 : decode cX5_numberOf 37 = .ok (.iload_n 2, 1) := by decide +kernel
theorem dX5_numberOf_38 : decode cX5_numberOf 38 = .ok (.iconst (-1), 1) := by decide +kernel
theorem dX5_numberOf_39 : decode cX5_numberOf 39 = .ok (.iastore, 1) := by decide +kernel
theorem dX5_numberOf_40 : decode cX5_numberOf 40 = .ok (.aload_n 0, 1) := by decide +kernel
theorem dX5_numberOf_41 : decode cX5_numberOf 41 = .ok (.getfield 64, 3) := by decide +kernel
theorem dX5_numberOf_44 : decode cX5_numberOf 44 = .ok (.iload_n 2, 1) := by decide +kernel
theorem dX5_numberOf_45 : decode cX5_numberOf 45 = .ok (.iconst (-1), 1) := by decide +kernel
theorem dX5_numberOf_46 : decode cX5_numberOf 46 = .ok (.iastore, 1) := by decide +kernel
theorem dX5_numberOf_47 : decode cX5_numberOf 47 = .ok (.aload_n 0, 1) := by decide +kernel
theorem dX5_numberOf_48 : decode cX5_numberOf 48 = .ok (.getfield 67, 3) := by decide +kernel
theorem dX5_numberOf_51 : decode cX5_numberOf 51 = .ok (.iload_n 2, 1) := by decide +kernel
theorem dX5_numberOf_52 : decode cX5_numberOf 52 = .ok (.aload_n 0, 1) := by decide +kernel
theorem dX5_numberOf_53 : decode cX5_numberOf 53 = .ok (.getfield 58, 3) := by decide +kernel
theorem dX5_numberOf_56 : decode cX5_numberOf 56 = .ok (.bipush 9, 2) := by decide +kernel
theorem dX5_numberOf_58 : decode cX5_numberOf 58 = .ok (.iaload, 1) := by decide +kernel
theorem dX5_numberOf_59 : decode cX5_numberOf 59 = .ok (.iastore, 1) := by decide +kernel
theorem dX5_numberOf_60 : decode cX5_numberOf 60 = .ok (.iload_n 2, 1) := by decide +kernel
theorem dX5_numberOf_61 : decode cX5_numberOf 61 = .ok (.ireturn, 1) := by decide +kernel
theorem dX5_asks_0 : decode cX5_asks 0 = .ok (.iconst 4, 1) := by decide +kernel
theorem dX5_asks_1 : decode cX5_asks 1 = .ok (.iload_n 1, 1) := by decide +kernel
theorem dX5_asks_2 : decode cX5_asks 2 = .ok (.imul, 1) := by decide +kernel
theorem dX5_asks_3 : decode cX5_asks 3 = .ok (.aload_n 0, 1) := by decide +kernel
theorem dX5_asks_4 : decode cX5_asks 4 = .ok (.getfield 40, 3) := by decide +kernel
theorem dX5_asks_7 : decode cX5_asks 7 = .ok (.iload_n 1, 1) := by decide +kernel
theorem dX5_asks_8 : decode cX5_asks 8 = .ok (.iaload, 1) := by decide +kernel
theorem dX5_asks_9 : decode cX5_asks 9 = .ok (.iadd, 1) := by decide +kernel
theorem dX5_asks_10 : decode cX5_asks 10 = .ok (.istore 5, 2) := by decide +kernel
theorem dX5_asks_12 : decode cX5_asks 12 = .ok (.aload_n 0, 1) := by decide +kernel
theorem dX5_asks_13 : decode cX5_asks 13 = .ok (.getfield 43, 3) := by decide +kernel
theorem dX5_asks_16 : decode cX5_asks 16 = .ok (.iload 5, 2) := by decide +kernel
theorem dX5_asks_18 : decode cX5_asks 18 = .ok (.iload_n 3, 1) := by decide +kernel
theorem dX5_asks_19 : decode cX5_asks 19 = .ok (.iastore, 1) := by decide +kernel
theorem dX5_asks_20 : decode cX5_asks 20 = .ok (.aload_n 0, 1) := by decide +kernel
theorem dX5_asks_21 : decode cX5_asks 21 = .ok (.getfield 46, 3) := by decide +kernel
theorem dX5_asks_24 : decode cX5_asks 24 = .ok (.iload 5, 2) := by decide +kernel
theorem dX5_asks_26 : decode cX5_asks 26 = .ok (.iload 4, 2) := by decide +kernel
theorem dX5_asks_28 : decode cX5_asks 28 = .ok (.iastore, 1) := by decide +kernel
theorem dX5_asks_29 : decode cX5_asks 29 = .ok (.aload_n 0, 1) := by decide +kernel
theorem dX5_asks_30 : decode cX5_asks 30 = .ok (.getfield 49, 3) := by decide +kernel
theorem dX5_asks_33 : decode cX5_asks 33 = .ok (.iload 5, 2) := by decide +kernel
theorem dX5_asks_35 : decode cX5_asks 35 = .ok (.aload_n 0, 1) := by decide +kernel
theorem dX5_asks_36 : decode cX5_asks 36 = .ok (.getfield 58, 3) := by decide +kernel
theorem dX5_asks_39 : decode cX5_asks 39 = .ok (.bipush 9, 2) := by decide +kernel
theorem dX5_asks_41 : decode cX5_asks 41 = .ok (.iaload, 1) := by decide +kernel
theorem dX5_asks_42 : decode cX5_asks 42 = .ok (.iastore, 1) := by decide +kernel
theorem dX5_asks_43 : decode cX5_asks 43 = .ok (.aload_n 0, 1) := by decide +kernel
theorem dX5_asks_44 : decode cX5_asks 44 = .ok (.getfield 52, 3) := by decide +kernel
theorem dX5_asks_47 : decode cX5_asks 47 = .ok (.iload 5, 2) := by decide +kernel
theorem dX5_asks_49 : decode cX5_asks 49 = .ok (.aload_n 0, 1) := by decide +kernel
theorem dX5_asks_50 : decode cX5_asks 50 = .ok (.iload_n 2, 1) := by decide +kernel
theorem dX5_asks_51 : decode cX5_asks 51 = .ok (.invokevirtual 165, 3) := by decide +kernel
theorem dX5_asks_54 : decode cX5_asks 54 = .ok (.iastore, 1) := by decide +kernel
theorem dX5_asks_55 : decode cX5_asks 55 = .ok (.aload_n 0, 1) := by decide +kernel
theorem dX5_asks_56 : decode cX5_asks 56 = .ok (.getfield 40, 3) := by decide +kernel
theorem dX5_asks_59 : decode cX5_asks 59 = .ok (.iload_n 1, 1) := by decide +kernel
theorem dX5_asks_60 : decode cX5_asks 60 = .ok (.dup2, 1) := by decide +kernel
theorem dX5_asks_61 : decode cX5_asks 61 = .ok (.iaload, 1) := by decide +kernel
theorem dX5_asks_62 : decode cX5_asks 62 = .ok (.iconst 1, 1) := by decide +kernel
theorem dX5_asks_63 : decode cX5_asks 63 = .ok (.iadd, 1) := by decide +kernel
theorem dX5_asks_64 : decode cX5_asks 64 = .ok (.iastore, 1) := by decide +kernel
theorem dX5_asks_65 : decode cX5_asks 65 = .ok (.return_, 1) := by decide +kernel
theorem dX5_does_0 : decode cX5_does 0 = .ok (.aload_n 0, 1) := by decide +kernel
theorem dX5_does_1 : decode cX5_does 1 = .ok (.iload_n 2, 1) := by decide +kernel
theorem dX5_does_2 : decode cX5_does 2 = .ok (.invokevirtual 165, 3) := by decide +kernel
theorem dX5_does_5 : decode cX5_does 5 = .ok (.istore 5, 2) := by decide +kernel
theorem dX5_does_7 : decode cX5_does 7 = .ok (.iload_n 2, 1) := by decide +kernel
theorem dX5_does_8 : decode cX5_does 8 = .ok (.iconst 1, 1) := by decide +kernel
theorem dX5_does_9 : decode cX5_does 9 = .ok (.if_icmp .ne 14, 3) := by decide +kernel
theorem dX5_does_12 : decode cX5_does 12 = .ok (.aload_n 0, 1) := by decide +kernel
theorem dX5_does_13 : decode cX5_does 13 = .ok (.iload_n 1, 1) := by decide +kernel
theorem dX5_does_14 : decode cX5_does 14 = .ok (.iload_n 3, 1) := by decide +kernel
theorem dX5_does_15 : decode cX5_does 15 = .ok (.iload 4, 2) := by decide +kernel
theorem dX5_does_17 : decode cX5_does 17 = .ok (.invokevirtual 154, 3) := by decide +kernel
theorem dX5_does_20 : decode cX5_does 20 = .ok (.goto 18, 3) := by decide +kernel
theorem dX5_does_23 : decode cX5_does 23 = .ok (.aload_n 0, 1) := by decide +kernel
theorem dX5_does_24 : decode cX5_does 24 = .ok (.iload 5, 2) := by decide +kernel
theorem dX5_does_26 : decode cX5_does 26 = .ok (.iload_n 1, 1) := by decide +kernel
theorem dX5_does_27 : decode cX5_does 27 = .ok (.iload_n 3, 1) := by decide +kernel
theorem dX5_does_28 : decode cX5_does 28 = .ok (.aload_n 0, 1) := by decide +kernel
theorem dX5_does_29 : decode cX5_does 29 = .ok (.getfield 58, 3) := by decide +kernel
theorem dX5_does_32 : decode cX5_does 32 = .ok (.bipush 9, 2) := by decide +kernel
theorem dX5_does_34 : decode cX5_does 34 = .ok (.iaload, 1) := by decide +kernel
theorem dX5_does_35 : decode cX5_does 35 = .ok (.invokevirtual 158, 3) := by decide +kernel
theorem dX5_does_38 : decode cX5_does 38 = .ok (.return_, 1) := by decide +kernel
theorem dX5_counted_0 : decode cX5_counted 0 = .ok (.aload_n 0, 1) := by decide +kernel
theorem dX5_counted_1 : decode cX5_counted 1 = .ok (.getfield 58, 3) := by decide +kernel
theorem dX5_counted_4 : decode cX5_counted 4 = .ok (.iload_n 1, 1) := by decide +kernel
theorem dX5_counted_5 : decode cX5_counted 5 = .ok (.dup2, 1) := by decide +kernel
theorem dX5_counted_6 : decode cX5_counted 6 = .ok (.iaload, 1) := by decide +kernel
theorem dX5_counted_7 : decode cX5_counted 7 = .ok (.iconst 1, 1) := by decide +kernel
theorem dX5_counted_8 : decode cX5_counted 8 = .ok (.iadd, 1) := by decide +kernel
theorem dX5_counted_9 : decode cX5_counted 9 = .ok (.iastore, 1) := by decide +kernel
theorem dX5_counted_10 : decode cX5_counted 10 = .ok (.aload_n 0, 1) := by decide +kernel
theorem dX5_counted_11 : decode cX5_counted 11 = .ok (.dup, 1) := by decide +kernel
theorem dX5_counted_12 : decode cX5_counted 12 = .ok (.getfield 90, 3) := by decide +kernel
theorem dX5_counted_15 : decode cX5_counted 15 = .ok (.fload_n 2, 1) := by decide +kernel
theorem dX5_counted_16 : decode cX5_counted 16 = .ok (.fadd, 1) := by decide +kernel
theorem dX5_counted_17 : decode cX5_counted 17 = .ok (.putfield 90, 3) := by decide +kernel
theorem dX5_counted_20 : decode cX5_counted 20 = .ok (.return_, 1) := by decide +kernel
theorem dX5_beginsNow_0 : decode cX5_beginsNow 0 = .ok (.iload_n 1, 1) := by decide +kernel
theorem dX5_beginsNow_1 : decode cX5_beginsNow 1 = .ok (.iconst 2, 1) := by decide +kernel
theorem dX5_beginsNow_2 : decode cX5_beginsNow 2 = .ok (.if_icmp .ne 27, 3) := by decide +kernel
theorem dX5_beginsNow_5 : decode cX5_beginsNow 5 = .ok (.aload_n 0, 1) := by decide +kernel
theorem dX5_beginsNow_6 : decode cX5_beginsNow 6 = .ok (.getfield 55, 3) := by decide +kernel
theorem dX5_beginsNow_9 : decode cX5_beginsNow 9 = .ok (.iconst 0, 1) := by decide +kernel
theorem dX5_beginsNow_10 : decode cX5_beginsNow 10 = .ok (.iaload, 1) := by decide +kernel
theorem dX5_beginsNow_11 : decode cX5_beginsNow 11 = .ok (.ifCond .ne 16, 3) := by decide +kernel
theorem dX5_beginsNow_14 : decode cX5_beginsNow 14 = .ok (.aload_n 0, 1) := by decide +kernel
theorem dX5_beginsNow_15 : decode cX5_beginsNow 15 = .ok (.getfield 55, 3) := by decide +kernel
theorem dX5_beginsNow_18 : decode cX5_beginsNow 18 = .ok (.iconst 1, 1) := by decide +kernel
theorem dX5_beginsNow_19 : decode cX5_beginsNow 19 = .ok (.iaload, 1) := by decide +kernel
theorem dX5_beginsNow_20 : decode cX5_beginsNow 20 = .ok (.ifCond .ne 7, 3) := by decide +kernel
theorem dX5_beginsNow_23 : decode cX5_beginsNow 23 = .ok (.iconst 1, 1) := by decide +kernel
theorem dX5_beginsNow_24 : decode cX5_beginsNow 24 = .ok (.goto 4, 3) := by decide +kernel
theorem dX5_beginsNow_27 : decode cX5_beginsNow 27 = .ok (.iconst 0, 1) := by decide +kernel
theorem dX5_beginsNow_28 : decode cX5_beginsNow 28 = .ok (.ireturn, 1) := by decide +kernel
theorem dX5_beginsNow_29 : decode cX5_beginsNow 29 = .ok (.aload_n 0, 1) := by decide +kernel
theorem dX5_beginsNow_30 : decode cX5_beginsNow 30 = .ok (.getfield 25, 3) := by decide +kernel
theorem dX5_beginsNow_33 : decode cX5_beginsNow 33 = .ok (.iload_n 2, 1) := by decide +kernel
theorem dX5_beginsNow_34 : decode cX5_beginsNow 34 = .ok (.iaload, 1) := by decide +kernel
theorem dX5_beginsNow_35 : decode cX5_beginsNow 35 = .ok (.tableswitch 116 1 3 #[25, 48, 81], 25) := by decide +kernel
theorem dX5_beginsNow_60 : decode cX5_beginsNow 60 = .ok (.aload_n 0, 1) := by decide +kernel
theorem dX5_beginsNow_61 : decode cX5_beginsNow 61 = .ok (.iload_n 2, 1) := by decide +kernel
theorem dX5_beginsNow_62 : decode cX5_beginsNow 62 = .ok (.invokevirtual 168, 3) := by decide +kernel
theorem dX5_beginsNow_65 : decode cX5_beginsNow 65 = .ok (.aload_n 0, 1) := by decide +kernel
theorem dX5_beginsNow_66 : decode cX5_beginsNow 66 = .ok (.iload_n 2, 1) := by decide +kernel
theorem dX5_beginsNow_67 : decode cX5_beginsNow 67 = .ok (.iload_n 1, 1) := by decide +kernel
theorem dX5_beginsNow_68 : decode cX5_beginsNow 68 = .ok (.iload_n 3, 1) := by decide +kernel
theorem dX5_beginsNow_69 : decode cX5_beginsNow 69 = .ok (.iload 4, 2) := by decide +kernel
theorem dX5_beginsNow_71 : decode cX5_beginsNow 71 = .ok (.invokevirtual 171, 3) := by decide +kernel
theorem dX5_beginsNow_74 : decode cX5_beginsNow 74 = .ok (.aload_n 0, 1) := by decide +kernel
theorem dX5_beginsNow_75 : decode cX5_beginsNow 75 = .ok (.iconst 0, 1) := by decide +kernel
theorem dX5_beginsNow_76 : decode cX5_beginsNow 76 = .ok (.ldc 174, 2) := by decide +kernel
theorem dX5_beginsNow_78 : decode cX5_beginsNow 78 = .ok (.invokevirtual 175, 3) := by decide +kernel
theorem dX5_beginsNow_81 : decode cX5_beginsNow 81 = .ok (.iconst 1, 1) := by decide +kernel
theorem dX5_beginsNow_82 : decode cX5_beginsNow 82 = .ok (.ireturn, 1) := by decide +kernel
theorem dX5_beginsNow_83 : decode cX5_beginsNow 83 = .ok (.aload_n 0, 1) := by decide +kernel
theorem dX5_beginsNow_84 : decode cX5_beginsNow 84 = .ok (.getfield 55, 3) := by decide +kernel
theorem dX5_beginsNow_87 : decode cX5_beginsNow 87 = .ok (.iconst 1, 1) := by decide +kernel
theorem dX5_beginsNow_88 : decode cX5_beginsNow 88 = .ok (.dup2, 1) := by decide +kernel
theorem dX5_beginsNow_89 : decode cX5_beginsNow 89 = .ok (.iaload, 1) := by decide +kernel
theorem dX5_beginsNow_90 : decode cX5_beginsNow 90 = .ok (.iconst 1, 1) := by decide +kernel
theorem dX5_beginsNow_91 : decode cX5_beginsNow 91 = .ok (.isub, 1) := by decide +kernel
theorem dX5_beginsNow_92 : decode cX5_beginsNow 92 = .ok (.iastore, 1) := by decide +kernel
theorem dX5_beginsNow_93 : decode cX5_beginsNow 93 = .ok (.aload_n 0, 1) := by decide +kernel
theorem dX5_beginsNow_94 : decode cX5_beginsNow 94 = .ok (.iload_n 2, 1) := by decide +kernel
theorem dX5_beginsNow_95 : decode cX5_beginsNow 95 = .ok (.invokevirtual 151, 3) := by decide +kernel
theorem dX5_beginsNow_98 : decode cX5_beginsNow 98 = .ok (.aload_n 0, 1) := by decide +kernel
theorem dX5_beginsNow_99 : decode cX5_beginsNow 99 = .ok (.iload_n 2, 1) := by decide +kernel
theorem dX5_beginsNow_100 : decode cX5_beginsNow 100 = .ok (.iload_n 1, 1) := by decide +kernel
theorem dX5_beginsNow_101 : decode cX5_beginsNow 101 = .ok (.iload_n 3, 1) := by decide +kernel
theorem dX5_beginsNow_102 : decode cX5_beginsNow 102 = .ok (.iload 4, 2) := by decide +kernel
theorem dX5_beginsNow_104 : decode cX5_beginsNow 104 = .ok (.invokevirtual 171, 3) := by decide +kernel
theorem dX5_beginsNow_107 : decode cX5_beginsNow 107 = .ok (.aload_n 0, 1) := by decide +kernel
theorem dX5_beginsNow_108 : decode cX5_beginsNow 108 = .ok (.iconst 3, 1) := by decide +kernel
theorem dX5_beginsNow_109 : decode cX5_beginsNow 109 = .ok (.ldc 179, 2) := by decide +kernel
theorem dX5_beginsNow_111 : decode cX5_beginsNow 111 = .ok (.invokevirtual 175, 3) := by decide +kernel
theorem dX5_beginsNow_114 : decode cX5_beginsNow 114 = .ok (.iconst 1, 1) := by decide +kernel
theorem dX5_beginsNow_115 : decode cX5_beginsNow 115 = .ok (.ireturn, 1) := by decide +kernel
theorem dX5_beginsNow_116 : decode cX5_beginsNow 116 = .ok (.aload_n 0, 1) := by decide +kernel
theorem dX5_beginsNow_117 : decode cX5_beginsNow 117 = .ok (.getfield 40, 3) := by decide +kernel
theorem dX5_beginsNow_120 : decode cX5_beginsNow 120 = .ok (.iload_n 2, 1) := by decide +kernel
theorem dX5_beginsNow_121 : decode cX5_beginsNow 121 = .ok (.iaload, 1) := by decide +kernel
theorem dX5_beginsNow_122 : decode cX5_beginsNow 122 = .ok (.aload_n 0, 1) := by decide +kernel
theorem dX5_beginsNow_123 : decode cX5_beginsNow 123 = .ok (.getfield 13, 3) := by decide +kernel
theorem dX5_beginsNow_126 : decode cX5_beginsNow 126 = .ok (.iconst 3, 1) := by decide +kernel
theorem dX5_beginsNow_127 : decode cX5_beginsNow 127 = .ok (.iaload, 1) := by decide +kernel
theorem dX5_beginsNow_128 : decode cX5_beginsNow 128 = .ok (.if_icmp .ne 5, 3) := by decide +kernel
theorem dX5_beginsNow_131 : decode cX5_beginsNow 131 = .ok (.iconst 0, 1) := by decide +kernel
theorem dX5_beginsNow_132 : decode cX5_beginsNow 132 = .ok (.ireturn, 1) := by decide +kernel
theorem dX5_beginsNow_133 : decode cX5_beginsNow 133 = .ok (.aload_n 0, 1) := by decide +kernel
theorem dX5_beginsNow_134 : decode cX5_beginsNow 134 = .ok (.iload_n 2, 1) := by decide +kernel
theorem dX5_beginsNow_135 : decode cX5_beginsNow 135 = .ok (.iload_n 1, 1) := by decide +kernel
theorem dX5_beginsNow_136 : decode cX5_beginsNow 136 = .ok (.iload_n 3, 1) := by decide +kernel
theorem dX5_beginsNow_137 : decode cX5_beginsNow 137 = .ok (.iload 4, 2) := by decide +kernel
theorem dX5_beginsNow_139 : decode cX5_beginsNow 139 = .ok (.invokevirtual 180, 3) := by decide +kernel
theorem dX5_beginsNow_142 : decode cX5_beginsNow 142 = .ok (.aload_n 0, 1) := by decide +kernel
theorem dX5_beginsNow_143 : decode cX5_beginsNow 143 = .ok (.iconst 1, 1) := by decide +kernel
theorem dX5_beginsNow_144 : decode cX5_beginsNow 144 = .ok (.ldc 183, 2) := by decide +kernel
theorem dX5_beginsNow_146 : decode cX5_beginsNow 146 = .ok (.invokevirtual 175, 3) := by decide +kernel
theorem dX5_beginsNow_149 : decode cX5_beginsNow 149 = .ok (.iconst 1, 1) := by decide +kernel
theorem dX5_beginsNow_150 : decode cX5_beginsNow 150 = .ok (.ireturn, 1) := by decide +kernel
theorem dX5_beginsNow_151 : decode cX5_beginsNow 151 = .ok (.aload_n 0, 1) := by decide +kernel
theorem dX5_beginsNow_152 : decode cX5_beginsNow 152 = .ok (.getfield 55, 3) := by decide +kernel
theorem dX5_beginsNow_155 : decode cX5_beginsNow 155 = .ok (.iconst 0, 1) := by decide +kernel
theorem dX5_beginsNow_156 : decode cX5_beginsNow 156 = .ok (.iaload, 1) := by decide +kernel
theorem dX5_beginsNow_157 : decode cX5_beginsNow 157 = .ok (.aload_n 0, 1) := by decide +kernel
theorem dX5_beginsNow_158 : decode cX5_beginsNow 158 = .ok (.getfield 13, 3) := by decide +kernel
theorem dX5_beginsNow_161 : decode cX5_beginsNow 161 = .ok (.iconst 2, 1) := by decide +kernel
theorem dX5_beginsNow_162 : decode cX5_beginsNow 162 = .ok (.iaload, 1) := by decide +kernel
theorem dX5_beginsNow_163 : decode cX5_beginsNow 163 = .ok (.if_icmp .ne 5, 3) := by decide +kernel
theorem dX5_beginsNow_166 : decode cX5_beginsNow 166 = .ok (.iconst 0, 1) := by decide +kernel
theorem dX5_beginsNow_167 : decode cX5_beginsNow 167 = .ok (.ireturn, 1) := by decide +kernel
theorem dX5_beginsNow_168 : decode cX5_beginsNow 168 = .ok (.aload_n 0, 1) := by decide +kernel
theorem dX5_beginsNow_169 : decode cX5_beginsNow 169 = .ok (.getfield 25, 3) := by decide +kernel
theorem dX5_beginsNow_172 : decode cX5_beginsNow 172 = .ok (.iload_n 2, 1) := by decide +kernel
theorem dX5_beginsNow_173 : decode cX5_beginsNow 173 = .ok (.iconst 3, 1) := by decide +kernel
theorem dX5_beginsNow_174 : decode cX5_beginsNow 174 = .ok (.iastore, 1) := by decide +kernel
theorem dX5_beginsNow_175 : decode cX5_beginsNow 175 = .ok (.aload_n 0, 1) := by decide +kernel
theorem dX5_beginsNow_176 : decode cX5_beginsNow 176 = .ok (.getfield 28, 3) := by decide +kernel
theorem dX5_beginsNow_179 : decode cX5_beginsNow 179 = .ok (.iload_n 2, 1) := by decide +kernel
theorem dX5_beginsNow_180 : decode cX5_beginsNow 180 = .ok (.aload_n 0, 1) := by decide +kernel
theorem dX5_beginsNow_181 : decode cX5_beginsNow 181 = .ok (.getfield 58, 3) := by decide +kernel
theorem dX5_beginsNow_184 : decode cX5_beginsNow 184 = .ok (.bipush 9, 2) := by decide +kernel
theorem dX5_beginsNow_186 : decode cX5_beginsNow 186 = .ok (.iaload, 1) := by decide +kernel
theorem dX5_beginsNow_187 : decode cX5_beginsNow 187 = .ok (.aload_n 0, 1) := by decide +kernel
theorem dX5_beginsNow_188 : decode cX5_beginsNow 188 = .ok (.getfield 13, 3) := by decide +kernel
theorem dX5_beginsNow_191 : decode cX5_beginsNow 191 = .ok (.iconst 4, 1) := by decide +kernel
theorem dX5_beginsNow_192 : decode cX5_beginsNow 192 = .ok (.iaload, 1) := by decide +kernel
theorem dX5_beginsNow_193 : decode cX5_beginsNow 193 = .ok (.iadd, 1) := by decide +kernel
theorem dX5_beginsNow_194 : decode cX5_beginsNow 194 = .ok (.iastore, 1) := by decide +kernel
theorem dX5_beginsNow_195 : decode cX5_beginsNow 195 = .ok (.aload_n 0, 1) := by decide +kernel
theorem dX5_beginsNow_196 : decode cX5_beginsNow 196 = .ok (.getfield 37, 3) := by decide +kernel
theorem dX5_beginsNow_199 : decode cX5_beginsNow 199 = .ok (.aload_n 0, 1) := by decide +kernel
theorem dX5_beginsNow_200 : decode cX5_beginsNow 200 = .ok (.getfield 55, 3) := by decide +kernel
theorem dX5_beginsNow_203 : decode cX5_beginsNow 203 = .ok (.iconst 0, 1) := by decide +kernel
theorem dX5_beginsNow_204 : decode cX5_beginsNow 204 = .ok (.iaload, 1) := by decide +kernel
theorem dX5_beginsNow_205 : decode cX5_beginsNow 205 = .ok (.iload_n 2, 1) := by decide +kernel
theorem dX5_beginsNow_206 : decode cX5_beginsNow 206 = .ok (.iastore, 1) := by decide +kernel
theorem dX5_beginsNow_207 : decode cX5_beginsNow 207 = .ok (.aload_n 0, 1) := by decide +kernel
theorem dX5_beginsNow_208 : decode cX5_beginsNow 208 = .ok (.getfield 55, 3) := by decide +kernel
theorem dX5_beginsNow_211 : decode cX5_beginsNow 211 = .ok (.iconst 0, 1) := by decide +kernel
theorem dX5_beginsNow_212 : decode cX5_beginsNow 212 = .ok (.dup2, 1) := by decide +kernel
theorem dX5_beginsNow_213 : decode cX5_beginsNow 213 = .ok (.iaload, 1) := by decide +kernel
theorem dX5_beginsNow_214 : decode cX5_beginsNow 214 = .ok (.iconst 1, 1) := by decide +kernel
theorem dX5_beginsNow_215 : decode cX5_beginsNow 215 = .ok (.iadd, 1) := by decide +kernel
theorem dX5_beginsNow_216 : decode cX5_beginsNow 216 = .ok (.iastore, 1) := by decide +kernel
theorem dX5_beginsNow_217 : decode cX5_beginsNow 217 = .ok (.aload_n 0, 1) := by decide +kernel
theorem dX5_beginsNow_218 : decode cX5_beginsNow 218 = .ok (.iload_n 2, 1) := by decide +kernel
theorem dX5_beginsNow_219 : decode cX5_beginsNow 219 = .ok (.iload_n 1, 1) := by decide +kernel
theorem dX5_beginsNow_220 : decode cX5_beginsNow 220 = .ok (.iload_n 3, 1) := by decide +kernel
theorem dX5_beginsNow_221 : decode cX5_beginsNow 221 = .ok (.iload 4, 2) := by decide +kernel
theorem dX5_beginsNow_223 : decode cX5_beginsNow 223 = .ok (.invokevirtual 180, 3) := by decide +kernel
theorem dX5_beginsNow_226 : decode cX5_beginsNow 226 = .ok (.aload_n 0, 1) := by decide +kernel
theorem dX5_beginsNow_227 : decode cX5_beginsNow 227 = .ok (.iconst 2, 1) := by decide +kernel
theorem dX5_beginsNow_228 : decode cX5_beginsNow 228 = .ok (.ldc 184, 2) := by decide +kernel
theorem dX5_beginsNow_230 : decode cX5_beginsNow 230 = .ok (.invokevirtual 175, 3) := by decide +kernel
theorem dX5_beginsNow_233 : decode cX5_beginsNow 233 = .ok (.iconst 1, 1) := by decide +kernel
theorem dX5_beginsNow_234 : decode cX5_beginsNow 234 = .ok (.ireturn, 1) := by decide +kernel
theorem dX5_goesBy_0 : decode cX5_goesBy 0 = .ok (.aload_n 0, 1) := by decide +kernel
theorem dX5_goesBy_1 : decode cX5_goesBy 1 = .ok (.getfield 58, 3) := by decide +kernel
theorem dX5_goesBy_4 : decode cX5_goesBy 4 = .ok (.bipush 9, 2) := by decide +kernel
theorem dX5_goesBy_6 : decode cX5_goesBy 6 = .ok (.dup2, 1) := by decide +kernel
theorem dX5_goesBy_7 : decode cX5_goesBy 7 = .ok (.iaload, 1) := by decide +kernel
theorem dX5_goesBy_8 : decode cX5_goesBy 8 = .ok (.iconst 1, 1) := by decide +kernel
theorem dX5_goesBy_9 : decode cX5_goesBy 9 = .ok (.iadd, 1) := by decide +kernel
theorem dX5_goesBy_10 : decode cX5_goesBy 10 = .ok (.iastore, 1) := by decide +kernel
theorem dX5_goesBy_11 : decode cX5_goesBy 11 = .ok (.aload_n 0, 1) := by decide +kernel
theorem dX5_goesBy_12 : decode cX5_goesBy 12 = .ok (.invokevirtual 185, 3) := by decide +kernel
theorem dX5_goesBy_15 : decode cX5_goesBy 15 = .ok (.return_, 1) := by decide +kernel
theorem dX5_done_0 : decode cX5_done 0 = .ok (.aload_n 0, 1) := by decide +kernel
theorem dX5_done_1 : decode cX5_done 1 = .ok (.invokevirtual 188, 3) := by decide +kernel
theorem dX5_done_4 : decode cX5_done 4 = .ok (.aload_n 0, 1) := by decide +kernel
theorem dX5_done_5 : decode cX5_done 5 = .ok (.iload_n 1, 1) := by decide +kernel
theorem dX5_done_6 : decode cX5_done 6 = .ok (.iload_n 2, 1) := by decide +kernel
theorem dX5_done_7 : decode cX5_done 7 = .ok (.iload_n 3, 1) := by decide +kernel
theorem dX5_done_8 : decode cX5_done 8 = .ok (.iload 4, 2) := by decide +kernel
theorem dX5_done_10 : decode cX5_done 10 = .ok (.invokevirtual 191, 3) := by decide +kernel
theorem dX5_done_13 : decode cX5_done 13 = .ok (.ifCond .ne 17, 3) := by decide +kernel
theorem dX5_done_16 : decode cX5_done 16 = .ok (.aload_n 0, 1) := by decide +kernel
theorem dX5_done_17 : decode cX5_done 17 = .ok (.iconst 4, 1) := by decide +kernel
theorem dX5_done_18 : decode cX5_done 18 = .ok (.ldc 195, 2) := by decide +kernel
theorem dX5_done_20 : decode cX5_done 20 = .ok (.invokevirtual 175, 3) := by decide +kernel
theorem dX5_done_23 : decode cX5_done 23 = .ok (.aload_n 0, 1) := by decide +kernel
theorem dX5_done_24 : decode cX5_done 24 = .ok (.invokevirtual 188, 3) := by decide +kernel
theorem dX5_done_27 : decode cX5_done 27 = .ok (.goto (-23), 3) := by decide +kernel
theorem dX5_done_30 : decode cX5_done 30 = .ok (.aload_n 0, 1) := by decide +kernel
theorem dX5_done_31 : decode cX5_done 31 = .ok (.getfield 58, 3) := by decide +kernel
theorem dX5_done_34 : decode cX5_done 34 = .ok (.bipush 9, 2) := by decide +kernel
theorem dX5_done_36 : decode cX5_done 36 = .ok (.iaload, 1) := by decide +kernel
theorem dX5_done_37 : decode cX5_done 37 = .ok (.ireturn, 1) := by decide +kernel
theorem dX5_isItem_0 : decode cX5_isItem 0 = .ok (.iload_n 0, 1) := by decide +kernel
theorem dX5_isItem_1 : decode cX5_isItem 1 = .ok (.iconst 0, 1) := by decide +kernel
theorem dX5_isItem_2 : decode cX5_isItem 2 = .ok (.iconst 3, 1) := by decide +kernel
theorem dX5_isItem_3 : decode cX5_isItem 3 = .ok (.invokestatic 101, 3) := by decide +kernel
theorem dX5_isItem_6 : decode cX5_isItem 6 = .ok (.ireturn, 1) := by decide +kernel
theorem dX5_load_0 : decode cX5_load 0 = .ok (.iload_n 1, 1) := by decide +kernel
theorem dX5_load_1 : decode cX5_load 1 = .ok (.invokestatic 196, 3) := by decide +kernel
theorem dX5_load_4 : decode cX5_load 4 = .ok (.ifCond .eq 10, 3) := by decide +kernel
theorem dX5_load_7 : decode cX5_load 7 = .ok (.iload_n 2, 1) := by decide +kernel
theorem dX5_load_8 : decode cX5_load 8 = .ok (.invokestatic 200, 3) := by decide +kernel
theorem dX5_load_11 : decode cX5_load 11 = .ok (.ifCond .ne 8, 3) := by decide +kernel
theorem dX5_load_14 : decode cX5_load 14 = .ok (.aload_n 0, 1) := by decide +kernel
theorem dX5_load_15 : decode cX5_load 15 = .ok (.invokevirtual 130, 3) := by decide +kernel
theorem dX5_load_18 : decode cX5_load 18 = .ok (.ireturn, 1) := by decide +kernel
theorem dX5_load_19 : decode cX5_load 19 = .ok (.aload_n 0, 1) := by decide +kernel
theorem dX5_load_20 : decode cX5_load 20 = .ok (.invokevirtual 134, 3) := by decide +kernel
theorem dX5_load_23 : decode cX5_load 23 = .ok (.aload_n 0, 1) := by decide +kernel
theorem dX5_load_24 : decode cX5_load 24 = .ok (.iconst 0, 1) := by decide +kernel
theorem dX5_load_25 : decode cX5_load 25 = .ok (.iload_n 1, 1) := by decide +kernel
theorem dX5_load_26 : decode cX5_load 26 = .ok (.iload_n 2, 1) := by decide +kernel
theorem dX5_load_27 : decode cX5_load 27 = .ok (.iconst 0, 1) := by decide +kernel
theorem dX5_load_28 : decode cX5_load 28 = .ok (.invokevirtual 203, 3) := by decide +kernel
theorem dX5_load_31 : decode cX5_load 31 = .ok (.ireturn, 1) := by decide +kernel
theorem dX5_store_0 : decode cX5_store 0 = .ok (.iload_n 1, 1) := by decide +kernel
theorem dX5_store_1 : decode cX5_store 1 = .ok (.invokestatic 196, 3) := by decide +kernel
theorem dX5_store_4 : decode cX5_store 4 = .ok (.ifCond .eq 20, 3) := by decide +kernel
theorem dX5_store_7 : decode cX5_store 7 = .ok (.iload_n 2, 1) := by decide +kernel
theorem dX5_store_8 : decode cX5_store 8 = .ok (.invokestatic 200, 3) := by decide +kernel
theorem dX5_store_11 : decode cX5_store 11 = .ok (.ifCond .eq 13, 3) := by decide +kernel
theorem dX5_store_14 : decode cX5_store 14 = .ok (.iload_n 3, 1) := by decide +kernel
theorem dX5_store_15 : decode cX5_store 15 = .ok (.iconst 0, 1) := by decide +kernel
theorem dX5_store_16 : decode cX5_store 16 = .ok (.bipush 99, 2) := by decide +kernel
theorem dX5_store_18 : decode cX5_store 18 = .ok (.invokestatic 101, 3) := by decide +kernel
theorem dX5_store_21 : decode cX5_store 21 = .ok (.ifCond .ne 8, 3) := by decide +kernel
theorem dX5_store_24 : decode cX5_store 24 = .ok (.aload_n 0, 1) := by decide +kernel
theorem dX5_store_25 : decode cX5_store 25 = .ok (.invokevirtual 130, 3) := by decide +kernel
theorem dX5_store_28 : decode cX5_store 28 = .ok (.ireturn, 1) := by decide +kernel
theorem dX5_store_29 : decode cX5_store 29 = .ok (.aload_n 0, 1) := by decide +kernel
theorem dX5_store_30 : decode cX5_store 30 = .ok (.invokevirtual 134, 3) := by decide +kernel
theorem dX5_store_33 : decode cX5_store 33 = .ok (.aload_n 0, 1) := by decide +kernel
theorem dX5_store_34 : decode cX5_store 34 = .ok (.iconst 1, 1) := by decide +kernel
theorem dX5_store_35 : decode cX5_store 35 = .ok (.iload_n 1, 1) := by decide +kernel
theorem dX5_store_36 : decode cX5_store 36 = .ok (.iload_n 2, 1) := by decide +kernel
theorem dX5_store_37 : decode cX5_store 37 = .ok (.iload_n 3, 1) := by decide +kernel
theorem dX5_store_38 : decode cX5_store 38 = .ok (.invokevirtual 203, 3) := by decide +kernel
theorem dX5_store_41 : decode cX5_store 41 = .ok (.ireturn, 1) := by decide +kernel
theorem dX5_fence_0 : decode cX5_fence 0 = .ok (.aload_n 0, 1) := by decide +kernel
theorem dX5_fence_1 : decode cX5_fence 1 = .ok (.invokevirtual 134, 3) := by decide +kernel
theorem dX5_fence_4 : decode cX5_fence 4 = .ok (.aload_n 0, 1) := by decide +kernel
theorem dX5_fence_5 : decode cX5_fence 5 = .ok (.iconst 2, 1) := by decide +kernel
theorem dX5_fence_6 : decode cX5_fence 6 = .ok (.iconst 0, 1) := by decide +kernel
theorem dX5_fence_7 : decode cX5_fence 7 = .ok (.iconst 0, 1) := by decide +kernel
theorem dX5_fence_8 : decode cX5_fence 8 = .ok (.iconst 0, 1) := by decide +kernel
theorem dX5_fence_9 : decode cX5_fence 9 = .ok (.invokevirtual 203, 3) := by decide +kernel
theorem dX5_fence_12 : decode cX5_fence 12 = .ok (.ireturn, 1) := by decide +kernel
theorem dX5_ticks_0 : decode cX5_ticks 0 = .ok (.iload_n 1, 1) := by decide +kernel
theorem dX5_ticks_1 : decode cX5_ticks 1 = .ok (.iconst 0, 1) := by decide +kernel
theorem dX5_ticks_2 : decode cX5_ticks 2 = .ok (.bipush 99, 2) := by decide +kernel
theorem dX5_ticks_4 : decode cX5_ticks 4 = .ok (.invokestatic 101, 3) := by decide +kernel
theorem dX5_ticks_7 : decode cX5_ticks 7 = .ok (.ifCond .ne 8, 3) := by decide +kernel
theorem dX5_ticks_10 : decode cX5_ticks 10 = .ok (.aload_n 0, 1) := by decide +kernel
theorem dX5_ticks_11 : decode cX5_ticks 11 = .ok (.invokevirtual 130, 3) := by decide +kernel
theorem dX5_ticks_14 : decode cX5_ticks 14 = .ok (.ireturn, 1) := by decide +kernel
theorem dX5_ticks_15 : decode cX5_ticks 15 = .ok (.aload_n 0, 1) := by decide +kernel
theorem dX5_ticks_16 : decode cX5_ticks 16 = .ok (.invokevirtual 134, 3) := by decide +kernel
theorem dX5_ticks_19 : decode cX5_ticks 19 = .ok (.aload_n 0, 1) := by decide +kernel
theorem dX5_ticks_20 : decode cX5_ticks 20 = .ok (.getfield 58, 3) := by decide +kernel
theorem dX5_ticks_23 : decode cX5_ticks 23 = .ok (.bipush 8, 2) := by decide +kernel
theorem dX5_ticks_25 : decode cX5_ticks 25 = .ok (.iaload, 1) := by decide +kernel
theorem dX5_ticks_26 : decode cX5_ticks 26 = .ok (.istore_n 2, 1) := by decide +kernel
theorem dX5_ticks_27 : decode cX5_ticks 27 = .ok (.iconst 0, 1) := by decide +kernel
theorem dX5_ticks_28 : decode cX5_ticks 28 = .ok (.istore_n 3, 1) := by decide +kernel
theorem dX5_ticks_29 : decode cX5_ticks 29 = .ok (.iload_n 3, 1) := by decide +kernel
theorem dX5_ticks_30 : decode cX5_ticks 30 = .ok (.iload_n 1, 1) := by decide +kernel
theorem dX5_ticks_31 : decode cX5_ticks 31 = .ok (.if_icmp .ge 13, 3) := by decide +kernel
theorem dX5_ticks_34 : decode cX5_ticks 34 = .ok (.aload_n 0, 1) := by decide +kernel
theorem dX5_ticks_35 : decode cX5_ticks 35 = .ok (.invokevirtual 188, 3) := by decide +kernel
theorem dX5_ticks_38 : decode cX5_ticks 38 = .ok (.iinc 3 1, 3) := by decide +kernel
theorem dX5_ticks_41 : decode cX5_ticks 41 = .ok (.goto (-12), 3) := by decide +kernel
theorem dX5_ticks_44 : decode cX5_ticks 44 = .ok (.aload_n 0, 1) := by decide +kernel
theorem dX5_ticks_45 : decode cX5_ticks 45 = .ok (.getfield 58, 3) := by decide +kernel
theorem dX5_ticks_48 : decode cX5_ticks 48 = .ok (.bipush 8, 2) := by decide +kernel
theorem dX5_ticks_50 : decode cX5_ticks 50 = .ok (.iaload, 1) := by decide +kernel
theorem dX5_ticks_51 : decode cX5_ticks 51 = .ok (.iload_n 2, 1) := by decide +kernel
theorem dX5_ticks_52 : decode cX5_ticks 52 = .ok (.isub, 1) := by decide +kernel
theorem dX5_ticks_53 : decode cX5_ticks 53 = .ok (.ireturn, 1) := by decide +kernel
theorem dX5_draw_0 : decode cX5_draw 0 = .ok (.iload_n 1, 1) := by decide +kernel
theorem dX5_draw_1 : decode cX5_draw 1 = .ok (.iconst 0, 1) := by decide +kernel
theorem dX5_draw_2 : decode cX5_draw 2 = .ok (.ldc 207, 2) := by decide +kernel
theorem dX5_draw_4 : decode cX5_draw 4 = .ok (.invokestatic 101, 3) := by decide +kernel
theorem dX5_draw_7 : decode cX5_draw 7 = .ok (.ifCond .eq 13, 3) := by decide +kernel
theorem dX5_draw_10 : decode cX5_draw 10 = .ok (.iload_n 2, 1) := by decide +kernel
theorem dX5_draw_11 : decode cX5_draw 11 = .ok (.iconst 1, 1) := by decide +kernel
theorem dX5_draw_12 : decode cX5_draw 12 = .ok (.bipush 40, 2) := by decide +kernel
theorem dX5_draw_14 : decode cX5_draw 14 = .ok (.invokestatic 101, 3) := by decide +kernel
theorem dX5_draw_17 : decode cX5_draw 17 = .ok (.ifCond .ne 8, 3) := by decide +kernel
theorem dX5_draw_20 : decode cX5_draw 20 = .ok (.aload_n 0, 1) := by decide +kernel
theorem dX5_draw_21 : decode cX5_draw 21 = .ok (.invokevirtual 130, 3) := by decide +kernel
theorem dX5_draw_24 : decode cX5_draw 24 = .ok (.ireturn, 1) := by decide +kernel
theorem dX5_draw_25 : decode cX5_draw 25 = .ok (.aload_n 0, 1) := by decide +kernel
theorem dX5_draw_26 : decode cX5_draw 26 = .ok (.invokevirtual 134, 3) := by decide +kernel
theorem dX5_draw_29 : decode cX5_draw 29 = .ok (.aload_n 0, 1) := by decide +kernel
theorem dX5_draw_30 : decode cX5_draw 30 = .ok (.getfield 58, 3) := by decide +kernel
theorem dX5_draw_33 : decode cX5_draw 33 = .ok (.bipush 9, 2) := by decide +kernel
theorem dX5_draw_35 : decode cX5_draw 35 = .ok (.iaload, 1) := by decide +kernel
theorem dX5_draw_36 : decode cX5_draw 36 = .ok (.istore_n 3, 1) := by decide +kernel
theorem dX5_draw_37 : decode cX5_draw 37 = .ok (.iload_n 1, 1) := by decide +kernel
theorem dX5_draw_38 : decode cX5_draw 38 = .ok (.i2l, 1) := by decide +kernel
theorem dX5_draw_39 : decode cX5_draw 39 = .ok (.lstore 4, 2) := by decide +kernel
theorem dX5_draw_41 : decode cX5_draw 41 = .ok (.iconst 0, 1) := by decide +kernel
theorem dX5_draw_42 : decode cX5_draw 42 = .ok (.istore 6, 2) := by decide +kernel
theorem dX5_draw_44 : decode cX5_draw 44 = .ok (.iload 6, 2) := by decide +kernel
theorem dX5_draw_46 : decode cX5_draw 46 = .ok (.iload_n 2, 1) := by decide +kernel
theorem dX5_draw_47 : decode cX5_draw 47 = .ok (.if_icmp .ge 87, 3) := by decide +kernel
theorem dX5_draw_50 : decode cX5_draw 50 = .ok (.lload 4, 2) := by decide +kernel
theorem dX5_draw_52 : decode cX5_draw 52 = .ok (.ldc2_w 208, 3) := by decide +kernel
theorem dX5_draw_55 : decode cX5_draw 55 = .ok (.lmul, 1) := by decide +kernel
theorem dX5_draw_56 : decode cX5_draw 56 = .ok (.ldc2_w 210, 3) := by decide +kernel
theorem dX5_draw_59 : decode cX5_draw 59 = .ok (.ladd, 1) := by decide +kernel
theorem dX5_draw_60 : decode cX5_draw 60 = .ok (.ldc2_w 212, 3) := by decide +kernel
theorem dX5_draw_63 : decode cX5_draw 63 = .ok (.lrem, 1) := by decide +kernel
theorem dX5_draw_64 : decode cX5_draw 64 = .ok (.lstore 4, 2) := by decide +kernel
theorem dX5_draw_66 : decode cX5_draw 66 = .ok (.lload 4, 2) := by decide +kernel
theorem dX5_draw_68 : decode cX5_draw 68 = .ok (.ldc2_w 214, 3) := by decide +kernel
theorem dX5_draw_71 : decode cX5_draw 71 = .ok (.ldiv, 1) := by decide +kernel
theorem dX5_draw_72 : decode cX5_draw 72 = .ok (.ldc2_w 216, 3) := by decide +kernel
theorem dX5_draw_75 : decode cX5_draw 75 = .ok (.lrem, 1) := by decide +kernel
theorem dX5_draw_76 : decode cX5_draw 76 = .ok (.lconst 0, 1) := by decide +kernel
theorem dX5_draw_77 : decode cX5_draw 77 = .ok (.lcmp, 1) := by decide +kernel
theorem dX5_draw_78 : decode cX5_draw 78 = .ok (.ifCond .ne 7, 3) := by decide +kernel
theorem dX5_draw_81 : decode cX5_draw 81 = .ok (.iconst 1, 1) := by decide +kernel
theorem dX5_draw_82 : decode cX5_draw 82 = .ok (.goto 4, 3) := by decide +kernel
theorem dX5_draw_85 : decode cX5_draw 85 = .ok (.iconst 0, 1) := by decide +kernel
theorem dX5_draw_86 : decode cX5_draw 86 = .ok (.istore 7, 2) := by decide +kernel
theorem dX5_draw_88 : decode cX5_draw 88 = .ok (.aload_n 0, 1) := by decide +kernel
theorem dX5_draw_89 : decode cX5_draw 89 = .ok (.iload 7, 2) := by decide +kernel
theorem dX5_draw_91 : decode cX5_draw 91 = .ok (.lload 4, 2) := by decide +kernel
theorem dX5_draw_93 : decode cX5_draw 93 = .ok (.ldc2_w 218, 3) := by decide +kernel
theorem dX5_draw_96 : decode cX5_draw 96 = .ok (.ldiv, 1) := by decide +kernel
theorem dX5_draw_97 : decode cX5_draw 97 = .ok (.ldc2_w 220, 3) := by decide +kernel
theorem dX5_draw_100 : decode cX5_draw 100 = .ok (.lrem, 1) := by decide +kernel
theorem dX5_draw_101 : decode cX5_draw 101 = .ok (.l2i, 1) := by decide +kernel
theorem dX5_draw_102 : decode cX5_draw 102 = .ok (.lload 4, 2) := by decide +kernel
theorem dX5_draw_104 : decode cX5_draw 104 = .ok (.ldc2_w 222, 3) := by decide +kernel
theorem dX5_draw_107 : decode cX5_draw 107 = .ok (.ldiv, 1) := by decide +kernel
theorem dX5_draw_108 : decode cX5_draw 108 = .ok (.ldc2_w 224, 3) := by decide +kernel
theorem dX5_draw_111 : decode cX5_draw 111 = .ok (.lrem, 1) := by decide +kernel
theorem dX5_draw_112 : decode cX5_draw 112 = .ok (.l2i, 1) := by decide +kernel
theorem dX5_draw_113 : decode cX5_draw 113 = .ok (.lload 4, 2) := by decide +kernel
theorem dX5_draw_115 : decode cX5_draw 115 = .ok (.ldc2_w 226, 3) := by decide +kernel
theorem dX5_draw_118 : decode cX5_draw 118 = .ok (.ldiv, 1) := by decide +kernel
theorem dX5_draw_119 : decode cX5_draw 119 = .ok (.ldc2_w 228, 3) := by decide +kernel
theorem dX5_draw_122 : decode cX5_draw 122 = .ok (.lrem, 1) := by decide +kernel
theorem dX5_draw_123 : decode cX5_draw 123 = .ok (.l2i, 1) := by decide +kernel
theorem dX5_draw_124 : decode cX5_draw 124 = .ok (.invokevirtual 203, 3) := by decide +kernel
theorem dX5_draw_127 : decode cX5_draw 127 = .ok (.pop, 1) := by decide +kernel
theorem dX5_draw_128 : decode cX5_draw 128 = .ok (.iinc 6 1, 3) := by decide +kernel
theorem dX5_draw_131 : decode cX5_draw 131 = .ok (.goto (-87), 3) := by decide +kernel
theorem dX5_draw_134 : decode cX5_draw 134 = .ok (.aload_n 0, 1) := by decide +kernel
theorem dX5_draw_135 : decode cX5_draw 135 = .ok (.getfield 58, 3) := by decide +kernel
theorem dX5_draw_138 : decode cX5_draw 138 = .ok (.bipush 9, 2) := by decide +kernel
theorem dX5_draw_140 : decode cX5_draw 140 = .ok (.iaload, 1) := by decide +kernel
theorem dX5_draw_141 : decode cX5_draw 141 = .ok (.iload_n 3, 1) := by decide +kernel
theorem dX5_draw_142 : decode cX5_draw 142 = .ok (.isub, 1) := by decide +kernel
theorem dX5_draw_143 : decode cX5_draw 143 = .ok (.ireturn, 1) := by decide +kernel
theorem dX5_got_0 : decode cX5_got 0 = .ok (.iload_n 1, 1) := by decide +kernel
theorem dX5_got_1 : decode cX5_got 1 = .ok (.ifCond .lt 12, 3) := by decide +kernel
theorem dX5_got_4 : decode cX5_got 4 = .ok (.iload_n 2, 1) := by decide +kernel
theorem dX5_got_5 : decode cX5_got 5 = .ok (.iconst 0, 1) := by decide +kernel
theorem dX5_got_6 : decode cX5_got 6 = .ok (.iconst 2, 1) := by decide +kernel
theorem dX5_got_7 : decode cX5_got 7 = .ok (.invokestatic 101, 3) := by decide +kernel
theorem dX5_got_10 : decode cX5_got 10 = .ok (.ifCond .ne 8, 3) := by decide +kernel
theorem dX5_got_13 : decode cX5_got 13 = .ok (.aload_n 0, 1) := by decide +kernel
theorem dX5_got_14 : decode cX5_got 14 = .ok (.invokevirtual 130, 3) := by decide +kernel
theorem dX5_got_17 : decode cX5_got 17 = .ok (.ireturn, 1) := by decide +kernel
theorem dX5_got_18 : decode cX5_got 18 = .ok (.iload_n 1, 1) := by decide +kernel
theorem dX5_got_19 : decode cX5_got 19 = .ok (.aload_n 0, 1) := by decide +kernel
theorem dX5_got_20 : decode cX5_got 20 = .ok (.getfield 58, 3) := by decide +kernel
theorem dX5_got_23 : decode cX5_got 23 = .ok (.bipush 7, 2) := by decide +kernel
theorem dX5_got_25 : decode cX5_got 25 = .ok (.iaload, 1) := by decide +kernel
theorem dX5_got_26 : decode cX5_got 26 = .ok (.if_icmp .ge 10, 3) := by decide +kernel
theorem dX5_got_29 : decode cX5_got 29 = .ok (.iload_n 1, 1) := by decide +kernel
theorem dX5_got_30 : decode cX5_got 30 = .ok (.sipush 200, 3) := by decide +kernel
theorem dX5_got_33 : decode cX5_got 33 = .ok (.if_icmp .lt 5, 3) := by decide +kernel
theorem dX5_got_36 : decode cX5_got 36 = .ok (.iconst (-1), 1) := by decide +kernel
theorem dX5_got_37 : decode cX5_got 37 = .ok (.ireturn, 1) := by decide +kernel
theorem dX5_got_38 : decode cX5_got 38 = .ok (.iload_n 2, 1) := by decide +kernel
theorem dX5_got_39 : decode cX5_got 39 = .ok (.ifCond .ne 12, 3) := by decide +kernel
theorem dX5_got_42 : decode cX5_got 42 = .ok (.aload_n 0, 1) := by decide +kernel
theorem dX5_got_43 : decode cX5_got 43 = .ok (.getfield 61, 3) := by decide +kernel
theorem dX5_got_46 : decode cX5_got 46 = .ok (.iload_n 1, 1) := by decide +kernel
theorem dX5_got_47 : decode cX5_got 47 = .ok (.iaload, 1) := by decide +kernel
theorem dX5_got_48 : decode cX5_got 48 = .ok (.goto 23, 3) := by decide +kernel
theorem dX5_got_51 : decode cX5_got 51 = .ok (.iload_n 2, 1) := by decide +kernel
theorem dX5_got_52 : decode cX5_got 52 = .ok (.iconst 1, 1) := by decide +kernel
theorem dX5_got_53 : decode cX5_got 53 = .ok (.if_icmp .ne 12, 3) := by decide +kernel
theorem dX5_got_56 : decode cX5_got 56 = .ok (.aload_n 0, 1) := by decide +kernel
theorem dX5_got_57 : decode cX5_got 57 = .ok (.getfield 64, 3) := by decide +kernel
theorem dX5_got_60 : decode cX5_got 60 = .ok (.iload_n 1, 1) := by decide +kernel
theorem dX5_got_61 : decode cX5_got 61 = .ok (.iaload, 1) := by decide +kernel
theorem dX5_got_62 : decode cX5_got 62 = .ok (.goto 9, 3) := by decide +kernel
theorem dX5_got_65 : decode cX5_got 65 = .ok (.aload_n 0, 1) := by decide +kernel
theorem dX5_got_66 : decode cX5_got 66 = .ok (.getfield 67, 3) := by decide +kernel
theorem dX5_got_69 : decode cX5_got 69 = .ok (.iload_n 1, 1) := by decide +kernel
theorem dX5_got_70 : decode cX5_got 70 = .ok (.iaload, 1) := by decide +kernel
theorem dX5_got_71 : decode cX5_got 71 = .ok (.ireturn, 1) := by decide +kernel
theorem dX5_often_0 : decode cX5_often 0 = .ok (.iload_n 1, 1) := by decide +kernel
theorem dX5_often_1 : decode cX5_often 1 = .ok (.iconst 0, 1) := by decide +kernel
theorem dX5_often_2 : decode cX5_often 2 = .ok (.bipush 9, 2) := by decide +kernel
theorem dX5_often_4 : decode cX5_often 4 = .ok (.invokestatic 101, 3) := by decide +kernel
theorem dX5_often_7 : decode cX5_often 7 = .ok (.ifCond .eq 12, 3) := by decide +kernel
theorem dX5_often_10 : decode cX5_often 10 = .ok (.aload_n 0, 1) := by decide +kernel
theorem dX5_often_11 : decode cX5_often 11 = .ok (.getfield 58, 3) := by decide +kernel
theorem dX5_often_14 : decode cX5_often 14 = .ok (.iload_n 1, 1) := by decide +kernel
theorem dX5_often_15 : decode cX5_often 15 = .ok (.iaload, 1) := by decide +kernel
theorem dX5_often_16 : decode cX5_often 16 = .ok (.goto 7, 3) := by decide +kernel
theorem dX5_often_19 : decode cX5_often 19 = .ok (.aload_n 0, 1) := by decide +kernel
theorem dX5_often_20 : decode cX5_often 20 = .ok (.invokevirtual 130, 3) := by decide +kernel
theorem dX5_often_23 : decode cX5_often 23 = .ok (.ireturn, 1) := by decide +kernel
theorem dX5_where_0 : decode cX5_where 0 = .ok (.iload_n 1, 1) := by decide +kernel
theorem dX5_where_1 : decode cX5_where 1 = .ok (.invokestatic 196, 3) := by decide +kernel
theorem dX5_where_4 : decode cX5_where 4 = .ok (.ifCond .eq 12, 3) := by decide +kernel
theorem dX5_where_7 : decode cX5_where 7 = .ok (.aload_n 0, 1) := by decide +kernel
theorem dX5_where_8 : decode cX5_where 8 = .ok (.getfield 25, 3) := by decide +kernel
theorem dX5_where_11 : decode cX5_where 11 = .ok (.iload_n 1, 1) := by decide +kernel
theorem dX5_where_12 : decode cX5_where 12 = .ok (.iaload, 1) := by decide +kernel
theorem dX5_where_13 : decode cX5_where 13 = .ok (.goto 7, 3) := by decide +kernel
theorem dX5_where_16 : decode cX5_where 16 = .ok (.aload_n 0, 1) := by decide +kernel
theorem dX5_where_17 : decode cX5_where 17 = .ok (.invokevirtual 130, 3) := by decide +kernel
theorem dX5_where_20 : decode cX5_where 20 = .ok (.ireturn, 1) := by decide +kernel
theorem dX5_atLast_0 : decode cX5_atLast 0 = .ok (.aload_n 0, 1) := by decide +kernel
theorem dX5_atLast_1 : decode cX5_atLast 1 = .ok (.getfield 25, 3) := by decide +kernel
theorem dX5_atLast_4 : decode cX5_atLast 4 = .ok (.iload_n 1, 1) := by decide +kernel
theorem dX5_atLast_5 : decode cX5_atLast 5 = .ok (.iaload, 1) := by decide +kernel
theorem dX5_atLast_6 : decode cX5_atLast 6 = .ok (.iconst 1, 1) := by decide +kernel
theorem dX5_atLast_7 : decode cX5_atLast 7 = .ok (.if_icmp .eq 13, 3) := by decide +kernel
theorem dX5_atLast_10 : decode cX5_atLast 10 = .ok (.aload_n 0, 1) := by decide +kernel
theorem dX5_atLast_11 : decode cX5_atLast 11 = .ok (.getfield 25, 3) := by decide +kernel
theorem dX5_atLast_14 : decode cX5_atLast 14 = .ok (.iload_n 1, 1) := by decide +kernel
theorem dX5_atLast_15 : decode cX5_atLast 15 = .ok (.iaload, 1) := by decide +kernel
theorem dX5_atLast_16 : decode cX5_atLast 16 = .ok (.iconst 2, 1) := by decide +kernel
theorem dX5_atLast_17 : decode cX5_atLast 17 = .ok (.if_icmp .ne 14, 3) := by decide +kernel
theorem dX5_atLast_20 : decode cX5_atLast 20 = .ok (.aload_n 0, 1) := by decide +kernel
theorem dX5_atLast_21 : decode cX5_atLast 21 = .ok (.getfield 19, 3) := by decide +kernel
theorem dX5_atLast_24 : decode cX5_atLast 24 = .ok (.iconst 4, 1) := by decide +kernel
theorem dX5_atLast_25 : decode cX5_atLast 25 = .ok (.iload_n 1, 1) := by decide +kernel
theorem dX5_atLast_26 : decode cX5_atLast 26 = .ok (.imul, 1) := by decide +kernel
theorem dX5_atLast_27 : decode cX5_atLast 27 = .ok (.iload_n 2, 1) := by decide +kernel
theorem dX5_atLast_28 : decode cX5_atLast 28 = .ok (.iadd, 1) := by decide +kernel
theorem dX5_atLast_29 : decode cX5_atLast 29 = .ok (.iaload, 1) := by decide +kernel
theorem dX5_atLast_30 : decode cX5_atLast 30 = .ok (.ireturn, 1) := by decide +kernel
theorem dX5_atLast_31 : decode cX5_atLast 31 = .ok (.aload_n 0, 1) := by decide +kernel
theorem dX5_atLast_32 : decode cX5_atLast 32 = .ok (.getfield 16, 3) := by decide +kernel
theorem dX5_atLast_35 : decode cX5_atLast 35 = .ok (.iconst 4, 1) := by decide +kernel
theorem dX5_atLast_36 : decode cX5_atLast 36 = .ok (.iload_n 1, 1) := by decide +kernel
theorem dX5_atLast_37 : decode cX5_atLast 37 = .ok (.imul, 1) := by decide +kernel
theorem dX5_atLast_38 : decode cX5_atLast 38 = .ok (.iload_n 2, 1) := by decide +kernel
theorem dX5_atLast_39 : decode cX5_atLast 39 = .ok (.iadd, 1) := by decide +kernel
theorem dX5_atLast_40 : decode cX5_atLast 40 = .ok (.iaload, 1) := by decide +kernel
theorem dX5_atLast_41 : decode cX5_atLast 41 = .ok (.istore_n 3, 1) := by decide +kernel
theorem dX5_atLast_42 : decode cX5_atLast 42 = .ok (.iconst 0, 1) := by decide +kernel
theorem dX5_atLast_43 : decode cX5_atLast 43 = .ok (.istore 4, 2) := by decide +kernel
theorem dX5_atLast_45 : decode cX5_atLast 45 = .ok (.iload 4, 2) := by decide +kernel
theorem dX5_atLast_47 : decode cX5_atLast 47 = .ok (.aload_n 0, 1) := by decide +kernel
theorem dX5_atLast_48 : decode cX5_atLast 48 = .ok (.getfield 40, 3) := by decide +kernel
theorem dX5_atLast_51 : decode cX5_atLast 51 = .ok (.iload_n 1, 1) := by decide +kernel
theorem dX5_atLast_52 : decode cX5_atLast 52 = .ok (.iaload, 1) := by decide +kernel
theorem dX5_atLast_53 : decode cX5_atLast 53 = .ok (.if_icmp .ge 51, 3) := by decide +kernel
theorem dX5_atLast_56 : decode cX5_atLast 56 = .ok (.iconst 4, 1) := by decide +kernel
theorem dX5_atLast_57 : decode cX5_atLast 57 = .ok (.iload_n 1, 1) := by decide +kernel
theorem dX5_atLast_58 : decode cX5_atLast 58 = .ok (.imul, 1) := by decide +kernel
theorem dX5_atLast_59 : decode cX5_atLast 59 = .ok (.iload 4, 2) := by decide +kernel
theorem dX5_atLast_61 : decode cX5_atLast 61 = .ok (.iadd, 1) := by decide +kernel
theorem dX5_atLast_62 : decode cX5_atLast 62 = .ok (.istore 5, 2) := by decide +kernel
theorem dX5_atLast_64 : decode cX5_atLast 64 = .ok (.aload_n 0, 1) := by decide +kernel
theorem dX5_atLast_65 : decode cX5_atLast 65 = .ok (.getfield 52, 3) := by decide +kernel
theorem dX5_atLast_68 : decode cX5_atLast 68 = .ok (.iload 5, 2) := by decide +kernel
theorem dX5_atLast_70 : decode cX5_atLast 70 = .ok (.iaload, 1) := by decide +kernel
theorem dX5_atLast_71 : decode cX5_atLast 71 = .ok (.iconst (-1), 1) := by decide +kernel
theorem dX5_atLast_72 : decode cX5_atLast 72 = .ok (.if_icmp .ne 24, 3) := by decide +kernel
theorem dX5_atLast_75 : decode cX5_atLast 75 = .ok (.aload_n 0, 1) := by decide +kernel
theorem dX5_atLast_76 : decode cX5_atLast 76 = .ok (.getfield 43, 3) := by decide +kernel
theorem dX5_atLast_79 : decode cX5_atLast 79 = .ok (.iload 5, 2) := by decide +kernel
theorem dX5_atLast_81 : decode cX5_atLast 81 = .ok (.iaload, 1) := by decide +kernel
theorem dX5_atLast_82 : decode cX5_atLast 82 = .ok (.iload_n 2, 1) := by decide +kernel
theorem dX5_atLast_83 : decode cX5_atLast 83 = .ok (.if_icmp .ne 13, 3) := by decide +kernel
theorem dX5_atLast_86 : decode cX5_atLast 86 = .ok (.aload_n 0, 1) := by decide +kernel
theorem dX5_atLast_87 : decode cX5_atLast 87 = .ok (.getfield 46, 3) := by decide +kernel
theorem dX5_atLast_90 : decode cX5_atLast 90 = .ok (.iload 5, 2) := by decide +kernel
theorem dX5_atLast_92 : decode cX5_atLast 92 = .ok (.iaload, 1) := by decide +kernel
theorem dX5_atLast_93 : decode cX5_atLast 93 = .ok (.goto 4, 3) := by decide +kernel
theorem dX5_atLast_96 : decode cX5_atLast 96 = .ok (.iload_n 3, 1) := by decide +kernel
theorem dX5_atLast_97 : decode cX5_atLast 97 = .ok (.istore_n 3, 1) := by decide +kernel
theorem dX5_atLast_98 : decode cX5_atLast 98 = .ok (.iinc 4 1, 3) := by decide +kernel
theorem dX5_atLast_101 : decode cX5_atLast 101 = .ok (.goto (-56), 3) := by decide +kernel
theorem dX5_atLast_104 : decode cX5_atLast 104 = .ok (.iload_n 3, 1) := by decide +kernel
theorem dX5_atLast_105 : decode cX5_atLast 105 = .ok (.ireturn, 1) := by decide +kernel
theorem dX5_item_0 : decode cX5_item 0 = .ok (.iload_n 1, 1) := by decide +kernel
theorem dX5_item_1 : decode cX5_item 1 = .ok (.invokestatic 196, 3) := by decide +kernel
theorem dX5_item_4 : decode cX5_item 4 = .ok (.ifCond .eq 19, 3) := by decide +kernel
theorem dX5_item_7 : decode cX5_item 7 = .ok (.iload_n 2, 1) := by decide +kernel
theorem dX5_item_8 : decode cX5_item 8 = .ok (.invokestatic 200, 3) := by decide +kernel
theorem dX5_item_11 : decode cX5_item 11 = .ok (.ifCond .eq 12, 3) := by decide +kernel
theorem dX5_item_14 : decode cX5_item 14 = .ok (.iload_n 3, 1) := by decide +kernel
theorem dX5_item_15 : decode cX5_item 15 = .ok (.iconst 0, 1) := by decide +kernel
theorem dX5_item_16 : decode cX5_item 16 = .ok (.iconst 2, 1) := by decide +kernel
theorem dX5_item_17 : decode cX5_item 17 = .ok (.invokestatic 101, 3) := by decide +kernel
theorem dX5_item_20 : decode cX5_item 20 = .ok (.ifCond .ne 8, 3) := by decide +kernel
theorem dX5_item_23 : decode cX5_item 23 = .ok (.aload_n 0, 1) := by decide +kernel
theorem dX5_item_24 : decode cX5_item 24 = .ok (.invokevirtual 130, 3) := by decide +kernel
theorem dX5_item_27 : decode cX5_item 27 = .ok (.ireturn, 1) := by decide +kernel
theorem dX5_item_28 : decode cX5_item 28 = .ok (.aload_n 0, 1) := by decide +kernel
theorem dX5_item_29 : decode cX5_item 29 = .ok (.getfield 25, 3) := by decide +kernel
theorem dX5_item_32 : decode cX5_item 32 = .ok (.iload_n 1, 1) := by decide +kernel
theorem dX5_item_33 : decode cX5_item 33 = .ok (.iaload, 1) := by decide +kernel
theorem dX5_item_34 : decode cX5_item 34 = .ok (.iconst 1, 1) := by decide +kernel
theorem dX5_item_35 : decode cX5_item 35 = .ok (.if_icmp .eq 13, 3) := by decide +kernel
theorem dX5_item_38 : decode cX5_item 38 = .ok (.aload_n 0, 1) := by decide +kernel
theorem dX5_item_39 : decode cX5_item 39 = .ok (.getfield 25, 3) := by decide +kernel
theorem dX5_item_42 : decode cX5_item 42 = .ok (.iload_n 1, 1) := by decide +kernel
theorem dX5_item_43 : decode cX5_item 43 = .ok (.iaload, 1) := by decide +kernel
theorem dX5_item_44 : decode cX5_item 44 = .ok (.iconst 2, 1) := by decide +kernel
theorem dX5_item_45 : decode cX5_item 45 = .ok (.if_icmp .ne 7, 3) := by decide +kernel
theorem dX5_item_48 : decode cX5_item 48 = .ok (.iconst 1, 1) := by decide +kernel
theorem dX5_item_49 : decode cX5_item 49 = .ok (.goto 4, 3) := by decide +kernel
theorem dX5_item_52 : decode cX5_item 52 = .ok (.iconst 0, 1) := by decide +kernel
theorem dX5_item_53 : decode cX5_item 53 = .ok (.istore 4, 2) := by decide +kernel
theorem dX5_item_55 : decode cX5_item 55 = .ok (.iload_n 3, 1) := by decide +kernel
theorem dX5_item_56 : decode cX5_item 56 = .ok (.ifCond .ne 16, 3) := by decide +kernel
theorem dX5_item_59 : decode cX5_item 59 = .ok (.aload_n 0, 1) := by decide +kernel
theorem dX5_item_60 : decode cX5_item 60 = .ok (.getfield 16, 3) := by decide +kernel
theorem dX5_item_63 : decode cX5_item 63 = .ok (.iconst 4, 1) := by decide +kernel
theorem dX5_item_64 : decode cX5_item 64 = .ok (.iload_n 1, 1) := by decide +kernel
theorem dX5_item_65 : decode cX5_item 65 = .ok (.imul, 1) := by decide +kernel
theorem dX5_item_66 : decode cX5_item 66 = .ok (.iload_n 2, 1) := by decide +kernel
theorem dX5_item_67 : decode cX5_item 67 = .ok (.iadd, 1) := by decide +kernel
theorem dX5_item_68 : decode cX5_item 68 = .ok (.iaload, 1) := by decide +kernel
theorem dX5_item_69 : decode cX5_item 69 = .ok (.goto 36, 3) := by decide +kernel
theorem dX5_item_72 : decode cX5_item 72 = .ok (.iload_n 3, 1) := by decide +kernel
theorem dX5_item_73 : decode cX5_item 73 = .ok (.iconst 1, 1) := by decide +kernel
theorem dX5_item_74 : decode cX5_item 74 = .ok (.if_icmp .ne 12, 3) := by decide +kernel
theorem dX5_item_77 : decode cX5_item 77 = .ok (.aload_n 0, 1) := by decide +kernel
theorem dX5_item_78 : decode cX5_item 78 = .ok (.iload_n 1, 1) := by decide +kernel
theorem dX5_item_79 : decode cX5_item 79 = .ok (.iload_n 2, 1) := by decide +kernel
theorem dX5_item_80 : decode cX5_item 80 = .ok (.invokevirtual 230, 3) := by decide +kernel
theorem dX5_item_83 : decode cX5_item 83 = .ok (.goto 22, 3) := by decide +kernel
theorem dX5_item_86 : decode cX5_item 86 = .ok (.iload 4, 2) := by decide +kernel
theorem dX5_item_88 : decode cX5_item 88 = .ok (.ifCond .eq 16, 3) := by decide +kernel
theorem dX5_item_91 : decode cX5_item 91 = .ok (.aload_n 0, 1) := by decide +kernel
theorem dX5_item_92 : decode cX5_item 92 = .ok (.getfield 22, 3) := by decide +kernel
theorem dX5_item_95 : decode cX5_item 95 = .ok (.iload_n 1, 1) := by decide +kernel
theorem dX5_item_96 : decode cX5_item 96 = .ok (.iaload, 1) := by decide +kernel
theorem dX5_item_97 : decode cX5_item 97 = .ok (.iload_n 2, 1) := by decide +kernel
theorem dX5_item_98 : decode cX5_item 98 = .ok (.ishr, 1) := by decide +kernel
theorem dX5_item_99 : decode cX5_item 99 = .ok (.iconst 1, 1) := by decide +kernel
theorem dX5_item_100 : decode cX5_item 100 = .ok (.iand, 1) := by decide +kernel
theorem dX5_item_101 : decode cX5_item 101 = .ok (.goto 4, 3) := by decide +kernel
theorem dX5_item_104 : decode cX5_item 104 = .ok (.iconst 0, 1) := by decide +kernel
theorem dX5_item_105 : decode cX5_item 105 = .ok (.ireturn, 1) := by decide +kernel
theorem dX5_place_0 : decode cX5_place 0 = .ok (.iload_n 1, 1) := by decide +kernel
theorem dX5_place_1 : decode cX5_place 1 = .ok (.iconst 0, 1) := by decide +kernel
theorem dX5_place_2 : decode cX5_place 2 = .ok (.iconst 3, 1) := by decide +kernel
theorem dX5_place_3 : decode cX5_place 3 = .ok (.invokestatic 101, 3) := by decide +kernel
theorem dX5_place_6 : decode cX5_place 6 = .ok (.ifCond .eq 12, 3) := by decide +kernel
theorem dX5_place_9 : decode cX5_place 9 = .ok (.iload_n 2, 1) := by decide +kernel
theorem dX5_place_10 : decode cX5_place 10 = .ok (.iconst 0, 1) := by decide +kernel
theorem dX5_place_11 : decode cX5_place 11 = .ok (.iconst 2, 1) := by decide +kernel
theorem dX5_place_12 : decode cX5_place 12 = .ok (.invokestatic 101, 3) := by decide +kernel
theorem dX5_place_15 : decode cX5_place 15 = .ok (.ifCond .ne 8, 3) := by decide +kernel
theorem dX5_place_18 : decode cX5_place 18 = .ok (.aload_n 0, 1) := by decide +kernel
theorem dX5_place_19 : decode cX5_place 19 = .ok (.invokevirtual 130, 3) := by decide +kernel
theorem dX5_place_22 : decode cX5_place 22 = .ok (.ireturn, 1) := by decide +kernel
theorem dX5_place_23 : decode cX5_place 23 = .ok (.iload_n 2, 1) := by decide +kernel
theorem dX5_place_24 : decode cX5_place 24 = .ok (.aload_n 0, 1) := by decide +kernel
theorem dX5_place_25 : decode cX5_place 25 = .ok (.getfield 31, 3) := by decide +kernel
theorem dX5_place_28 : decode cX5_place 28 = .ok (.iload_n 1, 1) := by decide +kernel
theorem dX5_place_29 : decode cX5_place 29 = .ok (.iaload, 1) := by decide +kernel
theorem dX5_place_30 : decode cX5_place 30 = .ok (.if_icmp .ge 16, 3) := by decide +kernel
theorem dX5_place_33 : decode cX5_place 33 = .ok (.aload_n 0, 1) := by decide +kernel
theorem dX5_place_34 : decode cX5_place 34 = .ok (.getfield 34, 3) := by decide +kernel
theorem dX5_place_37 : decode cX5_place 37 = .ok (.iconst 3, 1) := by decide +kernel
theorem dX5_place_38 : decode cX5_place 38 = .ok (.iload_n 1, 1) := by decide +kernel
theorem dX5_place_39 : decode cX5_place 39 = .ok (.imul, 1) := by decide +kernel
theorem dX5_place_40 : decode cX5_place 40 = .ok (.iload_n 2, 1) := by decide +kernel
theorem dX5_place_41 : decode cX5_place 41 = .ok (.iadd, 1) := by decide +kernel
theorem dX5_place_42 : decode cX5_place 42 = .ok (.iaload, 1) := by decide +kernel
theorem dX5_place_43 : decode cX5_place 43 = .ok (.goto 4, 3) := by decide +kernel
theorem dX5_place_46 : decode cX5_place 46 = .ok (.iconst (-1), 1) := by decide +kernel
theorem dX5_place_47 : decode cX5_place 47 = .ok (.ireturn, 1) := by decide +kernel
theorem dX5_fetch_0 : decode cX5_fetch 0 = .ok (.iload_n 1, 1) := by decide +kernel
theorem dX5_fetch_1 : decode cX5_fetch 1 = .ok (.ifCond .lt 12, 3) := by decide +kernel
theorem dX5_fetch_4 : decode cX5_fetch 4 = .ok (.iload_n 2, 1) := by decide +kernel
theorem dX5_fetch_5 : decode cX5_fetch 5 = .ok (.iconst 0, 1) := by decide +kernel
theorem dX5_fetch_6 : decode cX5_fetch 6 = .ok (.iconst 2, 1) := by decide +kernel
theorem dX5_fetch_7 : decode cX5_fetch 7 = .ok (.invokestatic 101, 3) := by decide +kernel
theorem dX5_fetch_10 : decode cX5_fetch 10 = .ok (.ifCond .ne 8, 3) := by decide +kernel
theorem dX5_fetch_13 : decode cX5_fetch 13 = .ok (.aload_n 0, 1) := by decide +kernel
theorem dX5_fetch_14 : decode cX5_fetch 14 = .ok (.invokevirtual 130, 3) := by decide +kernel
theorem dX5_fetch_17 : decode cX5_fetch 17 = .ok (.ireturn, 1) := by decide +kernel
theorem dX5_fetch_18 : decode cX5_fetch 18 = .ok (.iload_n 1, 1) := by decide +kernel
theorem dX5_fetch_19 : decode cX5_fetch 19 = .ok (.aload_n 0, 1) := by decide +kernel
theorem dX5_fetch_20 : decode cX5_fetch 20 = .ok (.getfield 55, 3) := by decide +kernel
theorem dX5_fetch_23 : decode cX5_fetch 23 = .ok (.iconst 0, 1) := by decide +kernel
theorem dX5_fetch_24 : decode cX5_fetch 24 = .ok (.iaload, 1) := by decide +kernel
theorem dX5_fetch_25 : decode cX5_fetch 25 = .ok (.if_icmp .lt 5, 3) := by decide +kernel
theorem dX5_fetch_28 : decode cX5_fetch 28 = .ok (.iconst (-1), 1) := by decide +kernel
theorem dX5_fetch_29 : decode cX5_fetch 29 = .ok (.ireturn, 1) := by decide +kernel
theorem dX5_fetch_30 : decode cX5_fetch 30 = .ok (.aload_n 0, 1) := by decide +kernel
theorem dX5_fetch_31 : decode cX5_fetch 31 = .ok (.getfield 37, 3) := by decide +kernel
theorem dX5_fetch_34 : decode cX5_fetch 34 = .ok (.iload_n 1, 1) := by decide +kernel
theorem dX5_fetch_35 : decode cX5_fetch 35 = .ok (.iaload, 1) := by decide +kernel
theorem dX5_fetch_36 : decode cX5_fetch 36 = .ok (.istore_n 3, 1) := by decide +kernel
theorem dX5_fetch_37 : decode cX5_fetch 37 = .ok (.iload_n 2, 1) := by decide +kernel
theorem dX5_fetch_38 : decode cX5_fetch 38 = .ok (.ifCond .ne 7, 3) := by decide +kernel
theorem dX5_fetch_41 : decode cX5_fetch 41 = .ok (.iload_n 3, 1) := by decide +kernel
theorem dX5_fetch_42 : decode cX5_fetch 42 = .ok (.goto 31, 3) := by decide +kernel
theorem dX5_fetch_45 : decode cX5_fetch 45 = .ok (.iload_n 2, 1) := by decide +kernel
theorem dX5_fetch_46 : decode cX5_fetch 46 = .ok (.iconst 1, 1) := by decide +kernel
theorem dX5_fetch_47 : decode cX5_fetch 47 = .ok (.if_icmp .ne 20, 3) := by decide +kernel
theorem dX5_fetch_50 : decode cX5_fetch 50 = .ok (.aload_n 0, 1) := by decide +kernel
theorem dX5_fetch_51 : decode cX5_fetch 51 = .ok (.getfield 28, 3) := by decide +kernel
theorem dX5_fetch_54 : decode cX5_fetch 54 = .ok (.iload_n 3, 1) := by decide +kernel
theorem dX5_fetch_55 : decode cX5_fetch 55 = .ok (.iaload, 1) := by decide +kernel
theorem dX5_fetch_56 : decode cX5_fetch 56 = .ok (.aload_n 0, 1) := by decide +kernel
theorem dX5_fetch_57 : decode cX5_fetch 57 = .ok (.getfield 58, 3) := by decide +kernel
theorem dX5_fetch_60 : decode cX5_fetch 60 = .ok (.bipush 9, 2) := by decide +kernel
theorem dX5_fetch_62 : decode cX5_fetch 62 = .ok (.iaload, 1) := by decide +kernel
theorem dX5_fetch_63 : decode cX5_fetch 63 = .ok (.isub, 1) := by decide +kernel
theorem dX5_fetch_64 : decode cX5_fetch 64 = .ok (.goto 9, 3) := by decide +kernel
theorem dX5_fetch_67 : decode cX5_fetch 67 = .ok (.aload_n 0, 1) := by decide +kernel
theorem dX5_fetch_68 : decode cX5_fetch 68 = .ok (.getfield 40, 3) := by decide +kernel
theorem dX5_fetch_71 : decode cX5_fetch 71 = .ok (.iload_n 3, 1) := by decide +kernel
theorem dX5_fetch_72 : decode cX5_fetch 72 = .ok (.iaload, 1) := by decide +kernel
theorem dX5_fetch_73 : decode cX5_fetch 73 = .ok (.ireturn, 1) := by decide +kernel
theorem dX5_costBy_0 : decode cX5_costBy 0 = .ok (.iload_n 1, 1) := by decide +kernel
theorem dX5_costBy_1 : decode cX5_costBy 1 = .ok (.ifCond .ne 8, 3) := by decide +kernel
theorem dX5_costBy_4 : decode cX5_costBy 4 = .ok (.aload_n 0, 1) := by decide +kernel
theorem dX5_costBy_5 : decode cX5_costBy 5 = .ok (.getfield 90, 3) := by decide +kernel
theorem dX5_costBy_8 : decode cX5_costBy 8 = .ok (.freturn, 1) := by decide +kernel
theorem dX5_costBy_9 : decode cX5_costBy 9 = .ok (.iload_n 1, 1) := by decide +kernel
theorem dX5_costBy_10 : decode cX5_costBy 10 = .ok (.iconst 2, 1) := by decide +kernel
theorem dX5_costBy_11 : decode cX5_costBy 11 = .ok (.if_icmp .ne 11, 3) := by decide +kernel
theorem dX5_costBy_14 : decode cX5_costBy 14 = .ok (.aload_n 0, 1) := by decide +kernel
theorem dX5_costBy_15 : decode cX5_costBy 15 = .ok (.getfield 55, 3) := by decide +kernel
theorem dX5_costBy_18 : decode cX5_costBy 18 = .ok (.iconst 2, 1) := by decide +kernel
theorem dX5_costBy_19 : decode cX5_costBy 19 = .ok (.iaload, 1) := by decide +kernel
theorem dX5_costBy_20 : decode cX5_costBy 20 = .ok (.i2f, 1) := by decide +kernel
theorem dX5_costBy_21 : decode cX5_costBy 21 = .ok (.freturn, 1) := by decide +kernel
theorem dX5_costBy_22 : decode cX5_costBy 22 = .ok (.aload_n 0, 1) := by decide +kernel
theorem dX5_costBy_23 : decode cX5_costBy 23 = .ok (.getfield 58, 3) := by decide +kernel
theorem dX5_costBy_26 : decode cX5_costBy 26 = .ok (.bipush 8, 2) := by decide +kernel
theorem dX5_costBy_28 : decode cX5_costBy 28 = .ok (.iaload, 1) := by decide +kernel
theorem dX5_costBy_29 : decode cX5_costBy 29 = .ok (.ifCond .ne 7, 3) := by decide +kernel
theorem dX5_costBy_32 : decode cX5_costBy 32 = .ok (.fconst 0, 1) := by decide +kernel
theorem dX5_costBy_33 : decode cX5_costBy 33 = .ok (.goto 17, 3) := by decide +kernel
theorem dX5_costBy_36 : decode cX5_costBy 36 = .ok (.aload_n 0, 1) := by decide +kernel
theorem dX5_costBy_37 : decode cX5_costBy 37 = .ok (.getfield 94, 3) := by decide +kernel
theorem dX5_costBy_40 : decode cX5_costBy 40 = .ok (.l2f, 1) := by decide +kernel
theorem dX5_costBy_41 : decode cX5_costBy 41 = .ok (.aload_n 0, 1) := by decide +kernel
theorem dX5_costBy_42 : decode cX5_costBy 42 = .ok (.getfield 58, 3) := by decide +kernel
theorem dX5_costBy_45 : decode cX5_costBy 45 = .ok (.bipush 8, 2) := by decide +kernel
theorem dX5_costBy_47 : decode cX5_costBy 47 = .ok (.iaload, 1) := by decide +kernel
theorem dX5_costBy_48 : decode cX5_costBy 48 = .ok (.i2f, 1) := by decide +kernel
theorem dX5_costBy_49 : decode cX5_costBy 49 = .ok (.fdiv, 1) := by decide +kernel
theorem dX5_costBy_50 : decode cX5_costBy 50 = .ok (.freturn, 1) := by decide +kernel
theorem dX5_cost_0 : decode cX5_cost 0 = .ok (.iload_n 1, 1) := by decide +kernel
theorem dX5_cost_1 : decode cX5_cost 1 = .ok (.iconst 0, 1) := by decide +kernel
theorem dX5_cost_2 : decode cX5_cost 2 = .ok (.iconst 2, 1) := by decide +kernel
theorem dX5_cost_3 : decode cX5_cost 3 = .ok (.invokestatic 101, 3) := by decide +kernel
theorem dX5_cost_6 : decode cX5_cost 6 = .ok (.ifCond .eq 14, 3) := by decide +kernel
theorem dX5_cost_9 : decode cX5_cost 9 = .ok (.aload_n 0, 1) := by decide +kernel
theorem dX5_cost_10 : decode cX5_cost 10 = .ok (.iload_n 1, 1) := by decide +kernel
theorem dX5_cost_11 : decode cX5_cost 11 = .ok (.invokevirtual 234, 3) := by decide +kernel
theorem dX5_cost_14 : decode cX5_cost 14 = .ok (.invokestatic 238, 3) := by decide +kernel
theorem dX5_cost_17 : decode cX5_cost 17 = .ok (.goto 7, 3) := by decide +kernel
theorem dX5_cost_20 : decode cX5_cost 20 = .ok (.aload_n 0, 1) := by decide +kernel
theorem dX5_cost_21 : decode cX5_cost 21 = .ok (.invokevirtual 130, 3) := by decide +kernel
theorem dX5_cost_24 : decode cX5_cost 24 = .ok (.ireturn, 1) := by decide +kernel
theorem dX5_even_0 : decode cX5_even 0 = .ok (.aload_n 0, 1) := by decide +kernel
theorem dX5_even_1 : decode cX5_even 1 = .ok (.getfield 58, 3) := by decide +kernel
theorem dX5_even_4 : decode cX5_even 4 = .ok (.bipush 8, 2) := by decide +kernel
theorem dX5_even_6 : decode cX5_even 6 = .ok (.iaload, 1) := by decide +kernel
theorem dX5_even_7 : decode cX5_even 7 = .ok (.ifCond .ne 8, 3) := by decide +kernel
theorem dX5_even_10 : decode cX5_even 10 = .ok (.dconst 0, 1) := by decide +kernel
theorem dX5_even_11 : decode cX5_even 11 = .ok (.invokestatic 244, 3) := by decide +kernel
theorem dX5_even_14 : decode cX5_even 14 = .ok (.lreturn, 1) := by decide +kernel
theorem dX5_even_15 : decode cX5_even 15 = .ok (.aload_n 0, 1) := by decide +kernel
theorem dX5_even_16 : decode cX5_even 16 = .ok (.getfield 58, 3) := by decide +kernel
theorem dX5_even_19 : decode cX5_even 19 = .ok (.bipush 8, 2) := by decide +kernel
theorem dX5_even_21 : decode cX5_even 21 = .ok (.iaload, 1) := by decide +kernel
theorem dX5_even_22 : decode cX5_even 22 = .ok (.i2d, 1) := by decide +kernel
theorem dX5_even_23 : decode cX5_even 23 = .ok (.dstore_n 1, 1) := by decide +kernel
theorem dX5_even_24 : decode cX5_even 24 = .ok (.aload_n 0, 1) := by decide +kernel
theorem dX5_even_25 : decode cX5_even 25 = .ok (.getfield 94, 3) := by decide +kernel
theorem dX5_even_28 : decode cX5_even 28 = .ok (.l2d, 1) := by decide +kernel
theorem dX5_even_29 : decode cX5_even 29 = .ok (.dload_n 1, 1) := by decide +kernel
theorem dX5_even_30 : decode cX5_even 30 = .ok (.ddiv, 1) := by decide +kernel
theorem dX5_even_31 : decode cX5_even 31 = .ok (.dstore_n 3, 1) := by decide +kernel
theorem dX5_even_32 : decode cX5_even 32 = .ok (.aload_n 0, 1) := by decide +kernel
theorem dX5_even_33 : decode cX5_even 33 = .ok (.getfield 98, 3) := by decide +kernel
theorem dX5_even_36 : decode cX5_even 36 = .ok (.l2d, 1) := by decide +kernel
theorem dX5_even_37 : decode cX5_even 37 = .ok (.dload_n 1, 1) := by decide +kernel
theorem dX5_even_38 : decode cX5_even 38 = .ok (.ddiv, 1) := by decide +kernel
theorem dX5_even_39 : decode cX5_even 39 = .ok (.dload_n 3, 1) := by decide +kernel
theorem dX5_even_40 : decode cX5_even 40 = .ok (.dload_n 3, 1) := by decide +kernel
theorem dX5_even_41 : decode cX5_even 41 = .ok (.dmul, 1) := by decide +kernel
theorem dX5_even_42 : decode cX5_even 42 = .ok (.dsub, 1) := by decide +kernel
theorem dX5_even_43 : decode cX5_even 43 = .ok (.invokestatic 244, 3) := by decide +kernel
theorem dX5_even_46 : decode cX5_even 46 = .ok (.lreturn, 1) := by decide +kernel
theorem dX5_type_0 : decode cX5_type 0 = .ok (.iload_n 1, 1) := by decide +kernel
theorem dX5_type_1 : decode cX5_type 1 = .ok (.iconst 0, 1) := by decide +kernel
theorem dX5_type_2 : decode cX5_type 2 = .ok (.bipush 127, 2) := by decide +kernel
theorem dX5_type_4 : decode cX5_type 4 = .ok (.invokestatic 101, 3) := by decide +kernel
theorem dX5_type_7 : decode cX5_type 7 = .ok (.ifCond .ne 8, 3) := by decide +kernel
theorem dX5_type_10 : decode cX5_type 10 = .ok (.aload_n 0, 1) := by decide +kernel
theorem dX5_type_11 : decode cX5_type 11 = .ok (.invokevirtual 130, 3) := by decide +kernel
theorem dX5_type_14 : decode cX5_type 14 = .ok (.ireturn, 1) := by decide +kernel
theorem dX5_type_15 : decode cX5_type 15 = .ok (.aload_n 0, 1) := by decide +kernel
theorem dX5_type_16 : decode cX5_type 16 = .ok (.getfield 250, 3) := by decide +kernel
theorem dX5_type_19 : decode cX5_type 19 = .ok (.bipush 120, 2) := by decide +kernel
theorem dX5_type_21 : decode cX5_type 21 = .ok (.if_icmp .ne 16, 3) := by decide +kernel
theorem dX5_type_24 : decode cX5_type 24 = .ok (.aload_n 0, 1) := by decide +kernel
theorem dX5_type_25 : decode cX5_type 25 = .ok (.getfield 1, 3) := by decide +kernel
theorem dX5_type_28 : decode cX5_type 28 = .ok (.iconst 2, 1) := by decide +kernel
theorem dX5_type_29 : decode cX5_type 29 = .ok (.dup2, 1) := by decide +kernel
theorem dX5_type_30 : decode cX5_type 30 = .ok (.iaload, 1) := by decide +kernel
theorem dX5_type_31 : decode cX5_type 31 = .ok (.iconst 1, 1) := by decide +kernel
theorem dX5_type_32 : decode cX5_type 32 = .ok (.iadd, 1) := by decide +kernel
theorem dX5_type_33 : decode cX5_type 33 = .ok (.iastore, 1) := by decide +kernel
theorem dX5_type_34 : decode cX5_type 34 = .ok (.bipush (-4), 2) := by decide +kernel
theorem dX5_type_36 : decode cX5_type 36 = .ok (.ireturn, 1) := by decide +kernel
theorem dX5_type_37 : decode cX5_type 37 = .ok (.aload_n 0, 1) := by decide +kernel
theorem dX5_type_38 : decode cX5_type 38 = .ok (.getfield 84, 3) := by decide +kernel
theorem dX5_type_41 : decode cX5_type 41 = .ok (.aload_n 0, 1) := by decide +kernel
theorem dX5_type_42 : decode cX5_type 42 = .ok (.getfield 250, 3) := by decide +kernel
theorem dX5_type_45 : decode cX5_type 45 = .ok (.iload_n 1, 1) := by decide +kernel
theorem dX5_type_46 : decode cX5_type 46 = .ok (.iastore, 1) := by decide +kernel
theorem dX5_type_47 : decode cX5_type 47 = .ok (.aload_n 0, 1) := by decide +kernel
theorem dX5_type_48 : decode cX5_type 48 = .ok (.dup, 1) := by decide +kernel
theorem dX5_type_49 : decode cX5_type 49 = .ok (.getfield 250, 3) := by decide +kernel
theorem dX5_type_52 : decode cX5_type 52 = .ok (.iconst 1, 1) := by decide +kernel
theorem dX5_type_53 : decode cX5_type 53 = .ok (.iadd, 1) := by decide +kernel
theorem dX5_type_54 : decode cX5_type 54 = .ok (.putfield 250, 3) := by decide +kernel
theorem dX5_type_57 : decode cX5_type 57 = .ok (.aload_n 0, 1) := by decide +kernel
theorem dX5_type_58 : decode cX5_type 58 = .ok (.getfield 250, 3) := by decide +kernel
theorem dX5_type_61 : decode cX5_type 61 = .ok (.ireturn, 1) := by decide +kernel
theorem dX5_clear_0 : decode cX5_clear 0 = .ok (.aload_n 0, 1) := by decide +kernel
theorem dX5_clear_1 : decode cX5_clear 1 = .ok (.getfield 250, 3) := by decide +kernel
theorem dX5_clear_4 : decode cX5_clear 4 = .ok (.istore_n 1, 1) := by decide +kernel
theorem dX5_clear_5 : decode cX5_clear 5 = .ok (.aload_n 0, 1) := by decide +kernel
theorem dX5_clear_6 : decode cX5_clear 6 = .ok (.iconst 0, 1) := by decide +kernel
theorem dX5_clear_7 : decode cX5_clear 7 = .ok (.putfield 250, 3) := by decide +kernel
theorem dX5_clear_10 : decode cX5_clear 10 = .ok (.iload_n 1, 1) := by decide +kernel
theorem dX5_clear_11 : decode cX5_clear 11 = .ok (.ireturn, 1) := by decide +kernel
theorem dX5_here_0 : decode cX5_here 0 = .ok (.aload_n 0, 1) := by decide +kernel
theorem dX5_here_1 : decode cX5_here 1 = .ok (.getfield 253, 3) := by decide +kernel
theorem dX5_here_4 : decode cX5_here 4 = .ok (.aload_n 0, 1) := by decide +kernel
theorem dX5_here_5 : decode cX5_here 5 = .ok (.getfield 250, 3) := by decide +kernel
theorem dX5_here_8 : decode cX5_here 8 = .ok (.if_icmp .ge 15, 3) := by decide +kernel
theorem dX5_here_11 : decode cX5_here 11 = .ok (.aload_n 0, 1) := by decide +kernel
theorem dX5_here_12 : decode cX5_here 12 = .ok (.getfield 84, 3) := by decide +kernel
theorem dX5_here_15 : decode cX5_here 15 = .ok (.aload_n 0, 1) := by decide +kernel
theorem dX5_here_16 : decode cX5_here 16 = .ok (.getfield 253, 3) := by decide +kernel
theorem dX5_here_19 : decode cX5_here 19 = .ok (.iaload, 1) := by decide +kernel
theorem dX5_here_20 : decode cX5_here 20 = .ok (.goto 4, 3) := by decide +kernel
theorem dX5_here_23 : decode cX5_here 23 = .ok (.iconst (-1), 1) := by decide +kernel
theorem dX5_here_24 : decode cX5_here 24 = .ok (.ireturn, 1) := by decide +kernel
theorem dX5_skips_0 : decode cX5_skips 0 = .ok (.aload_n 0, 1) := by decide +kernel
theorem dX5_skips_1 : decode cX5_skips 1 = .ok (.invokevirtual 256, 3) := by decide +kernel
theorem dX5_skips_4 : decode cX5_skips 4 = .ok (.bipush 32, 2) := by decide +kernel
theorem dX5_skips_6 : decode cX5_skips 6 = .ok (.if_icmp .ne 16, 3) := by decide +kernel
theorem dX5_skips_9 : decode cX5_skips 9 = .ok (.aload_n 0, 1) := by decide +kernel
theorem dX5_skips_10 : decode cX5_skips 10 = .ok (.dup, 1) := by decide +kernel
theorem dX5_skips_11 : decode cX5_skips 11 = .ok (.getfield 253, 3) := by decide +kernel
theorem dX5_skips_14 : decode cX5_skips 14 = .ok (.iconst 1, 1) := by decide +kernel
theorem dX5_skips_15 : decode cX5_skips 15 = .ok (.iadd, 1) := by decide +kernel
theorem dX5_skips_16 : decode cX5_skips 16 = .ok (.putfield 253, 3) := by decide +kernel
theorem dX5_skips_19 : decode cX5_skips 19 = .ok (.goto (-19), 3) := by decide +kernel
theorem dX5_skips_22 : decode cX5_skips 22 = .ok (.aload_n 0, 1) := by decide +kernel
theorem dX5_skips_23 : decode cX5_skips 23 = .ok (.aload_n 0, 1) := by decide +kernel
theorem dX5_skips_24 : decode cX5_skips 24 = .ok (.getfield 253, 3) := by decide +kernel
theorem dX5_skips_27 : decode cX5_skips 27 = .ok (.putfield 259, 3) := by decide +kernel
theorem dX5_skips_30 : decode cX5_skips 30 = .ok (.return_, 1) := by decide +kernel
theorem dX5_number_0 : decode cX5_number 0 = .ok (.aload_n 0, 1) := by decide +kernel
theorem dX5_number_1 : decode cX5_number 1 = .ok (.invokevirtual 262, 3) := by decide +kernel
theorem dX5_number_4 : decode cX5_number 4 = .ok (.iconst 0, 1) := by decide +kernel
theorem dX5_number_5 : decode cX5_number 5 = .ok (.istore_n 1, 1) := by decide +kernel
theorem dX5_number_6 : decode cX5_number 6 = .ok (.iconst 0, 1) := by decide +kernel
theorem dX5_number_7 : decode cX5_number 7 = .ok (.istore_n 2, 1) := by decide +kernel
theorem dX5_number_8 : decode cX5_number 8 = .ok (.aload_n 0, 1) := by decide +kernel
theorem dX5_number_9 : decode cX5_number 9 = .ok (.invokevirtual 256, 3) := by decide +kernel
theorem dX5_number_12 : decode cX5_number 12 = .ok (.bipush 48, 2) := by decide +kernel
theorem dX5_number_14 : decode cX5_number 14 = .ok (.bipush 57, 2) := by decide +kernel
theorem dX5_number_16 : decode cX5_number 16 = .ok (.invokestatic 101, 3) := by decide +kernel
theorem dX5_number_19 : decode cX5_number 19 = .ok (.ifCond .eq 41, 3) := by decide +kernel
theorem dX5_number_22 : decode cX5_number 22 = .ok (.iload_n 1, 1) := by decide +kernel
theorem dX5_number_23 : decode cX5_number 23 = .ok (.iconst 2, 1) := by decide +kernel
theorem dX5_number_24 : decode cX5_number 24 = .ok (.if_icmp .ge 18, 3) := by decide +kernel
theorem dX5_number_27 : decode cX5_number 27 = .ok (.bipush 10, 2) := by decide +kernel
theorem dX5_number_29 : decode cX5_number 29 = .ok (.iload_n 2, 1) := by decide +kernel
theorem dX5_number_30 : decode cX5_number 30 = .ok (.imul, 1) := by decide +kernel
theorem dX5_number_31 : decode cX5_number 31 = .ok (.aload_n 0, 1) := by decide +kernel
theorem dX5_number_32 : decode cX5_number 32 = .ok (.invokevirtual 256, 3) := by decide +kernel
theorem dX5_number_35 : decode cX5_number 35 = .ok (.iadd, 1) := by decide +kernel
theorem dX5_number_36 : decode cX5_number 36 = .ok (.bipush 48, 2) := by decide +kernel
theorem dX5_number_38 : decode cX5_number 38 = .ok (.isub, 1) := by decide +kernel
theorem dX5_number_39 : decode cX5_number 39 = .ok (.goto 4, 3) := by decide +kernel
theorem dX5_number_42 : decode cX5_number 42 = .ok (.iload_n 2, 1) := by decide +kernel
theorem dX5_number_43 : decode cX5_number 43 = .ok (.istore_n 2, 1) := by decide +kernel
theorem dX5_number_44 : decode cX5_number 44 = .ok (.iinc 1 1, 3) := by decide +kernel
theorem dX5_number_47 : decode cX5_number 47 = .ok (.aload_n 0, 1) := by decide +kernel
theorem dX5_number_48 : decode cX5_number 48 = .ok (.dup, 1) := by decide +kernel
theorem dX5_number_49 : decode cX5_number 49 = .ok (.getfield 253, 3) := by decide +kernel
theorem dX5_number_52 : decode cX5_number 52 = .ok (.iconst 1, 1) := by decide +kernel
theorem dX5_number_53 : decode cX5_number 53 = .ok (.iadd, 1) := by decide +kernel
theorem dX5_number_54 : decode cX5_number 54 = .ok (.putfield 253, 3) := by decide +kernel
theorem dX5_number_57 : decode cX5_number 57 = .ok (.goto (-49), 3) := by decide +kernel
theorem dX5_number_60 : decode cX5_number 60 = .ok (.aload_n 0, 1) := by decide +kernel
theorem dX5_number_61 : decode cX5_number 61 = .ok (.iload_n 2, 1) := by decide +kernel
theorem dX5_number_62 : decode cX5_number 62 = .ok (.putfield 265, 3) := by decide +kernel
theorem dX5_number_65 : decode cX5_number 65 = .ok (.iload_n 1, 1) := by decide +kernel
theorem dX5_number_66 : decode cX5_number 66 = .ok (.iconst 1, 1) := by decide +kernel
theorem dX5_number_67 : decode cX5_number 67 = .ok (.iconst 2, 1) := by decide +kernel
theorem dX5_number_68 : decode cX5_number 68 = .ok (.invokestatic 101, 3) := by decide +kernel
theorem dX5_number_71 : decode cX5_number 71 = .ok (.ireturn, 1) := by decide +kernel
theorem dX5_ends_0 : decode cX5_ends 0 = .ok (.aload_n 0, 1) := by decide +kernel
theorem dX5_ends_1 : decode cX5_ends 1 = .ok (.invokevirtual 262, 3) := by decide +kernel
theorem dX5_ends_4 : decode cX5_ends 4 = .ok (.aload_n 0, 1) := by decide +kernel
theorem dX5_ends_5 : decode cX5_ends 5 = .ok (.invokevirtual 256, 3) := by decide +kernel
theorem dX5_ends_8 : decode cX5_ends 8 = .ok (.bipush 59, 2) := by decide +kernel
theorem dX5_ends_10 : decode cX5_ends 10 = .ok (.if_icmp .eq 5, 3) := by decide +kernel
theorem dX5_ends_13 : decode cX5_ends 13 = .ok (.iconst 0, 1) := by decide +kernel
theorem dX5_ends_14 : decode cX5_ends 14 = .ok (.ireturn, 1) := by decide +kernel
theorem dX5_ends_15 : decode cX5_ends 15 = .ok (.aload_n 0, 1) := by decide +kernel
theorem dX5_ends_16 : decode cX5_ends 16 = .ok (.dup, 1) := by decide +kernel
theorem dX5_ends_17 : decode cX5_ends 17 = .ok (.getfield 253, 3) := by decide +kernel
theorem dX5_ends_20 : decode cX5_ends 20 = .ok (.iconst 1, 1) := by decide +kernel
theorem dX5_ends_21 : decode cX5_ends 21 = .ok (.iadd, 1) := by decide +kernel
theorem dX5_ends_22 : decode cX5_ends 22 = .ok (.putfield 253, 3) := by decide +kernel
theorem dX5_ends_25 : decode cX5_ends 25 = .ok (.iconst 1, 1) := by decide +kernel
theorem dX5_ends_26 : decode cX5_ends 26 = .ok (.ireturn, 1) := by decide +kernel
theorem dX5_readsBox_0 : decode cX5_readsBox 0 = .ok (.aload_n 0, 1) := by decide +kernel
theorem dX5_readsBox_1 : decode cX5_readsBox 1 = .ok (.invokevirtual 256, 3) := by decide +kernel
theorem dX5_readsBox_4 : decode cX5_readsBox 4 = .ok (.bipush 97, 2) := by decide +kernel
theorem dX5_readsBox_6 : decode cX5_readsBox 6 = .ok (.isub, 1) := by decide +kernel
theorem dX5_readsBox_7 : decode cX5_readsBox 7 = .ok (.istore_n 2, 1) := by decide +kernel
theorem dX5_readsBox_8 : decode cX5_readsBox 8 = .ok (.aload_n 0, 1) := by decide +kernel
theorem dX5_readsBox_9 : decode cX5_readsBox 9 = .ok (.dup, 1) := by decide +kernel
theorem dX5_readsBox_10 : decode cX5_readsBox 10 = .ok (.getfield 253, 3) := by decide +kernel
theorem dX5_readsBox_13 : decode cX5_readsBox 13 = .ok (.iconst 1, 1) := by decide +kernel
theorem dX5_readsBox_14 : decode cX5_readsBox 14 = .ok (.iadd, 1) := by decide +kernel
theorem dX5_readsBox_15 : decode cX5_readsBox 15 = .ok (.putfield 253, 3) := by decide +kernel
theorem dX5_readsBox_18 : decode cX5_readsBox 18 = .ok (.aload_n 0, 1) := by decide +kernel
theorem dX5_readsBox_19 : decode cX5_readsBox 19 = .ok (.invokevirtual 262, 3) := by decide +kernel
theorem dX5_readsBox_22 : decode cX5_readsBox 22 = .ok (.aload_n 0, 1) := by decide +kernel
theorem dX5_readsBox_23 : decode cX5_readsBox 23 = .ok (.invokevirtual 256, 3) := by decide +kernel
theorem dX5_readsBox_26 : decode cX5_readsBox 26 = .ok (.bipush 48, 2) := by decide +kernel
theorem dX5_readsBox_28 : decode cX5_readsBox 28 = .ok (.bipush 51, 2) := by decide +kernel
theorem dX5_readsBox_30 : decode cX5_readsBox 30 = .ok (.invokestatic 101, 3) := by decide +kernel
theorem dX5_readsBox_33 : decode cX5_readsBox 33 = .ok (.ifCond .ne 5, 3) := by decide +kernel
theorem dX5_readsBox_36 : decode cX5_readsBox 36 = .ok (.iconst 0, 1) := by decide +kernel
theorem dX5_readsBox_37 : decode cX5_readsBox 37 = .ok (.ireturn, 1) := by decide +kernel
theorem dX5_readsBox_38 : decode cX5_readsBox 38 = .ok (.aload_n 0, 1) := by decide +kernel
theorem dX5_readsBox_39 : decode cX5_readsBox 39 = .ok (.invokevirtual 256, 3) := by decide +kernel
theorem dX5_readsBox_42 : decode cX5_readsBox 42 = .ok (.bipush 48, 2) := by decide +kernel
theorem dX5_readsBox_44 : decode cX5_readsBox 44 = .ok (.isub, 1) := by decide +kernel
theorem dX5_readsBox_45 : decode cX5_readsBox 45 = .ok (.istore_n 3, 1) := by decide +kernel
theorem dX5_readsBox_46 : decode cX5_readsBox 46 = .ok (.aload_n 0, 1) := by decide +kernel
theorem dX5_readsBox_47 : decode cX5_readsBox 47 = .ok (.dup, 1) := by decide +kernel
theorem dX5_readsBox_48 : decode cX5_readsBox 48 = .ok (.getfield 253, 3) := by decide +kernel
theorem dX5_readsBox_51 : decode cX5_readsBox 51 = .ok (.iconst 1, 1) := by decide +kernel
theorem dX5_readsBox_52 : decode cX5_readsBox 52 = .ok (.iadd, 1) := by decide +kernel
theorem dX5_readsBox_53 : decode cX5_readsBox 53 = .ok (.putfield 253, 3) := by decide +kernel
theorem dX5_readsBox_56 : decode cX5_readsBox 56 = .ok (.aload_n 0, 1) := by decide +kernel
theorem dX5_readsBox_57 : decode cX5_readsBox 57 = .ok (.invokevirtual 262, 3) := by decide +kernel
theorem dX5_readsBox_60 : decode cX5_readsBox 60 = .ok (.aload_n 0, 1) := by decide +kernel
theorem dX5_readsBox_61 : decode cX5_readsBox 61 = .ok (.invokevirtual 256, 3) := by decide +kernel
theorem dX5_readsBox_64 : decode cX5_readsBox 64 = .ok (.bipush 61, 2) := by decide +kernel
theorem dX5_readsBox_66 : decode cX5_readsBox 66 = .ok (.if_icmp .ne 7, 3) := by decide +kernel
theorem dX5_readsBox_69 : decode cX5_readsBox 69 = .ok (.iconst 1, 1) := by decide +kernel
theorem dX5_readsBox_70 : decode cX5_readsBox 70 = .ok (.goto 4, 3) := by decide +kernel
theorem dX5_readsBox_73 : decode cX5_readsBox 73 = .ok (.iconst 0, 1) := by decide +kernel
theorem dX5_readsBox_74 : decode cX5_readsBox 74 = .ok (.istore 4, 2) := by decide +kernel
theorem dX5_readsBox_76 : decode cX5_readsBox 76 = .ok (.iload 4, 2) := by decide +kernel
theorem dX5_readsBox_78 : decode cX5_readsBox 78 = .ok (.ifCond .eq 22, 3) := by decide +kernel
theorem dX5_readsBox_81 : decode cX5_readsBox 81 = .ok (.aload_n 0, 1) := by decide +kernel
theorem dX5_readsBox_82 : decode cX5_readsBox 82 = .ok (.dup, 1) := by decide +kernel
theorem dX5_readsBox_83 : decode cX5_readsBox 83 = .ok (.getfield 253, 3) := by decide +kernel
theorem dX5_readsBox_86 : decode cX5_readsBox 86 = .ok (.iconst 1, 1) := by decide +kernel
theorem dX5_readsBox_87 : decode cX5_readsBox 87 = .ok (.iadd, 1) := by decide +kernel
theorem dX5_readsBox_88 : decode cX5_readsBox 88 = .ok (.putfield 253, 3) := by decide +kernel
theorem dX5_readsBox_91 : decode cX5_readsBox 91 = .ok (.aload_n 0, 1) := by decide +kernel
theorem dX5_readsBox_92 : decode cX5_readsBox 92 = .ok (.invokevirtual 268, 3) := by decide +kernel
theorem dX5_readsBox_95 : decode cX5_readsBox 95 = .ok (.ifCond .ne 5, 3) := by decide +kernel
theorem dX5_readsBox_98 : decode cX5_readsBox 98 = .ok (.iconst 0, 1) := by decide +kernel
theorem dX5_readsBox_99 : decode cX5_readsBox 99 = .ok (.ireturn, 1) := by decide +kernel
theorem dX5_readsBox_100 : decode cX5_readsBox 100 = .ok (.iload 4, 2) := by decide +kernel
theorem dX5_readsBox_102 : decode cX5_readsBox 102 = .ok (.ifCond .eq 10, 3) := by decide +kernel
theorem dX5_readsBox_105 : decode cX5_readsBox 105 = .ok (.aload_n 0, 1) := by decide +kernel
theorem dX5_readsBox_106 : decode cX5_readsBox 106 = .ok (.getfield 265, 3) := by decide +kernel
theorem dX5_readsBox_109 : decode cX5_readsBox 109 = .ok (.goto 4, 3) := by decide +kernel
theorem dX5_readsBox_112 : decode cX5_readsBox 112 = .ok (.iconst 0, 1) := by decide +kernel
theorem dX5_readsBox_113 : decode cX5_readsBox 113 = .ok (.istore 5, 2) := by decide +kernel
theorem dX5_readsBox_115 : decode cX5_readsBox 115 = .ok (.aload_n 0, 1) := by decide +kernel
theorem dX5_readsBox_116 : decode cX5_readsBox 116 = .ok (.invokevirtual 272, 3) := by decide +kernel
theorem dX5_readsBox_119 : decode cX5_readsBox 119 = .ok (.ifCond .ne 5, 3) := by decide +kernel
theorem dX5_readsBox_122 : decode cX5_readsBox 122 = .ok (.iconst 0, 1) := by decide +kernel
theorem dX5_readsBox_123 : decode cX5_readsBox 123 = .ok (.ireturn, 1) := by decide +kernel
theorem dX5_readsBox_124 : decode cX5_readsBox 124 = .ok (.iload_n 1, 1) := by decide +kernel
theorem dX5_readsBox_125 : decode cX5_readsBox 125 = .ok (.ifCond .eq 22, 3) := by decide +kernel
theorem dX5_readsBox_128 : decode cX5_readsBox 128 = .ok (.aload_n 0, 1) := by decide +kernel
theorem dX5_readsBox_129 : decode cX5_readsBox 129 = .ok (.iload 4, 2) := by decide +kernel
theorem dX5_readsBox_131 : decode cX5_readsBox 131 = .ok (.ifCond .eq 7, 3) := by decide +kernel
theorem dX5_readsBox_134 : decode cX5_readsBox 134 = .ok (.iconst 1, 1) := by decide +kernel
theorem dX5_readsBox_135 : decode cX5_readsBox 135 = .ok (.goto 4, 3) := by decide +kernel
theorem dX5_readsBox_138 : decode cX5_readsBox 138 = .ok (.iconst 0, 1) := by decide +kernel
theorem dX5_readsBox_139 : decode cX5_readsBox 139 = .ok (.iload_n 2, 1) := by decide +kernel
theorem dX5_readsBox_140 : decode cX5_readsBox 140 = .ok (.iload_n 3, 1) := by decide +kernel
theorem dX5_readsBox_141 : decode cX5_readsBox 141 = .ok (.iload 5, 2) := by decide +kernel
theorem dX5_readsBox_143 : decode cX5_readsBox 143 = .ok (.invokevirtual 203, 3) := by decide +kernel
theorem dX5_readsBox_146 : decode cX5_readsBox 146 = .ok (.pop, 1) := by decide +kernel
theorem dX5_readsBox_147 : decode cX5_readsBox 147 = .ok (.iconst 1, 1) := by decide +kernel
theorem dX5_readsBox_148 : decode cX5_readsBox 148 = .ok (.ireturn, 1) := by decide +kernel
theorem dX5_readsOrder_0 : decode cX5_readsOrder 0 = .ok (.aload_n 0, 1) := by decide +kernel
theorem dX5_readsOrder_1 : decode cX5_readsOrder 1 = .ok (.invokevirtual 262, 3) := by decide +kernel
theorem dX5_readsOrder_4 : decode cX5_readsOrder 4 = .ok (.aload_n 0, 1) := by decide +kernel
theorem dX5_readsOrder_5 : decode cX5_readsOrder 5 = .ok (.invokevirtual 256, 3) := by decide +kernel
theorem dX5_readsOrder_8 : decode cX5_readsOrder 8 = .ok (.istore_n 2, 1) := by decide +kernel
theorem dX5_readsOrder_9 : decode cX5_readsOrder 9 = .ok (.iload_n 2, 1) := by decide +kernel
theorem dX5_readsOrder_10 : decode cX5_readsOrder 10 = .ok (.bipush 97, 2) := by decide +kernel
theorem dX5_readsOrder_12 : decode cX5_readsOrder 12 = .ok (.bipush 112, 2) := by decide +kernel
theorem dX5_readsOrder_14 : decode cX5_readsOrder 14 = .ok (.invokestatic 101, 3) := by decide +kernel
theorem dX5_readsOrder_17 : decode cX5_readsOrder 17 = .ok (.ifCond .eq 9, 3) := by decide +kernel
theorem dX5_readsOrder_20 : decode cX5_readsOrder 20 = .ok (.aload_n 0, 1) := by decide +kernel
theorem dX5_readsOrder_21 : decode cX5_readsOrder 21 = .ok (.iload_n 1, 1) := by decide +kernel
theorem dX5_readsOrder_22 : decode cX5_readsOrder 22 = .ok (.invokevirtual 275, 3) := by decide +kernel
theorem dX5_readsOrder_25 : decode cX5_readsOrder 25 = .ok (.ireturn, 1) := by decide +kernel
theorem dX5_readsOrder_26 : decode cX5_readsOrder 26 = .ok (.iload_n 2, 1) := by decide +kernel
theorem dX5_readsOrder_27 : decode cX5_readsOrder 27 = .ok (.bipush 33, 2) := by decide +kernel
theorem dX5_readsOrder_29 : decode cX5_readsOrder 29 = .ok (.if_icmp .ne 37, 3) := by decide +kernel
theorem dX5_readsOrder_32 : decode cX5_readsOrder 32 = .ok (.aload_n 0, 1) := by decide +kernel
theorem dX5_readsOrder_33 : decode cX5_readsOrder 33 = .ok (.dup, 1) := by decide +kernel
theorem dX5_readsOrder_34 : decode cX5_readsOrder 34 = .ok (.getfield 253, 3) := by decide +kernel
theorem dX5_readsOrder_37 : decode cX5_readsOrder 37 = .ok (.iconst 1, 1) := by decide +kernel
theorem dX5_readsOrder_38 : decode cX5_readsOrder 38 = .ok (.iadd, 1) := by decide +kernel
theorem dX5_readsOrder_39 : decode cX5_readsOrder 39 = .ok (.putfield 253, 3) := by decide +kernel
theorem dX5_readsOrder_42 : decode cX5_readsOrder 42 = .ok (.aload_n 0, 1) := by decide +kernel
theorem dX5_readsOrder_43 : decode cX5_readsOrder 43 = .ok (.invokevirtual 272, 3) := by decide +kernel
theorem dX5_readsOrder_46 : decode cX5_readsOrder 46 = .ok (.ifCond .ne 5, 3) := by decide +kernel
theorem dX5_readsOrder_49 : decode cX5_readsOrder 49 = .ok (.iconst 0, 1) := by decide +kernel
theorem dX5_readsOrder_50 : decode cX5_readsOrder 50 = .ok (.ireturn, 1) := by decide +kernel
theorem dX5_readsOrder_51 : decode cX5_readsOrder 51 = .ok (.iload_n 1, 1) := by decide +kernel
theorem dX5_readsOrder_52 : decode cX5_readsOrder 52 = .ok (.ifCond .eq 12, 3) := by decide +kernel
theorem dX5_readsOrder_55 : decode cX5_readsOrder 55 = .ok (.aload_n 0, 1) := by decide +kernel
theorem dX5_readsOrder_56 : decode cX5_readsOrder 56 = .ok (.iconst 2, 1) := by decide +kernel
theorem dX5_readsOrder_57 : decode cX5_readsOrder 57 = .ok (.iconst 0, 1) := by decide +kernel
theorem dX5_readsOrder_58 : decode cX5_readsOrder 58 = .ok (.iconst 0, 1) := by decide +kernel
theorem dX5_readsOrder_59 : decode cX5_readsOrder 59 = .ok (.iconst 0, 1) := by decide +kernel
theorem dX5_readsOrder_60 : decode cX5_readsOrder 60 = .ok (.invokevirtual 203, 3) := by decide +kernel
theorem dX5_readsOrder_63 : decode cX5_readsOrder 63 = .ok (.pop, 1) := by decide +kernel
theorem dX5_readsOrder_64 : decode cX5_readsOrder 64 = .ok (.iconst 1, 1) := by decide +kernel
theorem dX5_readsOrder_65 : decode cX5_readsOrder 65 = .ok (.ireturn, 1) := by decide +kernel
theorem dX5_readsOrder_66 : decode cX5_readsOrder 66 = .ok (.iload_n 2, 1) := by decide +kernel
theorem dX5_readsOrder_67 : decode cX5_readsOrder 67 = .ok (.bipush 35, 2) := by decide +kernel
theorem dX5_readsOrder_69 : decode cX5_readsOrder 69 = .ok (.if_icmp .eq 5, 3) := by decide +kernel
theorem dX5_readsOrder_72 : decode cX5_readsOrder 72 = .ok (.iconst 0, 1) := by decide +kernel
theorem dX5_readsOrder_73 : decode cX5_readsOrder 73 = .ok (.ireturn, 1) := by decide +kernel
theorem dX5_readsOrder_74 : decode cX5_readsOrder 74 = .ok (.aload_n 0, 1) := by decide +kernel
theorem dX5_readsOrder_75 : decode cX5_readsOrder 75 = .ok (.dup, 1) := by decide +kernel
theorem dX5_readsOrder_76 : decode cX5_readsOrder 76 = .ok (.getfield 253, 3) := by decide +kernel
theorem dX5_readsOrder_79 : decode cX5_readsOrder 79 = .ok (.iconst 1, 1) := by decide +kernel
theorem dX5_readsOrder_80 : decode cX5_readsOrder 80 = .ok (.iadd, 1) := by decide +kernel
theorem dX5_readsOrder_81 : decode cX5_readsOrder 81 = .ok (.putfield 253, 3) := by decide +kernel
theorem dX5_readsOrder_84 : decode cX5_readsOrder 84 = .ok (.aload_n 0, 1) := by decide +kernel
theorem dX5_readsOrder_85 : decode cX5_readsOrder 85 = .ok (.invokevirtual 268, 3) := by decide +kernel
theorem dX5_readsOrder_88 : decode cX5_readsOrder 88 = .ok (.ifCond .ne 5, 3) := by decide +kernel
theorem dX5_readsOrder_91 : decode cX5_readsOrder 91 = .ok (.iconst 0, 1) := by decide +kernel
theorem dX5_readsOrder_92 : decode cX5_readsOrder 92 = .ok (.ireturn, 1) := by decide +kernel
theorem dX5_readsOrder_93 : decode cX5_readsOrder 93 = .ok (.aload_n 0, 1) := by decide +kernel
theorem dX5_readsOrder_94 : decode cX5_readsOrder 94 = .ok (.getfield 265, 3) := by decide +kernel
theorem dX5_readsOrder_97 : decode cX5_readsOrder 97 = .ok (.istore_n 3, 1) := by decide +kernel
theorem dX5_readsOrder_98 : decode cX5_readsOrder 98 = .ok (.aload_n 0, 1) := by decide +kernel
theorem dX5_readsOrder_99 : decode cX5_readsOrder 99 = .ok (.invokevirtual 272, 3) := by decide +kernel
theorem dX5_readsOrder_102 : decode cX5_readsOrder 102 = .ok (.ifCond .ne 5, 3) := by decide +kernel
theorem dX5_readsOrder_105 : decode cX5_readsOrder 105 = .ok (.iconst 0, 1) := by decide +kernel
theorem dX5_readsOrder_106 : decode cX5_readsOrder 106 = .ok (.ireturn, 1) := by decide +kernel
theorem dX5_readsOrder_107 : decode cX5_readsOrder 107 = .ok (.iconst 0, 1) := by decide +kernel
theorem dX5_readsOrder_108 : decode cX5_readsOrder 108 = .ok (.istore 4, 2) := by decide +kernel
theorem dX5_readsOrder_110 : decode cX5_readsOrder 110 = .ok (.iload 4, 2) := by decide +kernel
theorem dX5_readsOrder_112 : decode cX5_readsOrder 112 = .ok (.iload_n 3, 1) := by decide +kernel
theorem dX5_readsOrder_113 : decode cX5_readsOrder 113 = .ok (.if_icmp .ge 17, 3) := by decide +kernel
theorem dX5_readsOrder_116 : decode cX5_readsOrder 116 = .ok (.iload_n 1, 1) := by decide +kernel
theorem dX5_readsOrder_117 : decode cX5_readsOrder 117 = .ok (.ifCond .eq 13, 3) := by decide +kernel
theorem dX5_readsOrder_120 : decode cX5_readsOrder 120 = .ok (.aload_n 0, 1) := by decide +kernel
theorem dX5_readsOrder_121 : decode cX5_readsOrder 121 = .ok (.invokevirtual 188, 3) := by decide +kernel
theorem dX5_readsOrder_124 : decode cX5_readsOrder 124 = .ok (.iinc 4 1, 3) := by decide +kernel
theorem dX5_readsOrder_127 : decode cX5_readsOrder 127 = .ok (.goto (-17), 3) := by decide +kernel
theorem dX5_readsOrder_130 : decode cX5_readsOrder 130 = .ok (.iconst 1, 1) := by decide +kernel
theorem dX5_readsOrder_131 : decode cX5_readsOrder 131 = .ok (.ireturn, 1) := by decide +kernel
theorem dX5_goesThrough_0 : decode cX5_goesThrough 0 = .ok (.aload_n 0, 1) := by decide +kernel
theorem dX5_goesThrough_1 : decode cX5_goesThrough 1 = .ok (.iconst 0, 1) := by decide +kernel
theorem dX5_goesThrough_2 : decode cX5_goesThrough 2 = .ok (.putfield 253, 3) := by decide +kernel
theorem dX5_goesThrough_5 : decode cX5_goesThrough 5 = .ok (.aload_n 0, 1) := by decide +kernel
theorem dX5_goesThrough_6 : decode cX5_goesThrough 6 = .ok (.invokevirtual 262, 3) := by decide +kernel
theorem dX5_goesThrough_9 : decode cX5_goesThrough 9 = .ok (.aload_n 0, 1) := by decide +kernel
theorem dX5_goesThrough_10 : decode cX5_goesThrough 10 = .ok (.getfield 253, 3) := by decide +kernel
theorem dX5_goesThrough_13 : decode cX5_goesThrough 13 = .ok (.aload_n 0, 1) := by decide +kernel
theorem dX5_goesThrough_14 : decode cX5_goesThrough 14 = .ok (.getfield 250, 3) := by decide +kernel
theorem dX5_goesThrough_17 : decode cX5_goesThrough 17 = .ok (.if_icmp .ne 11, 3) := by decide +kernel
theorem dX5_goesThrough_20 : decode cX5_goesThrough 20 = .ok (.bipush (-10), 2) := by decide +kernel
theorem dX5_goesThrough_22 : decode cX5_goesThrough 22 = .ok (.aload_n 0, 1) := by decide +kernel
theorem dX5_goesThrough_23 : decode cX5_goesThrough 23 = .ok (.getfield 250, 3) := by decide +kernel
theorem dX5_goesThrough_26 : decode cX5_goesThrough 26 = .ok (.isub, 1) := by decide +kernel
theorem dX5_goesThrough_27 : decode cX5_goesThrough 27 = .ok (.ireturn, 1) := by decide +kernel
theorem dX5_goesThrough_28 : decode cX5_goesThrough 28 = .ok (.aload_n 0, 1) := by decide +kernel
theorem dX5_goesThrough_29 : decode cX5_goesThrough 29 = .ok (.getfield 253, 3) := by decide +kernel
theorem dX5_goesThrough_32 : decode cX5_goesThrough 32 = .ok (.aload_n 0, 1) := by decide +kernel
theorem dX5_goesThrough_33 : decode cX5_goesThrough 33 = .ok (.getfield 250, 3) := by decide +kernel
theorem dX5_goesThrough_36 : decode cX5_goesThrough 36 = .ok (.if_icmp .ge 26, 3) := by decide +kernel
theorem dX5_goesThrough_39 : decode cX5_goesThrough 39 = .ok (.aload_n 0, 1) := by decide +kernel
theorem dX5_goesThrough_40 : decode cX5_goesThrough 40 = .ok (.iload_n 1, 1) := by decide +kernel
theorem dX5_goesThrough_41 : decode cX5_goesThrough 41 = .ok (.invokevirtual 279, 3) := by decide +kernel
theorem dX5_goesThrough_44 : decode cX5_goesThrough 44 = .ok (.ifCond .ne 11, 3) := by decide +kernel
theorem dX5_goesThrough_47 : decode cX5_goesThrough 47 = .ok (.bipush (-10), 2) := by decide +kernel
theorem dX5_goesThrough_49 : decode cX5_goesThrough 49 = .ok (.aload_n 0, 1) := by decide +kernel
theorem dX5_goesThrough_50 : decode cX5_goesThrough 50 = .ok (.getfield 259, 3) := by decide +kernel
theorem dX5_goesThrough_53 : decode cX5_goesThrough 53 = .ok (.isub, 1) := by decide +kernel
theorem dX5_goesThrough_54 : decode cX5_goesThrough 54 = .ok (.ireturn, 1) := by decide +kernel
theorem dX5_goesThrough_55 : decode cX5_goesThrough 55 = .ok (.aload_n 0, 1) := by decide +kernel
theorem dX5_goesThrough_56 : decode cX5_goesThrough 56 = .ok (.invokevirtual 262, 3) := by decide +kernel
theorem dX5_goesThrough_59 : decode cX5_goesThrough 59 = .ok (.goto (-31), 3) := by decide +kernel
theorem dX5_goesThrough_62 : decode cX5_goesThrough 62 = .ok (.iconst 0, 1) := by decide +kernel
theorem dX5_goesThrough_63 : decode cX5_goesThrough 63 = .ok (.ireturn, 1) := by decide +kernel
theorem dX5_runs_0 : decode cX5_runs 0 = .ok (.aload_n 0, 1) := by decide +kernel
theorem dX5_runs_1 : decode cX5_runs 1 = .ok (.iconst 0, 1) := by decide +kernel
theorem dX5_runs_2 : decode cX5_runs 2 = .ok (.invokevirtual 282, 3) := by decide +kernel
theorem dX5_runs_5 : decode cX5_runs 5 = .ok (.istore_n 1, 1) := by decide +kernel
theorem dX5_runs_6 : decode cX5_runs 6 = .ok (.iload_n 1, 1) := by decide +kernel
theorem dX5_runs_7 : decode cX5_runs 7 = .ok (.ifCond .ge 5, 3) := by decide +kernel
theorem dX5_runs_10 : decode cX5_runs 10 = .ok (.iload_n 1, 1) := by decide +kernel
theorem dX5_runs_11 : decode cX5_runs 11 = .ok (.ireturn, 1) := by decide +kernel
theorem dX5_runs_12 : decode cX5_runs 12 = .ok (.aload_n 0, 1) := by decide +kernel
theorem dX5_runs_13 : decode cX5_runs 13 = .ok (.invokevirtual 134, 3) := by decide +kernel
theorem dX5_runs_16 : decode cX5_runs 16 = .ok (.aload_n 0, 1) := by decide +kernel
theorem dX5_runs_17 : decode cX5_runs 17 = .ok (.getfield 58, 3) := by decide +kernel
theorem dX5_runs_20 : decode cX5_runs 20 = .ok (.bipush 9, 2) := by decide +kernel
theorem dX5_runs_22 : decode cX5_runs 22 = .ok (.iaload, 1) := by decide +kernel
theorem dX5_runs_23 : decode cX5_runs 23 = .ok (.istore_n 2, 1) := by decide +kernel
theorem dX5_runs_24 : decode cX5_runs 24 = .ok (.aload_n 0, 1) := by decide +kernel
theorem dX5_runs_25 : decode cX5_runs 25 = .ok (.iconst 1, 1) := by decide +kernel
theorem dX5_runs_26 : decode cX5_runs 26 = .ok (.invokevirtual 282, 3) := by decide +kernel
theorem dX5_runs_29 : decode cX5_runs 29 = .ok (.pop, 1) := by decide +kernel
theorem dX5_runs_30 : decode cX5_runs 30 = .ok (.aload_n 0, 1) := by decide +kernel
theorem dX5_runs_31 : decode cX5_runs 31 = .ok (.getfield 58, 3) := by decide +kernel
theorem dX5_runs_34 : decode cX5_runs 34 = .ok (.bipush 9, 2) := by decide +kernel
theorem dX5_runs_36 : decode cX5_runs 36 = .ok (.iaload, 1) := by decide +kernel
theorem dX5_runs_37 : decode cX5_runs 37 = .ok (.iload_n 2, 1) := by decide +kernel
theorem dX5_runs_38 : decode cX5_runs 38 = .ok (.isub, 1) := by decide +kernel
theorem dX5_runs_39 : decode cX5_runs 39 = .ok (.ireturn, 1) := by decide +kernel
theorem dX5_ticksBy_0 : decode cX5_ticksBy 0 = .ok (.aload_n 0, 1) := by decide +kernel
theorem dX5_ticksBy_1 : decode cX5_ticksBy 1 = .ok (.getfield 13, 3) := by decide +kernel
theorem dX5_ticksBy_4 : decode cX5_ticksBy 4 = .ok (.iconst 2, 1) := by decide +kernel
theorem dX5_ticksBy_5 : decode cX5_ticksBy 5 = .ok (.iload_n 1, 1) := by decide +kernel
theorem dX5_ticksBy_6 : decode cX5_ticksBy 6 = .ok (.iastore, 1) := by decide +kernel
theorem dX5_ticksBy_7 : decode cX5_ticksBy 7 = .ok (.aload_n 0, 1) := by decide +kernel
theorem dX5_ticksBy_8 : decode cX5_ticksBy 8 = .ok (.invokevirtual 87, 3) := by decide +kernel
theorem dX5_ticksBy_11 : decode cX5_ticksBy 11 = .ok (.aload_n 0, 1) := by decide +kernel
theorem dX5_ticksBy_12 : decode cX5_ticksBy 12 = .ok (.iconst 1, 1) := by decide +kernel
theorem dX5_ticksBy_13 : decode cX5_ticksBy 13 = .ok (.invokevirtual 282, 3) := by decide +kernel
theorem dX5_ticksBy_16 : decode cX5_ticksBy 16 = .ok (.pop, 1) := by decide +kernel
theorem dX5_ticksBy_17 : decode cX5_ticksBy 17 = .ok (.aload_n 0, 1) := by decide +kernel
theorem dX5_ticksBy_18 : decode cX5_ticksBy 18 = .ok (.getfield 55, 3) := by decide +kernel
theorem dX5_ticksBy_21 : decode cX5_ticksBy 21 = .ok (.iconst 0, 1) := by decide +kernel
theorem dX5_ticksBy_22 : decode cX5_ticksBy 22 = .ok (.iaload, 1) := by decide +kernel
theorem dX5_ticksBy_23 : decode cX5_ticksBy 23 = .ok (.ifCond .le 10, 3) := by decide +kernel
theorem dX5_ticksBy_26 : decode cX5_ticksBy 26 = .ok (.aload_n 0, 1) := by decide +kernel
theorem dX5_ticksBy_27 : decode cX5_ticksBy 27 = .ok (.invokevirtual 188, 3) := by decide +kernel
theorem dX5_ticksBy_30 : decode cX5_ticksBy 30 = .ok (.goto (-13), 3) := by decide +kernel
theorem dX5_ticksBy_33 : decode cX5_ticksBy 33 = .ok (.aload_n 0, 1) := by decide +kernel
theorem dX5_ticksBy_34 : decode cX5_ticksBy 34 = .ok (.getfield 58, 3) := by decide +kernel
theorem dX5_ticksBy_37 : decode cX5_ticksBy 37 = .ok (.bipush 9, 2) := by decide +kernel
theorem dX5_ticksBy_39 : decode cX5_ticksBy 39 = .ok (.iaload, 1) := by decide +kernel
theorem dX5_ticksBy_40 : decode cX5_ticksBy 40 = .ok (.ireturn, 1) := by decide +kernel
theorem dX5_best_0 : decode cX5_best 0 = .ok (.iload_n 1, 1) := by decide +kernel
theorem dX5_best_1 : decode cX5_best 1 = .ok (.iconst 0, 1) := by decide +kernel
theorem dX5_best_2 : decode cX5_best 2 = .ok (.iconst 1, 1) := by decide +kernel
theorem dX5_best_3 : decode cX5_best 3 = .ok (.invokestatic 101, 3) := by decide +kernel
theorem dX5_best_6 : decode cX5_best 6 = .ok (.ifCond .ne 8, 3) := by decide +kernel
theorem dX5_best_9 : decode cX5_best 9 = .ok (.aload_n 0, 1) := by decide +kernel
theorem dX5_best_10 : decode cX5_best 10 = .ok (.invokevirtual 130, 3) := by decide +kernel
theorem dX5_best_13 : decode cX5_best 13 = .ok (.ireturn, 1) := by decide +kernel
theorem dX5_best_14 : decode cX5_best 14 = .ok (.aload_n 0, 1) := by decide +kernel
theorem dX5_best_15 : decode cX5_best 15 = .ok (.iconst 0, 1) := by decide +kernel
theorem dX5_best_16 : decode cX5_best 16 = .ok (.invokevirtual 282, 3) := by decide +kernel
theorem dX5_best_19 : decode cX5_best 19 = .ok (.istore_n 2, 1) := by decide +kernel
theorem dX5_best_20 : decode cX5_best 20 = .ok (.iload_n 2, 1) := by decide +kernel
theorem dX5_best_21 : decode cX5_best 21 = .ok (.ifCond .ge 5, 3) := by decide +kernel
theorem dX5_best_24 : decode cX5_best 24 = .ok (.iload_n 2, 1) := by decide +kernel
theorem dX5_best_25 : decode cX5_best 25 = .ok (.ireturn, 1) := by decide +kernel
theorem dX5_best_26 : decode cX5_best 26 = .ok (.aload_n 0, 1) := by decide +kernel
theorem dX5_best_27 : decode cX5_best 27 = .ok (.bipush 6, 2) := by decide +kernel
theorem dX5_best_29 : decode cX5_best 29 = .ok (.invokevirtual 119, 3) := by decide +kernel
theorem dX5_best_32 : decode cX5_best 32 = .ok (.iconst 1, 1) := by decide +kernel
theorem dX5_best_33 : decode cX5_best 33 = .ok (.istore_n 3, 1) := by decide +kernel
theorem dX5_best_34 : decode cX5_best 34 = .ok (.aload_n 0, 1) := by decide +kernel
theorem dX5_best_35 : decode cX5_best 35 = .ok (.iconst 1, 1) := by decide +kernel
theorem dX5_best_36 : decode cX5_best 36 = .ok (.invokevirtual 286, 3) := by decide +kernel
theorem dX5_best_39 : decode cX5_best 39 = .ok (.istore 4, 2) := by decide +kernel
theorem dX5_best_41 : decode cX5_best 41 = .ok (.iconst 2, 1) := by decide +kernel
theorem dX5_best_42 : decode cX5_best 42 = .ok (.istore 5, 2) := by decide +kernel
theorem dX5_best_44 : decode cX5_best 44 = .ok (.iload 5, 2) := by decide +kernel
theorem dX5_best_46 : decode cX5_best 46 = .ok (.iconst 4, 1) := by decide +kernel
theorem dX5_best_47 : decode cX5_best 47 = .ok (.if_icmp .gt 47, 3) := by decide +kernel
theorem dX5_best_50 : decode cX5_best 50 = .ok (.aload_n 0, 1) := by decide +kernel
theorem dX5_best_51 : decode cX5_best 51 = .ok (.iload 5, 2) := by decide +kernel
theorem dX5_best_53 : decode cX5_best 53 = .ok (.invokevirtual 286, 3) := by decide +kernel
theorem dX5_best_56 : decode cX5_best 56 = .ok (.istore 6, 2) := by decide +kernel
theorem dX5_best_58 : decode cX5_best 58 = .ok (.iload 6, 2) := by decide +kernel
theorem dX5_best_60 : decode cX5_best 60 = .ok (.iload 4, 2) := by decide +kernel
theorem dX5_best_62 : decode cX5_best 62 = .ok (.if_icmp .ge 8, 3) := by decide +kernel
theorem dX5_best_65 : decode cX5_best 65 = .ok (.iload 5, 2) := by decide +kernel
theorem dX5_best_67 : decode cX5_best 67 = .ok (.goto 4, 3) := by decide +kernel
theorem dX5_best_70 : decode cX5_best 70 = .ok (.iload_n 3, 1) := by decide +kernel
theorem dX5_best_71 : decode cX5_best 71 = .ok (.istore_n 3, 1) := by decide +kernel
theorem dX5_best_72 : decode cX5_best 72 = .ok (.iload 6, 2) := by decide +kernel
theorem dX5_best_74 : decode cX5_best 74 = .ok (.iload 4, 2) := by decide +kernel
theorem dX5_best_76 : decode cX5_best 76 = .ok (.if_icmp .ge 8, 3) := by decide +kernel
theorem dX5_best_79 : decode cX5_best 79 = .ok (.iload 6, 2) := by decide +kernel
theorem dX5_best_81 : decode cX5_best 81 = .ok (.goto 5, 3) := by decide +kernel
theorem dX5_best_84 : decode cX5_best 84 = .ok (.iload 4, 2) := by decide +kernel
theorem dX5_best_86 : decode cX5_best 86 = .ok (.istore 4, 2) := by decide +kernel
theorem dX5_best_88 : decode cX5_best 88 = .ok (.iinc 5 1, 3) := by decide +kernel
theorem dX5_best_91 : decode cX5_best 91 = .ok (.goto (-47), 3) := by decide +kernel
theorem dX5_best_94 : decode cX5_best 94 = .ok (.aload_n 0, 1) := by decide +kernel
theorem dX5_best_95 : decode cX5_best 95 = .ok (.bipush 6, 2) := by decide +kernel
theorem dX5_best_97 : decode cX5_best 97 = .ok (.invokevirtual 123, 3) := by decide +kernel
theorem dX5_best_100 : decode cX5_best 100 = .ok (.iload_n 1, 1) := by decide +kernel
theorem dX5_best_101 : decode cX5_best 101 = .ok (.ifCond .ne 7, 3) := by decide +kernel
theorem dX5_best_104 : decode cX5_best 104 = .ok (.iload_n 3, 1) := by decide +kernel
theorem dX5_best_105 : decode cX5_best 105 = .ok (.goto 5, 3) := by decide +kernel
theorem dX5_best_108 : decode cX5_best 108 = .ok (.iload 4, 2) := by decide +kernel
theorem dX5_best_110 : decode cX5_best 110 = .ok (.ireturn, 1) := by decide +kernel
theorem dX5_toldBy_0 : decode cX5_toldBy 0 = .ok (.iload_n 1, 1) := by decide +kernel
theorem dX5_toldBy_1 : decode cX5_toldBy 1 = .ok (.iconst 3, 1) := by decide +kernel
theorem dX5_toldBy_2 : decode cX5_toldBy 2 = .ok (.if_icmp .ge 12, 3) := by decide +kernel
theorem dX5_toldBy_5 : decode cX5_toldBy 5 = .ok (.aload_n 0, 1) := by decide +kernel
theorem dX5_toldBy_6 : decode cX5_toldBy 6 = .ok (.getfield 1, 3) := by decide +kernel
theorem dX5_toldBy_9 : decode cX5_toldBy 9 = .ok (.iload_n 1, 1) := by decide +kernel
theorem dX5_toldBy_10 : decode cX5_toldBy 10 = .ok (.iaload, 1) := by decide +kernel
theorem dX5_toldBy_11 : decode cX5_toldBy 11 = .ok (.goto 36, 3) := by decide +kernel
theorem dX5_toldBy_14 : decode cX5_toldBy 14 = .ok (.iload_n 1, 1) := by decide +kernel
theorem dX5_toldBy_15 : decode cX5_toldBy 15 = .ok (.iconst 3, 1) := by decide +kernel
theorem dX5_toldBy_16 : decode cX5_toldBy 16 = .ok (.if_icmp .ne 10, 3) := by decide +kernel
theorem dX5_toldBy_19 : decode cX5_toldBy 19 = .ok (.aload_n 0, 1) := by decide +kernel
theorem dX5_toldBy_20 : decode cX5_toldBy 20 = .ok (.getfield 250, 3) := by decide +kernel
theorem dX5_toldBy_23 : decode cX5_toldBy 23 = .ok (.goto 24, 3) := by decide +kernel
theorem dX5_toldBy_26 : decode cX5_toldBy 26 = .ok (.iload_n 1, 1) := by decide +kernel
theorem dX5_toldBy_27 : decode cX5_toldBy 27 = .ok (.bipush 9, 2) := by decide +kernel
theorem dX5_toldBy_29 : decode cX5_toldBy 29 = .ok (.if_icmp .ne 10, 3) := by decide +kernel
theorem dX5_toldBy_32 : decode cX5_toldBy 32 = .ok (.aload_n 0, 1) := by decide +kernel
theorem dX5_toldBy_33 : decode cX5_toldBy 33 = .ok (.getfield 116, 3) := by decide +kernel
theorem dX5_toldBy_36 : decode cX5_toldBy 36 = .ok (.goto 11, 3) := by decide +kernel
theorem dX5_toldBy_39 : decode cX5_toldBy 39 = .ok (.aload_n 0, 1) := by decide +kernel
theorem dX5_toldBy_40 : decode cX5_toldBy 40 = .ok (.getfield 13, 3) := by decide +kernel
theorem dX5_toldBy_43 : decode cX5_toldBy 43 = .ok (.iload_n 1, 1) := by decide +kernel
theorem dX5_toldBy_44 : decode cX5_toldBy 44 = .ok (.iconst 4, 1) := by decide +kernel
theorem dX5_toldBy_45 : decode cX5_toldBy 45 = .ok (.isub, 1) := by decide +kernel
theorem dX5_toldBy_46 : decode cX5_toldBy 46 = .ok (.iaload, 1) := by decide +kernel
theorem dX5_toldBy_47 : decode cX5_toldBy 47 = .ok (.ireturn, 1) := by decide +kernel
theorem dX5_told_0 : decode cX5_told 0 = .ok (.iload_n 1, 1) := by decide +kernel
theorem dX5_told_1 : decode cX5_told 1 = .ok (.iconst 0, 1) := by decide +kernel
theorem dX5_told_2 : decode cX5_told 2 = .ok (.bipush 9, 2) := by decide +kernel
theorem dX5_told_4 : decode cX5_told 4 = .ok (.invokestatic 101, 3) := by decide +kernel
theorem dX5_told_7 : decode cX5_told 7 = .ok (.ifCond .eq 11, 3) := by decide +kernel
theorem dX5_told_10 : decode cX5_told 10 = .ok (.aload_n 0, 1) := by decide +kernel
theorem dX5_told_11 : decode cX5_told 11 = .ok (.iload_n 1, 1) := by decide +kernel
theorem dX5_told_12 : decode cX5_told 12 = .ok (.invokevirtual 289, 3) := by decide +kernel
theorem dX5_told_15 : decode cX5_told 15 = .ok (.goto 7, 3) := by decide +kernel
theorem dX5_told_18 : decode cX5_told 18 = .ok (.aload_n 0, 1) := by decide +kernel
theorem dX5_told_19 : decode cX5_told 19 = .ok (.invokevirtual 130, 3) := by decide +kernel
theorem dX5_told_22 : decode cX5_told 22 = .ok (.ireturn, 1) := by decide +kernel
theorem dX5_digest_0 : decode cX5_digest 0 = .ok (.ldc2_w 292, 3) := by decide +kernel
theorem dX5_digest_3 : decode cX5_digest 3 = .ok (.lstore_n 1, 1) := by decide +kernel
theorem dX5_digest_4 : decode cX5_digest 4 = .ok (.iconst 0, 1) := by decide +kernel
theorem dX5_digest_5 : decode cX5_digest 5 = .ok (.istore_n 3, 1) := by decide +kernel
theorem dX5_digest_6 : decode cX5_digest 6 = .ok (.iload_n 3, 1) := by decide +kernel
theorem dX5_digest_7 : decode cX5_digest 7 = .ok (.bipush 10, 2) := by decide +kernel
theorem dX5_digest_9 : decode cX5_digest 9 = .ok (.if_icmp .ge 22, 3) := by decide +kernel
theorem dX5_digest_12 : decode cX5_digest 12 = .ok (.ldc2_w 294, 3) := by decide +kernel
theorem dX5_digest_15 : decode cX5_digest 15 = .ok (.lload_n 1, 1) := by decide +kernel
theorem dX5_digest_16 : decode cX5_digest 16 = .ok (.lmul, 1) := by decide +kernel
theorem dX5_digest_17 : decode cX5_digest 17 = .ok (.aload_n 0, 1) := by decide +kernel
theorem dX5_digest_18 : decode cX5_digest 18 = .ok (.iload_n 3, 1) := by decide +kernel
theorem dX5_digest_19 : decode cX5_digest 19 = .ok (.invokevirtual 289, 3) := by decide +kernel
theorem dX5_digest_22 : decode cX5_digest 22 = .ok (.i2l, 1) := by decide +kernel
theorem dX5_digest_23 : decode cX5_digest 23 = .ok (.ladd, 1) := by decide +kernel
theorem dX5_digest_24 : decode cX5_digest 24 = .ok (.lstore_n 1, 1) := by decide +kernel
theorem dX5_digest_25 : decode cX5_digest 25 = .ok (.iinc 3 1, 3) := by decide +kernel
theorem dX5_digest_28 : decode cX5_digest 28 = .ok (.goto (-22), 3) := by decide +kernel
theorem dX5_digest_31 : decode cX5_digest 31 = .ok (.iconst 0, 1) := by decide +kernel
theorem dX5_digest_32 : decode cX5_digest 32 = .ok (.istore_n 3, 1) := by decide +kernel
theorem dX5_digest_33 : decode cX5_digest 33 = .ok (.iload_n 3, 1) := by decide +kernel
theorem dX5_digest_34 : decode cX5_digest 34 = .ok (.bipush 10, 2) := by decide +kernel
theorem dX5_digest_36 : decode cX5_digest 36 = .ok (.if_icmp .ge 23, 3) := by decide +kernel
theorem dX5_digest_39 : decode cX5_digest 39 = .ok (.ldc2_w 294, 3) := by decide +kernel
theorem dX5_digest_42 : decode cX5_digest 42 = .ok (.lload_n 1, 1) := by decide +kernel
theorem dX5_digest_43 : decode cX5_digest 43 = .ok (.lmul, 1) := by decide +kernel
theorem dX5_digest_44 : decode cX5_digest 44 = .ok (.aload_n 0, 1) := by decide +kernel
theorem dX5_digest_45 : decode cX5_digest 45 = .ok (.getfield 58, 3) := by decide +kernel
theorem dX5_digest_48 : decode cX5_digest 48 = .ok (.iload_n 3, 1) := by decide +kernel
theorem dX5_digest_49 : decode cX5_digest 49 = .ok (.iaload, 1) := by decide +kernel
theorem dX5_digest_50 : decode cX5_digest 50 = .ok (.i2l, 1) := by decide +kernel
theorem dX5_digest_51 : decode cX5_digest 51 = .ok (.ladd, 1) := by decide +kernel
theorem dX5_digest_52 : decode cX5_digest 52 = .ok (.lstore_n 1, 1) := by decide +kernel
theorem dX5_digest_53 : decode cX5_digest 53 = .ok (.iinc 3 1, 3) := by decide +kernel
theorem dX5_digest_56 : decode cX5_digest 56 = .ok (.goto (-23), 3) := by decide +kernel
theorem dX5_digest_59 : decode cX5_digest 59 = .ok (.iconst 0, 1) := by decide +kernel
theorem dX5_digest_60 : decode cX5_digest 60 = .ok (.istore_n 3, 1) := by decide +kernel
theorem dX5_digest_61 : decode cX5_digest 61 = .ok (.iload_n 3, 1) := by decide +kernel
theorem dX5_digest_62 : decode cX5_digest 62 = .ok (.bipush 64, 2) := by decide +kernel
theorem dX5_digest_64 : decode cX5_digest 64 = .ok (.if_icmp .ge 23, 3) := by decide +kernel
theorem dX5_digest_67 : decode cX5_digest 67 = .ok (.ldc2_w 294, 3) := by decide +kernel
theorem dX5_digest_70 : decode cX5_digest 70 = .ok (.lload_n 1, 1) := by decide +kernel
theorem dX5_digest_71 : decode cX5_digest 71 = .ok (.lmul, 1) := by decide +kernel
theorem dX5_digest_72 : decode cX5_digest 72 = .ok (.aload_n 0, 1) := by decide +kernel
theorem dX5_digest_73 : decode cX5_digest 73 = .ok (.getfield 16, 3) := by decide +kernel
theorem dX5_digest_76 : decode cX5_digest 76 = .ok (.iload_n 3, 1) := by decide +kernel
theorem dX5_digest_77 : decode cX5_digest 77 = .ok (.iaload, 1) := by decide +kernel
theorem dX5_digest_78 : decode cX5_digest 78 = .ok (.i2l, 1) := by decide +kernel
theorem dX5_digest_79 : decode cX5_digest 79 = .ok (.ladd, 1) := by decide +kernel
theorem dX5_digest_80 : decode cX5_digest 80 = .ok (.lstore_n 1, 1) := by decide +kernel
theorem dX5_digest_81 : decode cX5_digest 81 = .ok (.iinc 3 1, 3) := by decide +kernel
theorem dX5_digest_84 : decode cX5_digest 84 = .ok (.goto (-23), 3) := by decide +kernel
theorem dX5_digest_87 : decode cX5_digest 87 = .ok (.iconst 0, 1) := by decide +kernel
theorem dX5_digest_88 : decode cX5_digest 88 = .ok (.istore_n 3, 1) := by decide +kernel
theorem dX5_digest_89 : decode cX5_digest 89 = .ok (.iload_n 3, 1) := by decide +kernel
theorem dX5_digest_90 : decode cX5_digest 90 = .ok (.bipush 16, 2) := by decide +kernel
theorem dX5_digest_92 : decode cX5_digest 92 = .ok (.if_icmp .ge 23, 3) := by decide +kernel
theorem dX5_digest_95 : decode cX5_digest 95 = .ok (.ldc2_w 294, 3) := by decide +kernel
theorem dX5_digest_98 : decode cX5_digest 98 = .ok (.lload_n 1, 1) := by decide +kernel
theorem dX5_digest_99 : decode cX5_digest 99 = .ok (.lmul, 1) := by decide +kernel
theorem dX5_digest_100 : decode cX5_digest 100 = .ok (.aload_n 0, 1) := by decide +kernel
theorem dX5_digest_101 : decode cX5_digest 101 = .ok (.getfield 25, 3) := by decide +kernel
theorem dX5_digest_104 : decode cX5_digest 104 = .ok (.iload_n 3, 1) := by decide +kernel
theorem dX5_digest_105 : decode cX5_digest 105 = .ok (.iaload, 1) := by decide +kernel
theorem dX5_digest_106 : decode cX5_digest 106 = .ok (.i2l, 1) := by decide +kernel
theorem dX5_digest_107 : decode cX5_digest 107 = .ok (.ladd, 1) := by decide +kernel
theorem dX5_digest_108 : decode cX5_digest 108 = .ok (.lstore_n 1, 1) := by decide +kernel
theorem dX5_digest_109 : decode cX5_digest 109 = .ok (.iinc 3 1, 3) := by decide +kernel
theorem dX5_digest_112 : decode cX5_digest 112 = .ok (.goto (-23), 3) := by decide +kernel
theorem dX5_digest_115 : decode cX5_digest 115 = .ok (.ldc2_w 294, 3) := by decide +kernel
theorem dX5_digest_118 : decode cX5_digest 118 = .ok (.lload_n 1, 1) := by decide +kernel
theorem dX5_digest_119 : decode cX5_digest 119 = .ok (.lmul, 1) := by decide +kernel
theorem dX5_digest_120 : decode cX5_digest 120 = .ok (.aload_n 0, 1) := by decide +kernel
theorem dX5_digest_121 : decode cX5_digest 121 = .ok (.iconst 0, 1) := by decide +kernel
theorem dX5_digest_122 : decode cX5_digest 122 = .ok (.invokevirtual 296, 3) := by decide +kernel
theorem dX5_digest_125 : decode cX5_digest 125 = .ok (.i2l, 1) := by decide +kernel
theorem dX5_digest_126 : decode cX5_digest 126 = .ok (.ladd, 1) := by decide +kernel
theorem dX5_digest_127 : decode cX5_digest 127 = .ok (.lstore_n 1, 1) := by decide +kernel
theorem dX5_digest_128 : decode cX5_digest 128 = .ok (.ldc2_w 294, 3) := by decide +kernel
theorem dX5_digest_131 : decode cX5_digest 131 = .ok (.lload_n 1, 1) := by decide +kernel
theorem dX5_digest_132 : decode cX5_digest 132 = .ok (.lmul, 1) := by decide +kernel
theorem dX5_digest_133 : decode cX5_digest 133 = .ok (.aload_n 0, 1) := by decide +kernel
theorem dX5_digest_134 : decode cX5_digest 134 = .ok (.iconst 1, 1) := by decide +kernel
theorem dX5_digest_135 : decode cX5_digest 135 = .ok (.invokevirtual 296, 3) := by decide +kernel
theorem dX5_digest_138 : decode cX5_digest 138 = .ok (.i2l, 1) := by decide +kernel
theorem dX5_digest_139 : decode cX5_digest 139 = .ok (.ladd, 1) := by decide +kernel
theorem dX5_digest_140 : decode cX5_digest 140 = .ok (.lstore_n 1, 1) := by decide +kernel
theorem dX5_digest_141 : decode cX5_digest 141 = .ok (.ldc2_w 294, 3) := by decide +kernel
theorem dX5_digest_144 : decode cX5_digest 144 = .ok (.lload_n 1, 1) := by decide +kernel
theorem dX5_digest_145 : decode cX5_digest 145 = .ok (.lmul, 1) := by decide +kernel
theorem dX5_digest_146 : decode cX5_digest 146 = .ok (.aload_n 0, 1) := by decide +kernel
theorem dX5_digest_147 : decode cX5_digest 147 = .ok (.invokevirtual 298, 3) := by decide +kernel
theorem dX5_digest_150 : decode cX5_digest 150 = .ok (.ladd, 1) := by decide +kernel
theorem dX5_digest_151 : decode cX5_digest 151 = .ok (.lreturn, 1) := by decide +kernel
theorem dJxe99ae_isNaN_b9ae7_0 : decode cJxe99ae_isNaN_b9ae7 0 = .ok (.dload_n 0, 1) := by decide +kernel
theorem dJxe99ae_isNaN_b9ae7_1 : decode cJxe99ae_isNaN_b9ae7 1 = .ok (.dload_n 0, 1) := by decide +kernel
theorem dJxe99ae_isNaN_b9ae7_2 : decode cJxe99ae_isNaN_b9ae7 2 = .ok (.dcmp .l, 1) := by decide +kernel
theorem dJxe99ae_isNaN_b9ae7_3 : decode cJxe99ae_isNaN_b9ae7 3 = .ok (.ifCond .eq 7, 3) := by decide +kernel
theorem dJxe99ae_isNaN_b9ae7_6 : decode cJxe99ae_isNaN_b9ae7 6 = .ok (.iconst 1, 1) := by decide +kernel
theorem dJxe99ae_isNaN_b9ae7_7 : decode cJxe99ae_isNaN_b9ae7 7 = .ok (.goto 4, 3) := by decide +kernel
theorem dJxe99ae_isNaN_b9ae7_10 : decode cJxe99ae_isNaN_b9ae7 10 = .ok (.iconst 0, 1) := by decide +kernel
theorem dJxe99ae_isNaN_b9ae7_11 : decode cJxe99ae_isNaN_b9ae7 11 = .ok (.ireturn, 1) := by decide +kernel
theorem dJxe99ae_doubleToLongBits_ccdee_0 : decode cJxe99ae_doubleToLongBits_ccdee 0 = .ok (.dload_n 0, 1) := by decide +kernel
theorem dJxe99ae_doubleToLongBits_ccdee_1 : decode cJxe99ae_doubleToLongBits_ccdee 1 = .ok (.invokestatic 122, 3) := by decide +kernel
theorem dJxe99ae_doubleToLongBits_ccdee_4 : decode cJxe99ae_doubleToLongBits_ccdee 4 = .ok (.ifCond .ne 8, 3) := by decide +kernel
theorem dJxe99ae_doubleToLongBits_ccdee_7 : decode cJxe99ae_doubleToLongBits_ccdee 7 = .ok (.dload_n 0, 1) := by decide +kernel
theorem dJxe99ae_doubleToLongBits_ccdee_8 : decode cJxe99ae_doubleToLongBits_ccdee 8 = .ok (.invokestatic 134, 3) := by decide +kernel
theorem dJxe99ae_doubleToLongBits_ccdee_11 : decode cJxe99ae_doubleToLongBits_ccdee 11 = .ok (.lreturn, 1) := by decide +kernel
theorem dJxe99ae_doubleToLongBits_ccdee_12 : decode cJxe99ae_doubleToLongBits_ccdee 12 = .ok (.ldc2_w 137, 3) := by decide +kernel
theorem dJxe99ae_doubleToLongBits_ccdee_15 : decode cJxe99ae_doubleToLongBits_ccdee 15 = .ok (.lreturn, 1) := by decide +kernel
theorem dJxf58ca_isNaN_12338_0 : decode cJxf58ca_isNaN_12338 0 = .ok (.fload_n 0, 1) := by decide +kernel
theorem dJxf58ca_isNaN_12338_1 : decode cJxf58ca_isNaN_12338 1 = .ok (.fload_n 0, 1) := by decide +kernel
theorem dJxf58ca_isNaN_12338_2 : decode cJxf58ca_isNaN_12338 2 = .ok (.fcmp .l, 1) := by decide +kernel
theorem dJxf58ca_isNaN_12338_3 : decode cJxf58ca_isNaN_12338 3 = .ok (.ifCond .eq 7, 3) := by decide +kernel
theorem dJxf58ca_isNaN_12338_6 : decode cJxf58ca_isNaN_12338 6 = .ok (.iconst 1, 1) := by decide +kernel
theorem dJxf58ca_isNaN_12338_7 : decode cJxf58ca_isNaN_12338 7 = .ok (.goto 4, 3) := by decide +kernel
theorem dJxf58ca_isNaN_12338_10 : decode cJxf58ca_isNaN_12338 10 = .ok (.iconst 0, 1) := by decide +kernel
theorem dJxf58ca_isNaN_12338_11 : decode cJxf58ca_isNaN_12338 11 = .ok (.ireturn, 1) := by decide +kernel
theorem dJxf58ca_floatToIntBits_5c35a_0 : decode cJxf58ca_floatToIntBits_5c35a 0 = .ok (.fload_n 0, 1) := by decide +kernel
theorem dJxf58ca_floatToIntBits_5c35a_1 : decode cJxf58ca_floatToIntBits_5c35a 1 = .ok (.invokestatic 59, 3) := by decide +kernel
theorem dJxf58ca_floatToIntBits_5c35a_4 : decode cJxf58ca_floatToIntBits_5c35a 4 = .ok (.ifCond .ne 8, 3) := by decide +kernel
theorem dJxf58ca_floatToIntBits_5c35a_7 : decode cJxf58ca_floatToIntBits_5c35a 7 = .ok (.fload_n 0, 1) := by decide +kernel
theorem dJxf58ca_floatToIntBits_5c35a_8 : decode cJxf58ca_floatToIntBits_5c35a 8 = .ok (.invokestatic 74, 3) := by decide +kernel
theorem dJxf58ca_floatToIntBits_5c35a_11 : decode cJxf58ca_floatToIntBits_5c35a 11 = .ok (.ireturn, 1) := by decide +kernel
theorem dJxf58ca_floatToIntBits_5c35a_12 : decode cJxf58ca_floatToIntBits_5c35a 12 = .ok (.ldc 77, 2) := by decide +kernel
theorem dJxf58ca_floatToIntBits_5c35a_14 : decode cJxf58ca_floatToIntBits_5c35a 14 = .ok (.ireturn, 1) := by decide +kernel
theorem dJ9_max_7cf53_0 : decode cJ9_max_7cf53 0 = .ok (.iload_n 0, 1) := by decide +kernel
theorem dJ9_max_7cf53_1 : decode cJ9_max_7cf53 1 = .ok (.iload_n 1, 1) := by decide +kernel
theorem dJ9_max_7cf53_2 : decode cJ9_max_7cf53 2 = .ok (.if_icmp .lt 7, 3) := by decide +kernel
theorem dJ9_max_7cf53_5 : decode cJ9_max_7cf53 5 = .ok (.iload_n 0, 1) := by decide +kernel
theorem dJ9_max_7cf53_6 : decode cJ9_max_7cf53 6 = .ok (.goto 4, 3) := by decide +kernel
theorem dJ9_max_7cf53_9 : decode cJ9_max_7cf53 9 = .ok (.iload_n 1, 1) := by decide +kernel
theorem dJ9_max_7cf53_10 : decode cJ9_max_7cf53 10 = .ok (.ireturn, 1) := by decide +kernel
theorem dJ9_min_7cf53_0 : decode cJ9_min_7cf53 0 = .ok (.iload_n 0, 1) := by decide +kernel
theorem dJ9_min_7cf53_1 : decode cJ9_min_7cf53 1 = .ok (.iload_n 1, 1) := by decide +kernel
theorem dJ9_min_7cf53_2 : decode cJ9_min_7cf53 2 = .ok (.if_icmp .gt 7, 3) := by decide +kernel
theorem dJ9_min_7cf53_5 : decode cJ9_min_7cf53 5 = .ok (.iload_n 0, 1) := by decide +kernel
theorem dJ9_min_7cf53_6 : decode cJ9_min_7cf53 6 = .ok (.goto 4, 3) := by decide +kernel
theorem dJ9_min_7cf53_9 : decode cJ9_min_7cf53 9 = .ok (.iload_n 1, 1) := by decide +kernel
theorem dJ9_min_7cf53_10 : decode cJ9_min_7cf53 10 = .ok (.ireturn, 1) := by decide +kernel
theorem dL_law_0 : decode cL_law 0 = .ok (.new 7, 3) := by decide +kernel
theorem dL_law_3 : decode cL_law 3 = .ok (.dup, 1) := by decide +kernel
theorem dL_law_4 : decode cL_law 4 = .ok (.invokespecial 9, 3) := by decide +kernel
theorem dL_law_7 : decode cL_law 7 = .ok (.astore_n 1, 1) := by decide +kernel
theorem dL_law_8 : decode cL_law 8 = .ok (.new 10, 3) := by decide +kernel
theorem dL_law_11 : decode cL_law 11 = .ok (.dup, 1) := by decide +kernel
theorem dL_law_12 : decode cL_law 12 = .ok (.invokespecial 12, 3) := by decide +kernel
theorem dL_law_15 : decode cL_law 15 = .ok (.astore_n 2, 1) := by decide +kernel
theorem dL_law_16 : decode cL_law 16 = .ok (.iconst 0, 1) := by decide +kernel
theorem dL_law_17 : decode cL_law 17 = .ok (.istore_n 3, 1) := by decide +kernel
theorem dL_law_18 : decode cL_law 18 = .ok (.iload_n 3, 1) := by decide +kernel
theorem dL_law_19 : decode cL_law 19 = .ok (.aload_n 0, 1) := by decide +kernel
theorem dL_law_20 : decode cL_law 20 = .ok (.arraylength, 1) := by decide +kernel
theorem dL_law_21 : decode cL_law 21 = .ok (.iconst 4, 1) := by decide +kernel
theorem dL_law_22 : decode cL_law 22 = .ok (.isub, 1) := by decide +kernel
theorem dL_law_23 : decode cL_law 23 = .ok (.if_icmp .gt 657, 3) := by decide +kernel
theorem dL_law_26 : decode cL_law 26 = .ok (.aload_n 0, 1) := by decide +kernel
theorem dL_law_27 : decode cL_law 27 = .ok (.iload_n 3, 1) := by decide +kernel
theorem dL_law_28 : decode cL_law 28 = .ok (.iaload, 1) := by decide +kernel
theorem dL_law_29 : decode cL_law 29 = .ok (.bipush 31, 2) := by decide +kernel
theorem dL_law_31 : decode cL_law 31 = .ok (.iand, 1) := by decide +kernel
theorem dL_law_32 : decode cL_law 32 = .ok (.tableswitch 642 0 21 #[104, 137, 150, 183, 226, 239, 262, 295, 328, 351, 374, 417, 450, 483, 506, 520, 543, 566, 579, 592, 605, 628], 104) := by decide +kernel
theorem dL_law_136 : decode cL_law 136 = .ok (.aload_n 1, 1) := by decide +kernel
theorem dL_law_137 : decode cL_law 137 = .ok (.aload_n 0, 1) := by decide +kernel
theorem dL_law_138 : decode cL_law 138 = .ok (.iload_n 3, 1) := by decide +kernel
theorem dL_law_139 : decode cL_law 139 = .ok (.iconst 1, 1) := by decide +kernel
theorem dL_law_140 : decode cL_law 140 = .ok (.iadd, 1) := by decide +kernel
theorem dL_law_141 : decode cL_law 141 = .ok (.iaload, 1) := by decide +kernel
theorem dL_law_142 : decode cL_law 142 = .ok (.aload_n 0, 1) := by decide +kernel
theorem dL_law_143 : decode cL_law 143 = .ok (.iload_n 3, 1) := by decide +kernel
theorem dL_law_144 : decode cL_law 144 = .ok (.iconst 2, 1) := by decide +kernel
theorem dL_law_145 : decode cL_law 145 = .ok (.iadd, 1) := by decide +kernel
theorem dL_law_146 : decode cL_law 146 = .ok (.iaload, 1) := by decide +kernel
theorem dL_law_147 : decode cL_law 147 = .ok (.invokevirtual 13, 3) := by decide +kernel
theorem dL_law_150 : decode cL_law 150 = .ok (.aload_n 2, 1) := by decide +kernel
theorem dL_law_151 : decode cL_law 151 = .ok (.aload_n 0, 1) := by decide +kernel
theorem dL_law_152 : decode cL_law 152 = .ok (.iload_n 3, 1) := by decide +kernel
theorem dL_law_153 : decode cL_law 153 = .ok (.iconst 1, 1) := by decide +kernel
theorem dL_law_154 : decode cL_law 154 = .ok (.iadd, 1) := by decide +kernel
theorem dL_law_155 : decode cL_law 155 = .ok (.iaload, 1) := by decide +kernel
theorem dL_law_156 : decode cL_law 156 = .ok (.aload_n 0, 1) := by decide +kernel
theorem dL_law_157 : decode cL_law 157 = .ok (.iload_n 3, 1) := by decide +kernel
theorem dL_law_158 : decode cL_law 158 = .ok (.iconst 2, 1) := by decide +kernel
theorem dL_law_159 : decode cL_law 159 = .ok (.iadd, 1) := by decide +kernel
theorem dL_law_160 : decode cL_law 160 = .ok (.iaload, 1) := by decide +kernel
theorem dL_law_161 : decode cL_law 161 = .ok (.invokevirtual 17, 3) := by decide +kernel
theorem dL_law_164 : decode cL_law 164 = .ok (.if_icmp .eq 510, 3) := by decide +kernel
theorem dL_law_167 : decode cL_law 167 = .ok (.iconst 0, 1) := by decide +kernel
theorem dL_law_168 : decode cL_law 168 = .ok (.ireturn, 1) := by decide +kernel
theorem dL_law_169 : decode cL_law 169 = .ok (.aload_n 1, 1) := by decide +kernel
theorem dL_law_170 : decode cL_law 170 = .ok (.invokevirtual 18, 3) := by decide +kernel
theorem dL_law_173 : decode cL_law 173 = .ok (.aload_n 2, 1) := by decide +kernel
theorem dL_law_174 : decode cL_law 174 = .ok (.invokevirtual 22, 3) := by decide +kernel
theorem dL_law_177 : decode cL_law 177 = .ok (.if_icmp .eq 497, 3) := by decide +kernel
theorem dL_law_180 : decode cL_law 180 = .ok (.iconst 0, 1) := by decide +kernel
theorem dL_law_181 : decode cL_law 181 = .ok (.ireturn, 1) := by decide +kernel
theorem dL_law_182 : decode cL_law 182 = .ok (.aload_n 1, 1) := by decide +kernel
theorem dL_law_183 : decode cL_law 183 = .ok (.aload_n 0, 1) := by decide +kernel
theorem dL_law_184 : decode cL_law 184 = .ok (.iload_n 3, 1) := by decide +kernel
theorem dL_law_185 : decode cL_law 185 = .ok (.iconst 1, 1) := by decide +kernel
theorem dL_law_186 : decode cL_law 186 = .ok (.iadd, 1) := by decide +kernel
theorem dL_law_187 : decode cL_law 187 = .ok (.iaload, 1) := by decide +kernel
theorem dL_law_188 : decode cL_law 188 = .ok (.aload_n 0, 1) := by decide +kernel
theorem dL_law_189 : decode cL_law 189 = .ok (.iload_n 3, 1) := by decide +kernel
theorem dL_law_190 : decode cL_law 190 = .ok (.iconst 2, 1) := by decide +kernel
theorem dL_law_191 : decode cL_law 191 = .ok (.iadd, 1) := by decide +kernel
theorem dL_law_192 : decode cL_law 192 = .ok (.iaload, 1) := by decide +kernel
theorem dL_law_193 : decode cL_law 193 = .ok (.invokevirtual 23, 3) := by decide +kernel
theorem dL_law_196 : decode cL_law 196 = .ok (.aload_n 2, 1) := by decide +kernel
theorem dL_law_197 : decode cL_law 197 = .ok (.aload_n 0, 1) := by decide +kernel
theorem dL_law_198 : decode cL_law 198 = .ok (.iload_n 3, 1) := by decide +kernel
theorem dL_law_199 : decode cL_law 199 = .ok (.iconst 1, 1) := by decide +kernel
theorem dL_law_200 : decode cL_law 200 = .ok (.iadd, 1) := by decide +kernel
theorem dL_law_201 : decode cL_law 201 = .ok (.iaload, 1) := by decide +kernel
theorem dL_law_202 : decode cL_law 202 = .ok (.aload_n 0, 1) := by decide +kernel
theorem dL_law_203 : decode cL_law 203 = .ok (.iload_n 3, 1) := by decide +kernel
theorem dL_law_204 : decode cL_law 204 = .ok (.iconst 2, 1) := by decide +kernel
theorem dL_law_205 : decode cL_law 205 = .ok (.iadd, 1) := by decide +kernel
theorem dL_law_206 : decode cL_law 206 = .ok (.iaload, 1) := by decide +kernel
theorem dL_law_207 : decode cL_law 207 = .ok (.invokevirtual 26, 3) := by decide +kernel
theorem dL_law_210 : decode cL_law 210 = .ok (.if_icmp .eq 464, 3) := by decide +kernel
theorem dL_law_213 : decode cL_law 213 = .ok (.iconst 0, 1) := by decide +kernel
theorem dL_law_214 : decode cL_law 214 = .ok (.ireturn, 1) := by decide +kernel
theorem dL_law_215 : decode cL_law 215 = .ok (.aload_n 1, 1) := by decide +kernel
theorem dL_law_216 : decode cL_law 216 = .ok (.aload_n 0, 1) := by decide +kernel
theorem dL_law_217 : decode cL_law 217 = .ok (.iload_n 3, 1) := by decide +kernel
theorem dL_law_218 : decode cL_law 218 = .ok (.iconst 1, 1) := by decide +kernel
theorem dL_law_219 : decode cL_law 219 = .ok (.iadd, 1) := by decide +kernel
theorem dL_law_220 : decode cL_law 220 = .ok (.iaload, 1) := by decide +kernel
theorem dL_law_221 : decode cL_law 221 = .ok (.aload_n 0, 1) := by decide +kernel
theorem dL_law_222 : decode cL_law 222 = .ok (.iload_n 3, 1) := by decide +kernel
theorem dL_law_223 : decode cL_law 223 = .ok (.iconst 2, 1) := by decide +kernel
theorem dL_law_224 : decode cL_law 224 = .ok (.iadd, 1) := by decide +kernel
theorem dL_law_225 : decode cL_law 225 = .ok (.iaload, 1) := by decide +kernel
theorem dL_law_226 : decode cL_law 226 = .ok (.aload_n 0, 1) := by decide +kernel
theorem dL_law_227 : decode cL_law 227 = .ok (.iload_n 3, 1) := by decide +kernel
theorem dL_law_228 : decode cL_law 228 = .ok (.iconst 3, 1) := by decide +kernel
theorem dL_law_229 : decode cL_law 229 = .ok (.iadd, 1) := by decide +kernel
theorem dL_law_230 : decode cL_law 230 = .ok (.iaload, 1) := by decide +kernel
theorem dL_law_231 : decode cL_law 231 = .ok (.invokevirtual 27, 3) := by decide +kernel
theorem dL_law_234 : decode cL_law 234 = .ok (.aload_n 2, 1) := by decide +kernel
theorem dL_law_235 : decode cL_law 235 = .ok (.aload_n 0, 1) := by decide +kernel
theorem dL_law_236 : decode cL_law 236 = .ok (.iload_n 3, 1) := by decide +kernel
theorem dL_law_237 : decode cL_law 237 = .ok (.iconst 1, 1) := by decide +kernel
theorem dL_law_238 : decode cL_law 238 = .ok (.iadd, 1) := by decide +kernel
theorem dL_law_239 : decode cL_law 239 = .ok (.iaload, 1) := by decide +kernel
theorem dL_law_240 : decode cL_law 240 = .ok (.aload_n 0, 1) := by decide +kernel
theorem dL_law_241 : decode cL_law 241 = .ok (.iload_n 3, 1) := by decide +kernel
theorem dL_law_242 : decode cL_law 242 = .ok (.iconst 2, 1) := by decide +kernel
theorem dL_law_243 : decode cL_law 243 = .ok (.iadd, 1) := by decide +kernel
theorem dL_law_244 : decode cL_law 244 = .ok (.iaload, 1) := by decide +kernel
theorem dL_law_245 : decode cL_law 245 = .ok (.aload_n 0, 1) := by decide +kernel
theorem dL_law_246 : decode cL_law 246 = .ok (.iload_n 3, 1) := by decide +kernel
theorem dL_law_247 : decode cL_law 247 = .ok (.iconst 3, 1) := by decide +kernel
theorem dL_law_248 : decode cL_law 248 = .ok (.iadd, 1) := by decide +kernel
theorem dL_law_249 : decode cL_law 249 = .ok (.iaload, 1) := by decide +kernel
theorem dL_law_250 : decode cL_law 250 = .ok (.invokevirtual 31, 3) := by decide +kernel
theorem dL_law_253 : decode cL_law 253 = .ok (.if_icmp .eq 421, 3) := by decide +kernel
theorem dL_law_256 : decode cL_law 256 = .ok (.iconst 0, 1) := by decide +kernel
theorem dL_law_257 : decode cL_law 257 = .ok (.ireturn, 1) := by decide +kernel
theorem dL_law_258 : decode cL_law 258 = .ok (.aload_n 1, 1) := by decide +kernel
theorem dL_law_259 : decode cL_law 259 = .ok (.invokevirtual 32, 3) := by decide +kernel
theorem dL_law_262 : decode cL_law 262 = .ok (.aload_n 2, 1) := by decide +kernel
theorem dL_law_263 : decode cL_law 263 = .ok (.invokevirtual 35, 3) := by decide +kernel
theorem dL_law_266 : decode cL_law 266 = .ok (.if_icmp .eq 408, 3) := by decide +kernel
theorem dL_law_269 : decode cL_law 269 = .ok (.iconst 0, 1) := by decide +kernel
theorem dL_law_270 : decode cL_law 270 = .ok (.ireturn, 1) := by decide +kernel
theorem dL_law_271 : decode cL_law 271 = .ok (.aload_n 1, 1) := by decide +kernel
theorem dL_law_272 : decode cL_law 272 = .ok (.aload_n 0, 1) := by decide +kernel
theorem dL_law_273 : decode cL_law 273 = .ok (.iload_n 3, 1) := by decide +kernel
theorem dL_law_274 : decode cL_law 274 = .ok (.iconst 1, 1) := by decide +kernel
theorem dL_law_275 : decode cL_law 275 = .ok (.iadd, 1) := by decide +kernel
theorem dL_law_276 : decode cL_law 276 = .ok (.iaload, 1) := by decide +kernel
theorem dL_law_277 : decode cL_law 277 = .ok (.invokevirtual 36, 3) := by decide +kernel
theorem dL_law_280 : decode cL_law 280 = .ok (.aload_n 2, 1) := by decide +kernel
theorem dL_law_281 : decode cL_law 281 = .ok (.aload_n 0, 1) := by decide +kernel
theorem dL_law_282 : decode cL_law 282 = .ok (.iload_n 3, 1) := by decide +kernel
theorem dL_law_283 : decode cL_law 283 = .ok (.iconst 1, 1) := by decide +kernel
theorem dL_law_284 : decode cL_law 284 = .ok (.iadd, 1) := by decide +kernel
theorem dL_law_285 : decode cL_law 285 = .ok (.iaload, 1) := by decide +kernel
theorem dL_law_286 : decode cL_law 286 = .ok (.invokevirtual 40, 3) := by decide +kernel
theorem dL_law_289 : decode cL_law 289 = .ok (.if_icmp .eq 385, 3) := by decide +kernel
theorem dL_law_292 : decode cL_law 292 = .ok (.iconst 0, 1) := by decide +kernel
theorem dL_law_293 : decode cL_law 293 = .ok (.ireturn, 1) := by decide +kernel
theorem dL_law_294 : decode cL_law 294 = .ok (.aload_n 1, 1) := by decide +kernel
theorem dL_law_295 : decode cL_law 295 = .ok (.aload_n 0, 1) := by decide +kernel
theorem dL_law_296 : decode cL_law 296 = .ok (.iload_n 3, 1) := by decide +kernel
theorem dL_law_297 : decode cL_law 297 = .ok (.iconst 1, 1) := by decide +kernel
theorem dL_law_298 : decode cL_law 298 = .ok (.iadd, 1) := by decide +kernel
theorem dL_law_299 : decode cL_law 299 = .ok (.iaload, 1) := by decide +kernel
theorem dL_law_300 : decode cL_law 300 = .ok (.aload_n 0, 1) := by decide +kernel
theorem dL_law_301 : decode cL_law 301 = .ok (.iload_n 3, 1) := by decide +kernel
theorem dL_law_302 : decode cL_law 302 = .ok (.iconst 2, 1) := by decide +kernel
theorem dL_law_303 : decode cL_law 303 = .ok (.iadd, 1) := by decide +kernel
theorem dL_law_304 : decode cL_law 304 = .ok (.iaload, 1) := by decide +kernel
theorem dL_law_305 : decode cL_law 305 = .ok (.invokevirtual 41, 3) := by decide +kernel
theorem dL_law_308 : decode cL_law 308 = .ok (.aload_n 2, 1) := by decide +kernel
theorem dL_law_309 : decode cL_law 309 = .ok (.aload_n 0, 1) := by decide +kernel
theorem dL_law_310 : decode cL_law 310 = .ok (.iload_n 3, 1) := by decide +kernel
theorem dL_law_311 : decode cL_law 311 = .ok (.iconst 1, 1) := by decide +kernel
theorem dL_law_312 : decode cL_law 312 = .ok (.iadd, 1) := by decide +kernel
theorem dL_law_313 : decode cL_law 313 = .ok (.iaload, 1) := by decide +kernel
theorem dL_law_314 : decode cL_law 314 = .ok (.aload_n 0, 1) := by decide +kernel
theorem dL_law_315 : decode cL_law 315 = .ok (.iload_n 3, 1) := by decide +kernel
theorem dL_law_316 : decode cL_law 316 = .ok (.iconst 2, 1) := by decide +kernel
theorem dL_law_317 : decode cL_law 317 = .ok (.iadd, 1) := by decide +kernel
theorem dL_law_318 : decode cL_law 318 = .ok (.iaload, 1) := by decide +kernel
theorem dL_law_319 : decode cL_law 319 = .ok (.invokevirtual 44, 3) := by decide +kernel
theorem dL_law_322 : decode cL_law 322 = .ok (.if_icmp .eq 352, 3) := by decide +kernel
theorem dL_law_325 : decode cL_law 325 = .ok (.iconst 0, 1) := by decide +kernel
theorem dL_law_326 : decode cL_law 326 = .ok (.ireturn, 1) := by decide +kernel
theorem dL_law_327 : decode cL_law 327 = .ok (.aload_n 1, 1) := by decide +kernel
theorem dL_law_328 : decode cL_law 328 = .ok (.aload_n 0, 1) := by decide +kernel
theorem dL_law_329 : decode cL_law 329 = .ok (.iload_n 3, 1) := by decide +kernel
theorem dL_law_330 : decode cL_law 330 = .ok (.iconst 1, 1) := by decide +kernel
theorem dL_law_331 : decode cL_law 331 = .ok (.iadd, 1) := by decide +kernel
theorem dL_law_332 : decode cL_law 332 = .ok (.iaload, 1) := by decide +kernel
theorem dL_law_333 : decode cL_law 333 = .ok (.aload_n 0, 1) := by decide +kernel
theorem dL_law_334 : decode cL_law 334 = .ok (.iload_n 3, 1) := by decide +kernel
theorem dL_law_335 : decode cL_law 335 = .ok (.iconst 2, 1) := by decide +kernel
theorem dL_law_336 : decode cL_law 336 = .ok (.iadd, 1) := by decide +kernel
theorem dL_law_337 : decode cL_law 337 = .ok (.iaload, 1) := by decide +kernel
theorem dL_law_338 : decode cL_law 338 = .ok (.invokevirtual 45, 3) := by decide +kernel
theorem dL_law_341 : decode cL_law 341 = .ok (.aload_n 2, 1) := by decide +kernel
theorem dL_law_342 : decode cL_law 342 = .ok (.aload_n 0, 1) := by decide +kernel
theorem dL_law_343 : decode cL_law 343 = .ok (.iload_n 3, 1) := by decide +kernel
theorem dL_law_344 : decode cL_law 344 = .ok (.iconst 1, 1) := by decide +kernel
theorem dL_law_345 : decode cL_law 345 = .ok (.iadd, 1) := by decide +kernel
theorem dL_law_346 : decode cL_law 346 = .ok (.iaload, 1) := by decide +kernel
theorem dL_law_347 : decode cL_law 347 = .ok (.aload_n 0, 1) := by decide +kernel
theorem dL_law_348 : decode cL_law 348 = .ok (.iload_n 3, 1) := by decide +kernel
theorem dL_law_349 : decode cL_law 349 = .ok (.iconst 2, 1) := by decide +kernel
theorem dL_law_350 : decode cL_law 350 = .ok (.iadd, 1) := by decide +kernel
theorem dL_law_351 : decode cL_law 351 = .ok (.iaload, 1) := by decide +kernel
theorem dL_law_352 : decode cL_law 352 = .ok (.invokevirtual 48, 3) := by decide +kernel
theorem dL_law_355 : decode cL_law 355 = .ok (.if_icmp .eq 319, 3) := by decide +kernel
theorem dL_law_358 : decode cL_law 358 = .ok (.iconst 0, 1) := by decide +kernel
theorem dL_law_359 : decode cL_law 359 = .ok (.ireturn, 1) := by decide +kernel
theorem dL_law_360 : decode cL_law 360 = .ok (.aload_n 1, 1) := by decide +kernel
theorem dL_law_361 : decode cL_law 361 = .ok (.aload_n 0, 1) := by decide +kernel
theorem dL_law_362 : decode cL_law 362 = .ok (.iload_n 3, 1) := by decide +kernel
theorem dL_law_363 : decode cL_law 363 = .ok (.iconst 1, 1) := by decide +kernel
theorem dL_law_364 : decode cL_law 364 = .ok (.iadd, 1) := by decide +kernel
theorem dL_law_365 : decode cL_law 365 = .ok (.iaload, 1) := by decide +kernel
theorem dL_law_366 : decode cL_law 366 = .ok (.invokevirtual 49, 3) := by decide +kernel
theorem dL_law_369 : decode cL_law 369 = .ok (.aload_n 2, 1) := by decide +kernel
theorem dL_law_370 : decode cL_law 370 = .ok (.aload_n 0, 1) := by decide +kernel
theorem dL_law_371 : decode cL_law 371 = .ok (.iload_n 3, 1) := by decide +kernel
theorem dL_law_372 : decode cL_law 372 = .ok (.iconst 1, 1) := by decide +kernel
theorem dL_law_373 : decode cL_law 373 = .ok (.iadd, 1) := by decide +kernel
theorem dL_law_374 : decode cL_law 374 = .ok (.iaload, 1) := by decide +kernel
theorem dL_law_375 : decode cL_law 375 = .ok (.invokevirtual 52, 3) := by decide +kernel
theorem dL_law_378 : decode cL_law 378 = .ok (.if_icmp .eq 296, 3) := by decide +kernel
theorem dL_law_381 : decode cL_law 381 = .ok (.iconst 0, 1) := by decide +kernel
theorem dL_law_382 : decode cL_law 382 = .ok (.ireturn, 1) := by decide +kernel
theorem dL_law_383 : decode cL_law 383 = .ok (.aload_n 1, 1) := by decide +kernel
theorem dL_law_384 : decode cL_law 384 = .ok (.aload_n 0, 1) := by decide +kernel
theorem dL_law_385 : decode cL_law 385 = .ok (.iload_n 3, 1) := by decide +kernel
theorem dL_law_386 : decode cL_law 386 = .ok (.iconst 1, 1) := by decide +kernel
theorem dL_law_387 : decode cL_law 387 = .ok (.iadd, 1) := by decide +kernel
theorem dL_law_388 : decode cL_law 388 = .ok (.iaload, 1) := by decide +kernel
theorem dL_law_389 : decode cL_law 389 = .ok (.invokevirtual 53, 3) := by decide +kernel
theorem dL_law_392 : decode cL_law 392 = .ok (.aload_n 2, 1) := by decide +kernel
theorem dL_law_393 : decode cL_law 393 = .ok (.aload_n 0, 1) := by decide +kernel
theorem dL_law_394 : decode cL_law 394 = .ok (.iload_n 3, 1) := by decide +kernel
theorem dL_law_395 : decode cL_law 395 = .ok (.iconst 1, 1) := by decide +kernel
theorem dL_law_396 : decode cL_law 396 = .ok (.iadd, 1) := by decide +kernel
theorem dL_law_397 : decode cL_law 397 = .ok (.iaload, 1) := by decide +kernel
theorem dL_law_398 : decode cL_law 398 = .ok (.invokevirtual 56, 3) := by decide +kernel
theorem dL_law_401 : decode cL_law 401 = .ok (.if_icmp .eq 273, 3) := by decide +kernel
theorem dL_law_404 : decode cL_law 404 = .ok (.iconst 0, 1) := by decide +kernel
theorem dL_law_405 : decode cL_law 405 = .ok (.ireturn, 1) := by decide +kernel
theorem dL_law_406 : decode cL_law 406 = .ok (.aload_n 1, 1) := by decide +kernel
theorem dL_law_407 : decode cL_law 407 = .ok (.aload_n 0, 1) := by decide +kernel
theorem dL_law_408 : decode cL_law 408 = .ok (.iload_n 3, 1) := by decide +kernel
theorem dL_law_409 : decode cL_law 409 = .ok (.iconst 1, 1) := by decide +kernel
theorem dL_law_410 : decode cL_law 410 = .ok (.iadd, 1) := by decide +kernel
theorem dL_law_411 : decode cL_law 411 = .ok (.iaload, 1) := by decide +kernel
theorem dL_law_412 : decode cL_law 412 = .ok (.aload_n 0, 1) := by decide +kernel
theorem dL_law_413 : decode cL_law 413 = .ok (.iload_n 3, 1) := by decide +kernel
theorem dL_law_414 : decode cL_law 414 = .ok (.iconst 2, 1) := by decide +kernel
theorem dL_law_415 : decode cL_law 415 = .ok (.iadd, 1) := by decide +kernel
theorem dL_law_416 : decode cL_law 416 = .ok (.iaload, 1) := by decide +kernel
theorem dL_law_417 : decode cL_law 417 = .ok (.aload_n 0, 1) := by decide +kernel
theorem dL_law_418 : decode cL_law 418 = .ok (.iload_n 3, 1) := by decide +kernel
theorem dL_law_419 : decode cL_law 419 = .ok (.iconst 3, 1) := by decide +kernel
theorem dL_law_420 : decode cL_law 420 = .ok (.iadd, 1) := by decide +kernel
theorem dL_law_421 : decode cL_law 421 = .ok (.iaload, 1) := by decide +kernel
theorem dL_law_422 : decode cL_law 422 = .ok (.invokevirtual 57, 3) := by decide +kernel
theorem dL_law_425 : decode cL_law 425 = .ok (.aload_n 2, 1) := by decide +kernel
theorem dL_law_426 : decode cL_law 426 = .ok (.aload_n 0, 1) := by decide +kernel
theorem dL_law_427 : decode cL_law 427 = .ok (.iload_n 3, 1) := by decide +kernel
theorem dL_law_428 : decode cL_law 428 = .ok (.iconst 1, 1) := by decide +kernel
theorem dL_law_429 : decode cL_law 429 = .ok (.iadd, 1) := by decide +kernel
theorem dL_law_430 : decode cL_law 430 = .ok (.iaload, 1) := by decide +kernel
theorem dL_law_431 : decode cL_law 431 = .ok (.aload_n 0, 1) := by decide +kernel
theorem dL_law_432 : decode cL_law 432 = .ok (.iload_n 3, 1) := by decide +kernel
theorem dL_law_433 : decode cL_law 433 = .ok (.iconst 2, 1) := by decide +kernel
theorem dL_law_434 : decode cL_law 434 = .ok (.iadd, 1) := by decide +kernel
theorem dL_law_435 : decode cL_law 435 = .ok (.iaload, 1) := by decide +kernel
theorem dL_law_436 : decode cL_law 436 = .ok (.aload_n 0, 1) := by decide +kernel
theorem dL_law_437 : decode cL_law 437 = .ok (.iload_n 3, 1) := by decide +kernel
theorem dL_law_438 : decode cL_law 438 = .ok (.iconst 3, 1) := by decide +kernel
theorem dL_law_439 : decode cL_law 439 = .ok (.iadd, 1) := by decide +kernel
theorem dL_law_440 : decode cL_law 440 = .ok (.iaload, 1) := by decide +kernel
theorem dL_law_441 : decode cL_law 441 = .ok (.invokevirtual 60, 3) := by decide +kernel
theorem dL_law_444 : decode cL_law 444 = .ok (.if_icmp .eq 230, 3) := by decide +kernel
theorem dL_law_447 : decode cL_law 447 = .ok (.iconst 0, 1) := by decide +kernel
theorem dL_law_448 : decode cL_law 448 = .ok (.ireturn, 1) := by decide +kernel
theorem dL_law_449 : decode cL_law 449 = .ok (.aload_n 1, 1) := by decide +kernel
theorem dL_law_450 : decode cL_law 450 = .ok (.aload_n 0, 1) := by decide +kernel
theorem dL_law_451 : decode cL_law 451 = .ok (.iload_n 3, 1) := by decide +kernel
theorem dL_law_452 : decode cL_law 452 = .ok (.iconst 1, 1) := by decide +kernel
theorem dL_law_453 : decode cL_law 453 = .ok (.iadd, 1) := by decide +kernel
theorem dL_law_454 : decode cL_law 454 = .ok (.iaload, 1) := by decide +kernel
theorem dL_law_455 : decode cL_law 455 = .ok (.aload_n 0, 1) := by decide +kernel
theorem dL_law_456 : decode cL_law 456 = .ok (.iload_n 3, 1) := by decide +kernel
theorem dL_law_457 : decode cL_law 457 = .ok (.iconst 2, 1) := by decide +kernel
theorem dL_law_458 : decode cL_law 458 = .ok (.iadd, 1) := by decide +kernel
theorem dL_law_459 : decode cL_law 459 = .ok (.iaload, 1) := by decide +kernel
theorem dL_law_460 : decode cL_law 460 = .ok (.invokevirtual 61, 3) := by decide +kernel
theorem dL_law_463 : decode cL_law 463 = .ok (.aload_n 2, 1) := by decide +kernel
theorem dL_law_464 : decode cL_law 464 = .ok (.aload_n 0, 1) := by decide +kernel
theorem dL_law_465 : decode cL_law 465 = .ok (.iload_n 3, 1) := by decide +kernel
theorem dL_law_466 : decode cL_law 466 = .ok (.iconst 1, 1) := by decide +kernel
theorem dL_law_467 : decode cL_law 467 = .ok (.iadd, 1) := by decide +kernel
theorem dL_law_468 : decode cL_law 468 = .ok (.iaload, 1) := by decide +kernel
theorem dL_law_469 : decode cL_law 469 = .ok (.aload_n 0, 1) := by decide +kernel
theorem dL_law_470 : decode cL_law 470 = .ok (.iload_n 3, 1) := by decide +kernel
theorem dL_law_471 : decode cL_law 471 = .ok (.iconst 2, 1) := by decide +kernel
theorem dL_law_472 : decode cL_law 472 = .ok (.iadd, 1) := by decide +kernel
theorem dL_law_473 : decode cL_law 473 = .ok (.iaload, 1) := by decide +kernel
theorem dL_law_474 : decode cL_law 474 = .ok (.invokevirtual 64, 3) := by decide +kernel
theorem dL_law_477 : decode cL_law 477 = .ok (.if_icmp .eq 197, 3) := by decide +kernel
theorem dL_law_480 : decode cL_law 480 = .ok (.iconst 0, 1) := by decide +kernel
theorem dL_law_481 : decode cL_law 481 = .ok (.ireturn, 1) := by decide +kernel
theorem dL_law_482 : decode cL_law 482 = .ok (.aload_n 1, 1) := by decide +kernel
theorem dL_law_483 : decode cL_law 483 = .ok (.aload_n 0, 1) := by decide +kernel
theorem dL_law_484 : decode cL_law 484 = .ok (.iload_n 3, 1) := by decide +kernel
theorem dL_law_485 : decode cL_law 485 = .ok (.iconst 1, 1) := by decide +kernel
theorem dL_law_486 : decode cL_law 486 = .ok (.iadd, 1) := by decide +kernel
theorem dL_law_487 : decode cL_law 487 = .ok (.iaload, 1) := by decide +kernel
theorem dL_law_488 : decode cL_law 488 = .ok (.aload_n 0, 1) := by decide +kernel
theorem dL_law_489 : decode cL_law 489 = .ok (.iload_n 3, 1) := by decide +kernel
theorem dL_law_490 : decode cL_law 490 = .ok (.iconst 2, 1) := by decide +kernel
theorem dL_law_491 : decode cL_law 491 = .ok (.iadd, 1) := by decide +kernel
theorem dL_law_492 : decode cL_law 492 = .ok (.iaload, 1) := by decide +kernel
theorem dL_law_493 : decode cL_law 493 = .ok (.invokevirtual 65, 3) := by decide +kernel
theorem dL_law_496 : decode cL_law 496 = .ok (.aload_n 2, 1) := by decide +kernel
theorem dL_law_497 : decode cL_law 497 = .ok (.aload_n 0, 1) := by decide +kernel
theorem dL_law_498 : decode cL_law 498 = .ok (.iload_n 3, 1) := by decide +kernel
theorem dL_law_499 : decode cL_law 499 = .ok (.iconst 1, 1) := by decide +kernel
theorem dL_law_500 : decode cL_law 500 = .ok (.iadd, 1) := by decide +kernel
theorem dL_law_501 : decode cL_law 501 = .ok (.iaload, 1) := by decide +kernel
theorem dL_law_502 : decode cL_law 502 = .ok (.aload_n 0, 1) := by decide +kernel
theorem dL_law_503 : decode cL_law 503 = .ok (.iload_n 3, 1) := by decide +kernel
theorem dL_law_504 : decode cL_law 504 = .ok (.iconst 2, 1) := by decide +kernel
theorem dL_law_505 : decode cL_law 505 = .ok (.iadd, 1) := by decide +kernel
theorem dL_law_506 : decode cL_law 506 = .ok (.iaload, 1) := by decide +kernel
theorem dL_law_507 : decode cL_law 507 = .ok (.invokevirtual 68, 3) := by decide +kernel
theorem dL_law_510 : decode cL_law 510 = .ok (.if_icmp .eq 164, 3) := by decide +kernel
theorem dL_law_513 : decode cL_law 513 = .ok (.iconst 0, 1) := by decide +kernel
theorem dL_law_514 : decode cL_law 514 = .ok (.ireturn, 1) := by decide +kernel
theorem dL_law_515 : decode cL_law 515 = .ok (.aload_n 1, 1) := by decide +kernel
theorem dL_law_516 : decode cL_law 516 = .ok (.aload_n 0, 1) := by decide +kernel
theorem dL_law_517 : decode cL_law 517 = .ok (.iload_n 3, 1) := by decide +kernel
theorem dL_law_518 : decode cL_law 518 = .ok (.iconst 1, 1) := by decide +kernel
theorem dL_law_519 : decode cL_law 519 = .ok (.iadd, 1) := by decide +kernel
theorem dL_law_520 : decode cL_law 520 = .ok (.iaload, 1) := by decide +kernel
theorem dL_law_521 : decode cL_law 521 = .ok (.invokevirtual 69, 3) := by decide +kernel
theorem dL_law_524 : decode cL_law 524 = .ok (.aload_n 2, 1) := by decide +kernel
theorem dL_law_525 : decode cL_law 525 = .ok (.aload_n 0, 1) := by decide +kernel
theorem dL_law_526 : decode cL_law 526 = .ok (.iload_n 3, 1) := by decide +kernel
theorem dL_law_527 : decode cL_law 527 = .ok (.iconst 1, 1) := by decide +kernel
theorem dL_law_528 : decode cL_law 528 = .ok (.iadd, 1) := by decide +kernel
theorem dL_law_529 : decode cL_law 529 = .ok (.iaload, 1) := by decide +kernel
theorem dL_law_530 : decode cL_law 530 = .ok (.invokevirtual 72, 3) := by decide +kernel
theorem dL_law_533 : decode cL_law 533 = .ok (.if_icmp .eq 141, 3) := by decide +kernel
theorem dL_law_536 : decode cL_law 536 = .ok (.iconst 0, 1) := by decide +kernel
theorem dL_law_537 : decode cL_law 537 = .ok (.ireturn, 1) := by decide +kernel
theorem dL_law_538 : decode cL_law 538 = .ok (.aload_n 1, 1) := by decide +kernel
theorem dL_law_539 : decode cL_law 539 = .ok (.invokevirtual 73, 3) := by decide +kernel
theorem dL_law_542 : decode cL_law 542 = .ok (.aload_n 2, 1) := by decide +kernel
theorem dL_law_543 : decode cL_law 543 = .ok (.invokevirtual 77, 3) := by decide +kernel
theorem dL_law_546 : decode cL_law 546 = .ok (.lcmp, 1) := by decide +kernel
theorem dL_law_547 : decode cL_law 547 = .ok (.ifCond .eq 127, 3) := by decide +kernel
theorem dL_law_550 : decode cL_law 550 = .ok (.iconst 0, 1) := by decide +kernel
theorem dL_law_551 : decode cL_law 551 = .ok (.ireturn, 1) := by decide +kernel
theorem dL_law_552 : decode cL_law 552 = .ok (.aload_n 1, 1) := by decide +kernel
theorem dL_law_553 : decode cL_law 553 = .ok (.aload_n 0, 1) := by decide +kernel
theorem dL_law_554 : decode cL_law 554 = .ok (.iload_n 3, 1) := by decide +kernel
theorem dL_law_555 : decode cL_law 555 = .ok (.iconst 1, 1) := by decide +kernel
theorem dL_law_556 : decode cL_law 556 = .ok (.iadd, 1) := by decide +kernel
theorem dL_law_557 : decode cL_law 557 = .ok (.iaload, 1) := by decide +kernel
theorem dL_law_558 : decode cL_law 558 = .ok (.invokevirtual 78, 3) := by decide +kernel
theorem dL_law_561 : decode cL_law 561 = .ok (.aload_n 2, 1) := by decide +kernel
theorem dL_law_562 : decode cL_law 562 = .ok (.aload_n 0, 1) := by decide +kernel
theorem dL_law_563 : decode cL_law 563 = .ok (.iload_n 3, 1) := by decide +kernel
theorem dL_law_564 : decode cL_law 564 = .ok (.iconst 1, 1) := by decide +kernel
theorem dL_law_565 : decode cL_law 565 = .ok (.iadd, 1) := by decide +kernel
theorem dL_law_566 : decode cL_law 566 = .ok (.iaload, 1) := by decide +kernel
theorem dL_law_567 : decode cL_law 567 = .ok (.invokevirtual 81, 3) := by decide +kernel
theorem dL_law_570 : decode cL_law 570 = .ok (.if_icmp .eq 104, 3) := by decide +kernel
theorem dL_law_573 : decode cL_law 573 = .ok (.iconst 0, 1) := by decide +kernel
theorem dL_law_574 : decode cL_law 574 = .ok (.ireturn, 1) := by decide +kernel
theorem dL_law_575 : decode cL_law 575 = .ok (.aload_n 1, 1) := by decide +kernel
theorem dL_law_576 : decode cL_law 576 = .ok (.aload_n 0, 1) := by decide +kernel
theorem dL_law_577 : decode cL_law 577 = .ok (.iload_n 3, 1) := by decide +kernel
theorem dL_law_578 : decode cL_law 578 = .ok (.iconst 1, 1) := by decide +kernel
theorem dL_law_579 : decode cL_law 579 = .ok (.iadd, 1) := by decide +kernel
theorem dL_law_580 : decode cL_law 580 = .ok (.iaload, 1) := by decide +kernel
theorem dL_law_581 : decode cL_law 581 = .ok (.invokevirtual 82, 3) := by decide +kernel
theorem dL_law_584 : decode cL_law 584 = .ok (.aload_n 2, 1) := by decide +kernel
theorem dL_law_585 : decode cL_law 585 = .ok (.aload_n 0, 1) := by decide +kernel
theorem dL_law_586 : decode cL_law 586 = .ok (.iload_n 3, 1) := by decide +kernel
theorem dL_law_587 : decode cL_law 587 = .ok (.iconst 1, 1) := by decide +kernel
theorem dL_law_588 : decode cL_law 588 = .ok (.iadd, 1) := by decide +kernel
theorem dL_law_589 : decode cL_law 589 = .ok (.iaload, 1) := by decide +kernel
theorem dL_law_590 : decode cL_law 590 = .ok (.invokevirtual 85, 3) := by decide +kernel
theorem dL_law_593 : decode cL_law 593 = .ok (.if_icmp .eq 81, 3) := by decide +kernel
theorem dL_law_596 : decode cL_law 596 = .ok (.iconst 0, 1) := by decide +kernel
theorem dL_law_597 : decode cL_law 597 = .ok (.ireturn, 1) := by decide +kernel
theorem dL_law_598 : decode cL_law 598 = .ok (.aload_n 1, 1) := by decide +kernel
theorem dL_law_599 : decode cL_law 599 = .ok (.invokevirtual 86, 3) := by decide +kernel
theorem dL_law_602 : decode cL_law 602 = .ok (.aload_n 2, 1) := by decide +kernel
theorem dL_law_603 : decode cL_law 603 = .ok (.invokevirtual 89, 3) := by decide +kernel
theorem dL_law_606 : decode cL_law 606 = .ok (.if_icmp .eq 68, 3) := by decide +kernel
theorem dL_law_609 : decode cL_law 609 = .ok (.iconst 0, 1) := by decide +kernel
theorem dL_law_610 : decode cL_law 610 = .ok (.ireturn, 1) := by decide +kernel
theorem dL_law_611 : decode cL_law 611 = .ok (.aload_n 1, 1) := by decide +kernel
theorem dL_law_612 : decode cL_law 612 = .ok (.invokevirtual 90, 3) := by decide +kernel
theorem dL_law_615 : decode cL_law 615 = .ok (.aload_n 2, 1) := by decide +kernel
theorem dL_law_616 : decode cL_law 616 = .ok (.invokevirtual 93, 3) := by decide +kernel
theorem dL_law_619 : decode cL_law 619 = .ok (.if_icmp .eq 55, 3) := by decide +kernel
theorem dL_law_622 : decode cL_law 622 = .ok (.iconst 0, 1) := by decide +kernel
theorem dL_law_623 : decode cL_law 623 = .ok (.ireturn, 1) := by decide +kernel
theorem dL_law_624 : decode cL_law 624 = .ok (.aload_n 1, 1) := by decide +kernel
theorem dL_law_625 : decode cL_law 625 = .ok (.invokevirtual 94, 3) := by decide +kernel
theorem dL_law_628 : decode cL_law 628 = .ok (.aload_n 2, 1) := by decide +kernel
theorem dL_law_629 : decode cL_law 629 = .ok (.invokevirtual 97, 3) := by decide +kernel
theorem dL_law_632 : decode cL_law 632 = .ok (.if_icmp .eq 42, 3) := by decide +kernel
theorem dL_law_635 : decode cL_law 635 = .ok (.iconst 0, 1) := by decide +kernel
theorem dL_law_636 : decode cL_law 636 = .ok (.ireturn, 1) := by decide +kernel
theorem dL_law_637 : decode cL_law 637 = .ok (.aload_n 1, 1) := by decide +kernel
theorem dL_law_638 : decode cL_law 638 = .ok (.aload_n 0, 1) := by decide +kernel
theorem dL_law_639 : decode cL_law 639 = .ok (.iload_n 3, 1) := by decide +kernel
theorem dL_law_640 : decode cL_law 640 = .ok (.iconst 1, 1) := by decide +kernel
theorem dL_law_641 : decode cL_law 641 = .ok (.iadd, 1) := by decide +kernel
theorem dL_law_642 : decode cL_law 642 = .ok (.iaload, 1) := by decide +kernel
theorem dL_law_643 : decode cL_law 643 = .ok (.invokevirtual 98, 3) := by decide +kernel
theorem dL_law_646 : decode cL_law 646 = .ok (.aload_n 2, 1) := by decide +kernel
theorem dL_law_647 : decode cL_law 647 = .ok (.aload_n 0, 1) := by decide +kernel
theorem dL_law_648 : decode cL_law 648 = .ok (.iload_n 3, 1) := by decide +kernel
theorem dL_law_649 : decode cL_law 649 = .ok (.iconst 1, 1) := by decide +kernel
theorem dL_law_650 : decode cL_law 650 = .ok (.iadd, 1) := by decide +kernel
theorem dL_law_651 : decode cL_law 651 = .ok (.iaload, 1) := by decide +kernel
theorem dL_law_652 : decode cL_law 652 = .ok (.invokevirtual 101, 3) := by decide +kernel
theorem dL_law_655 : decode cL_law 655 = .ok (.if_icmp .eq 19, 3) := by decide +kernel
theorem dL_law_658 : decode cL_law 658 = .ok (.iconst 0, 1) := by decide +kernel
theorem dL_law_659 : decode cL_law 659 = .ok (.ireturn, 1) := by decide +kernel
theorem dL_law_660 : decode cL_law 660 = .ok (.aload_n 1, 1) := by decide +kernel
theorem dL_law_661 : decode cL_law 661 = .ok (.invokevirtual 102, 3) := by decide +kernel
theorem dL_law_664 : decode cL_law 664 = .ok (.aload_n 2, 1) := by decide +kernel
theorem dL_law_665 : decode cL_law 665 = .ok (.invokevirtual 105, 3) := by decide +kernel
theorem dL_law_668 : decode cL_law 668 = .ok (.lcmp, 1) := by decide +kernel
theorem dL_law_669 : decode cL_law 669 = .ok (.ifCond .eq 5, 3) := by decide +kernel
theorem dL_law_672 : decode cL_law 672 = .ok (.iconst 0, 1) := by decide +kernel
theorem dL_law_673 : decode cL_law 673 = .ok (.ireturn, 1) := by decide +kernel
theorem dL_law_674 : decode cL_law 674 = .ok (.iinc 3 4, 3) := by decide +kernel
theorem dL_law_677 : decode cL_law 677 = .ok (.goto (-659), 3) := by decide +kernel
theorem dL_law_680 : decode cL_law 680 = .ok (.iconst 1, 1) := by decide +kernel
theorem dL_law_681 : decode cL_law 681 = .ok (.ireturn, 1) := by decide +kernel

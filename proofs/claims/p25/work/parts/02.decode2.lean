theorem dX4_item_64 : decode cX4_item 64 = .ok (.goto 9, 3) := by decide +kernel
theorem dX4_item_67 : decode cX4_item 67 = .ok (.aload 4, 2) := by decide +kernel
theorem dX4_item_69 : decode cX4_item 69 = .ok (.iload_n 2, 1) := by decide +kernel
theorem dX4_item_70 : decode cX4_item 70 = .ok (.invokevirtual 134, 3) := by decide +kernel
theorem dX4_item_73 : decode cX4_item 73 = .ok (.ireturn, 1) := by decide +kernel
theorem dX4_place_0 : decode cX4_place 0 = .ok (.iload_n 1, 1) := by decide +kernel
theorem dX4_place_1 : decode cX4_place 1 = .ok (.ifCond .lt 17, 3) := by decide +kernel
theorem dX4_place_4 : decode cX4_place 4 = .ok (.iload_n 1, 1) := by decide +kernel
theorem dX4_place_5 : decode cX4_place 5 = .ok (.iconst 4, 1) := by decide +kernel
theorem dX4_place_6 : decode cX4_place 6 = .ok (.if_icmp .ge 12, 3) := by decide +kernel
theorem dX4_place_9 : decode cX4_place 9 = .ok (.iload_n 2, 1) := by decide +kernel
theorem dX4_place_10 : decode cX4_place 10 = .ok (.ifCond .lt 8, 3) := by decide +kernel
theorem dX4_place_13 : decode cX4_place 13 = .ok (.iload_n 2, 1) := by decide +kernel
theorem dX4_place_14 : decode cX4_place 14 = .ok (.iconst 3, 1) := by decide +kernel
theorem dX4_place_15 : decode cX4_place 15 = .ok (.if_icmp .lt 10, 3) := by decide +kernel
theorem dX4_place_18 : decode cX4_place 18 = .ok (.aload_n 0, 1) := by decide +kernel
theorem dX4_place_19 : decode cX4_place 19 = .ok (.bipush (-2), 2) := by decide +kernel
theorem dX4_place_21 : decode cX4_place 21 = .ok (.invokevirtual 47, 3) := by decide +kernel
theorem dX4_place_24 : decode cX4_place 24 = .ok (.ireturn, 1) := by decide +kernel
theorem dX4_place_25 : decode cX4_place 25 = .ok (.aload_n 0, 1) := by decide +kernel
theorem dX4_place_26 : decode cX4_place 26 = .ok (.getfield 10, 3) := by decide +kernel
theorem dX4_place_29 : decode cX4_place 29 = .ok (.iload_n 1, 1) := by decide +kernel
theorem dX4_place_30 : decode cX4_place 30 = .ok (.iload_n 2, 1) := by decide +kernel
theorem dX4_place_31 : decode cX4_place 31 = .ok (.invokevirtual 137, 3) := by decide +kernel
theorem dX4_place_34 : decode cX4_place 34 = .ok (.ireturn, 1) := by decide +kernel
theorem dX4_fetch_0 : decode cX4_fetch 0 = .ok (.iload_n 1, 1) := by decide +kernel
theorem dX4_fetch_1 : decode cX4_fetch 1 = .ok (.ifCond .lt 12, 3) := by decide +kernel
theorem dX4_fetch_4 : decode cX4_fetch 4 = .ok (.iload_n 2, 1) := by decide +kernel
theorem dX4_fetch_5 : decode cX4_fetch 5 = .ok (.ifCond .lt 8, 3) := by decide +kernel
theorem dX4_fetch_8 : decode cX4_fetch 8 = .ok (.iload_n 2, 1) := by decide +kernel
theorem dX4_fetch_9 : decode cX4_fetch 9 = .ok (.iconst 2, 1) := by decide +kernel
theorem dX4_fetch_10 : decode cX4_fetch 10 = .ok (.if_icmp .le 10, 3) := by decide +kernel
theorem dX4_fetch_13 : decode cX4_fetch 13 = .ok (.aload_n 0, 1) := by decide +kernel
theorem dX4_fetch_14 : decode cX4_fetch 14 = .ok (.bipush (-2), 2) := by decide +kernel
theorem dX4_fetch_16 : decode cX4_fetch 16 = .ok (.invokevirtual 47, 3) := by decide +kernel
theorem dX4_fetch_19 : decode cX4_fetch 19 = .ok (.ireturn, 1) := by decide +kernel
theorem dX4_fetch_20 : decode cX4_fetch 20 = .ok (.aload_n 0, 1) := by decide +kernel
theorem dX4_fetch_21 : decode cX4_fetch 21 = .ok (.getfield 10, 3) := by decide +kernel
theorem dX4_fetch_24 : decode cX4_fetch 24 = .ok (.iload_n 1, 1) := by decide +kernel
theorem dX4_fetch_25 : decode cX4_fetch 25 = .ok (.invokevirtual 141, 3) := by decide +kernel
theorem dX4_fetch_28 : decode cX4_fetch 28 = .ok (.astore_n 3, 1) := by decide +kernel
theorem dX4_fetch_29 : decode cX4_fetch 29 = .ok (.aload_n 3, 1) := by decide +kernel
theorem dX4_fetch_30 : decode cX4_fetch 30 = .ok (.ifnonnull 5, 3) := by decide +kernel
theorem dX4_fetch_33 : decode cX4_fetch 33 = .ok (.iconst (-1), 1) := by decide +kernel
theorem dX4_fetch_34 : decode cX4_fetch 34 = .ok (.ireturn, 1) := by decide +kernel
theorem dX4_fetch_35 : decode cX4_fetch 35 = .ok (.iload_n 2, 1) := by decide +kernel
theorem dX4_fetch_36 : decode cX4_fetch 36 = .ok (.ifCond .ne 10, 3) := by decide +kernel
theorem dX4_fetch_39 : decode cX4_fetch 39 = .ok (.aload_n 3, 1) := by decide +kernel
theorem dX4_fetch_40 : decode cX4_fetch 40 = .ok (.getfield 145, 3) := by decide +kernel
theorem dX4_fetch_43 : decode cX4_fetch 43 = .ok (.goto 30, 3) := by decide +kernel
theorem dX4_fetch_46 : decode cX4_fetch 46 = .ok (.iload_n 2, 1) := by decide +kernel
theorem dX4_fetch_47 : decode cX4_fetch 47 = .ok (.iconst 1, 1) := by decide +kernel
theorem dX4_fetch_48 : decode cX4_fetch 48 = .ok (.if_icmp .ne 21, 3) := by decide +kernel
theorem dX4_fetch_51 : decode cX4_fetch 51 = .ok (.aload_n 3, 1) := by decide +kernel
theorem dX4_fetch_52 : decode cX4_fetch 52 = .ok (.getfield 148, 3) := by decide +kernel
theorem dX4_fetch_55 : decode cX4_fetch 55 = .ok (.aload_n 0, 1) := by decide +kernel
theorem dX4_fetch_56 : decode cX4_fetch 56 = .ok (.getfield 10, 3) := by decide +kernel
theorem dX4_fetch_59 : decode cX4_fetch 59 = .ok (.getfield 60, 3) := by decide +kernel
theorem dX4_fetch_62 : decode cX4_fetch 62 = .ok (.bipush 9, 2) := by decide +kernel
theorem dX4_fetch_64 : decode cX4_fetch 64 = .ok (.iaload, 1) := by decide +kernel
theorem dX4_fetch_65 : decode cX4_fetch 65 = .ok (.isub, 1) := by decide +kernel
theorem dX4_fetch_66 : decode cX4_fetch 66 = .ok (.goto 7, 3) := by decide +kernel
theorem dX4_fetch_69 : decode cX4_fetch 69 = .ok (.aload_n 3, 1) := by decide +kernel
theorem dX4_fetch_70 : decode cX4_fetch 70 = .ok (.getfield 151, 3) := by decide +kernel
theorem dX4_fetch_73 : decode cX4_fetch 73 = .ok (.ireturn, 1) := by decide +kernel
theorem dX4_cost_0 : decode cX4_cost 0 = .ok (.iload_n 1, 1) := by decide +kernel
theorem dX4_cost_1 : decode cX4_cost 1 = .ok (.ifCond .lt 8, 3) := by decide +kernel
theorem dX4_cost_4 : decode cX4_cost 4 = .ok (.iload_n 1, 1) := by decide +kernel
theorem dX4_cost_5 : decode cX4_cost 5 = .ok (.iconst 2, 1) := by decide +kernel
theorem dX4_cost_6 : decode cX4_cost 6 = .ok (.if_icmp .le 10, 3) := by decide +kernel
theorem dX4_cost_9 : decode cX4_cost 9 = .ok (.aload_n 0, 1) := by decide +kernel
theorem dX4_cost_10 : decode cX4_cost 10 = .ok (.bipush (-2), 2) := by decide +kernel
theorem dX4_cost_12 : decode cX4_cost 12 = .ok (.invokevirtual 47, 3) := by decide +kernel
theorem dX4_cost_15 : decode cX4_cost 15 = .ok (.ireturn, 1) := by decide +kernel
theorem dX4_cost_16 : decode cX4_cost 16 = .ok (.aload_n 0, 1) := by decide +kernel
theorem dX4_cost_17 : decode cX4_cost 17 = .ok (.getfield 10, 3) := by decide +kernel
theorem dX4_cost_20 : decode cX4_cost 20 = .ok (.getfield 105, 3) := by decide +kernel
theorem dX4_cost_23 : decode cX4_cost 23 = .ok (.astore_n 2, 1) := by decide +kernel
theorem dX4_cost_24 : decode cX4_cost 24 = .ok (.iload_n 1, 1) := by decide +kernel
theorem dX4_cost_25 : decode cX4_cost 25 = .ok (.ifCond .ne 13, 3) := by decide +kernel
theorem dX4_cost_28 : decode cX4_cost 28 = .ok (.aload_n 0, 1) := by decide +kernel
theorem dX4_cost_29 : decode cX4_cost 29 = .ok (.getfield 10, 3) := by decide +kernel
theorem dX4_cost_32 : decode cX4_cost 32 = .ok (.getfield 154, 3) := by decide +kernel
theorem dX4_cost_35 : decode cX4_cost 35 = .ok (.goto 20, 3) := by decide +kernel
theorem dX4_cost_38 : decode cX4_cost 38 = .ok (.iload_n 1, 1) := by decide +kernel
theorem dX4_cost_39 : decode cX4_cost 39 = .ok (.iconst 1, 1) := by decide +kernel
theorem dX4_cost_40 : decode cX4_cost 40 = .ok (.if_icmp .ne 10, 3) := by decide +kernel
theorem dX4_cost_43 : decode cX4_cost 43 = .ok (.aload_n 2, 1) := by decide +kernel
theorem dX4_cost_44 : decode cX4_cost 44 = .ok (.invokevirtual 158, 3) := by decide +kernel
theorem dX4_cost_47 : decode cX4_cost 47 = .ok (.goto 8, 3) := by decide +kernel
theorem dX4_cost_50 : decode cX4_cost 50 = .ok (.aload_n 2, 1) := by decide +kernel
theorem dX4_cost_51 : decode cX4_cost 51 = .ok (.getfield 162, 3) := by decide +kernel
theorem dX4_cost_54 : decode cX4_cost 54 = .ok (.i2f, 1) := by decide +kernel
theorem dX4_cost_55 : decode cX4_cost 55 = .ok (.invokestatic 165, 3) := by decide +kernel
theorem dX4_cost_58 : decode cX4_cost 58 = .ok (.ireturn, 1) := by decide +kernel
theorem dX4_even_0 : decode cX4_even 0 = .ok (.aload_n 0, 1) := by decide +kernel
theorem dX4_even_1 : decode cX4_even 1 = .ok (.getfield 10, 3) := by decide +kernel
theorem dX4_even_4 : decode cX4_even 4 = .ok (.getfield 105, 3) := by decide +kernel
theorem dX4_even_7 : decode cX4_even 7 = .ok (.invokevirtual 169, 3) := by decide +kernel
theorem dX4_even_10 : decode cX4_even 10 = .ok (.invokestatic 173, 3) := by decide +kernel
theorem dX4_even_13 : decode cX4_even 13 = .ok (.lreturn, 1) := by decide +kernel
theorem dX4_best_0 : decode cX4_best 0 = .ok (.iload_n 1, 1) := by decide +kernel
theorem dX4_best_1 : decode cX4_best 1 = .ok (.ifCond .lt 8, 3) := by decide +kernel
theorem dX4_best_4 : decode cX4_best 4 = .ok (.iload_n 1, 1) := by decide +kernel
theorem dX4_best_5 : decode cX4_best 5 = .ok (.iconst 1, 1) := by decide +kernel
theorem dX4_best_6 : decode cX4_best 6 = .ok (.if_icmp .le 10, 3) := by decide +kernel
theorem dX4_best_9 : decode cX4_best 9 = .ok (.aload_n 0, 1) := by decide +kernel
theorem dX4_best_10 : decode cX4_best 10 = .ok (.bipush (-2), 2) := by decide +kernel
theorem dX4_best_12 : decode cX4_best 12 = .ok (.invokevirtual 47, 3) := by decide +kernel
theorem dX4_best_15 : decode cX4_best 15 = .ok (.ireturn, 1) := by decide +kernel
theorem dX4_best_16 : decode cX4_best 16 = .ok (.aload_n 0, 1) := by decide +kernel
theorem dX4_best_17 : decode cX4_best 17 = .ok (.getfield 26, 3) := by decide +kernel
theorem dX4_best_20 : decode cX4_best 20 = .ok (.invokevirtual 177, 3) := by decide +kernel
theorem dX4_best_23 : decode cX4_best 23 = .ok (.istore_n 2, 1) := by decide +kernel
theorem dX4_best_24 : decode cX4_best 24 = .ok (.iload_n 2, 1) := by decide +kernel
theorem dX4_best_25 : decode cX4_best 25 = .ok (.iconst (-1), 1) := by decide +kernel
theorem dX4_best_26 : decode cX4_best 26 = .ok (.if_icmp .eq 8, 3) := by decide +kernel
theorem dX4_best_29 : decode cX4_best 29 = .ok (.bipush (-10), 2) := by decide +kernel
theorem dX4_best_31 : decode cX4_best 31 = .ok (.iload_n 2, 1) := by decide +kernel
theorem dX4_best_32 : decode cX4_best 32 = .ok (.isub, 1) := by decide +kernel
theorem dX4_best_33 : decode cX4_best 33 = .ok (.ireturn, 1) := by decide +kernel
theorem dX4_best_34 : decode cX4_best 34 = .ok (.iconst 0, 1) := by decide +kernel
theorem dX4_best_35 : decode cX4_best 35 = .ok (.istore_n 3, 1) := by decide +kernel
theorem dX4_best_36 : decode cX4_best 36 = .ok (.ldc 181, 2) := by decide +kernel
theorem dX4_best_38 : decode cX4_best 38 = .ok (.istore 4, 2) := by decide +kernel
theorem dX4_best_40 : decode cX4_best 40 = .ok (.iconst 1, 1) := by decide +kernel
theorem dX4_best_41 : decode cX4_best 41 = .ok (.istore 5, 2) := by decide +kernel
theorem dX4_best_43 : decode cX4_best 43 = .ok (.iload 5, 2) := by decide +kernel
theorem dX4_best_45 : decode cX4_best 45 = .ok (.iconst 4, 1) := by decide +kernel
theorem dX4_best_46 : decode cX4_best 46 = .ok (.if_icmp .gt 73, 3) := by decide +kernel
theorem dX4_best_49 : decode cX4_best 49 = .ok (.aload_n 0, 1) := by decide +kernel
theorem dX4_best_50 : decode cX4_best 50 = .ok (.getfield 16, 3) := by decide +kernel
theorem dX4_best_53 : decode cX4_best 53 = .ok (.aload_n 0, 1) := by decide +kernel
theorem dX4_best_54 : decode cX4_best 54 = .ok (.getfield 10, 3) := by decide +kernel
theorem dX4_best_57 : decode cX4_best 57 = .ok (.getfield 54, 3) := by decide +kernel
theorem dX4_best_60 : decode cX4_best 60 = .ok (.iload 5, 2) := by decide +kernel
theorem dX4_best_62 : decode cX4_best 62 = .ok (.invokevirtual 182, 3) := by decide +kernel
theorem dX4_best_65 : decode cX4_best 65 = .ok (.aload_n 0, 1) := by decide +kernel
theorem dX4_best_66 : decode cX4_best 66 = .ok (.getfield 16, 3) := by decide +kernel
theorem dX4_best_69 : decode cX4_best 69 = .ok (.aload_n 0, 1) := by decide +kernel
theorem dX4_best_70 : decode cX4_best 70 = .ok (.getfield 26, 3) := by decide +kernel
theorem dX4_best_73 : decode cX4_best 73 = .ok (.invokevirtual 186, 3) := by decide +kernel
theorem dX4_best_76 : decode cX4_best 76 = .ok (.aload_n 0, 1) := by decide +kernel
theorem dX4_best_77 : decode cX4_best 77 = .ok (.getfield 16, 3) := by decide +kernel
theorem dX4_best_80 : decode cX4_best 80 = .ok (.invokevirtual 190, 3) := by decide +kernel
theorem dX4_best_83 : decode cX4_best 83 = .ok (.aload_n 0, 1) := by decide +kernel
theorem dX4_best_84 : decode cX4_best 84 = .ok (.getfield 16, 3) := by decide +kernel
theorem dX4_best_87 : decode cX4_best 87 = .ok (.getfield 60, 3) := by decide +kernel
theorem dX4_best_90 : decode cX4_best 90 = .ok (.bipush 9, 2) := by decide +kernel
theorem dX4_best_92 : decode cX4_best 92 = .ok (.iaload, 1) := by decide +kernel
theorem dX4_best_93 : decode cX4_best 93 = .ok (.iload 4, 2) := by decide +kernel
theorem dX4_best_95 : decode cX4_best 95 = .ok (.if_icmp .ge 18, 3) := by decide +kernel
theorem dX4_best_98 : decode cX4_best 98 = .ok (.iload 5, 2) := by decide +kernel
theorem dX4_best_100 : decode cX4_best 100 = .ok (.istore_n 3, 1) := by decide +kernel
theorem dX4_best_101 : decode cX4_best 101 = .ok (.aload_n 0, 1) := by decide +kernel
theorem dX4_best_102 : decode cX4_best 102 = .ok (.getfield 16, 3) := by decide +kernel
theorem dX4_best_105 : decode cX4_best 105 = .ok (.getfield 60, 3) := by decide +kernel
theorem dX4_best_108 : decode cX4_best 108 = .ok (.bipush 9, 2) := by decide +kernel
theorem dX4_best_110 : decode cX4_best 110 = .ok (.iaload, 1) := by decide +kernel
theorem dX4_best_111 : decode cX4_best 111 = .ok (.istore 4, 2) := by decide +kernel
theorem dX4_best_113 : decode cX4_best 113 = .ok (.iinc 5 1, 3) := by decide +kernel
theorem dX4_best_116 : decode cX4_best 116 = .ok (.goto (-73), 3) := by decide +kernel
theorem dX4_best_119 : decode cX4_best 119 = .ok (.iload_n 1, 1) := by decide +kernel
theorem dX4_best_120 : decode cX4_best 120 = .ok (.ifCond .ne 7, 3) := by decide +kernel
theorem dX4_best_123 : decode cX4_best 123 = .ok (.iload_n 3, 1) := by decide +kernel
theorem dX4_best_124 : decode cX4_best 124 = .ok (.goto 5, 3) := by decide +kernel
theorem dX4_best_127 : decode cX4_best 127 = .ok (.iload 4, 2) := by decide +kernel
theorem dX4_best_129 : decode cX4_best 129 = .ok (.ireturn, 1) := by decide +kernel
theorem dX4_type_0 : decode cX4_type 0 = .ok (.iload_n 1, 1) := by decide +kernel
theorem dX4_type_1 : decode cX4_type 1 = .ok (.ifCond .lt 9, 3) := by decide +kernel
theorem dX4_type_4 : decode cX4_type 4 = .ok (.iload_n 1, 1) := by decide +kernel
theorem dX4_type_5 : decode cX4_type 5 = .ok (.bipush 127, 2) := by decide +kernel
theorem dX4_type_7 : decode cX4_type 7 = .ok (.if_icmp .le 10, 3) := by decide +kernel
theorem dX4_type_10 : decode cX4_type 10 = .ok (.aload_n 0, 1) := by decide +kernel
theorem dX4_type_11 : decode cX4_type 11 = .ok (.bipush (-2), 2) := by decide +kernel
theorem dX4_type_13 : decode cX4_type 13 = .ok (.invokevirtual 47, 3) := by decide +kernel
theorem dX4_type_16 : decode cX4_type 16 = .ok (.ireturn, 1) := by decide +kernel
theorem dX4_type_17 : decode cX4_type 17 = .ok (.aload_n 0, 1) := by decide +kernel
theorem dX4_type_18 : decode cX4_type 18 = .ok (.getfield 26, 3) := by decide +kernel
theorem dX4_type_21 : decode cX4_type 21 = .ok (.getfield 193, 3) := by decide +kernel
theorem dX4_type_24 : decode cX4_type 24 = .ok (.ifCond .lt 15, 3) := by decide +kernel
theorem dX4_type_27 : decode cX4_type 27 = .ok (.aload_n 0, 1) := by decide +kernel
theorem dX4_type_28 : decode cX4_type 28 = .ok (.getfield 26, 3) := by decide +kernel
theorem dX4_type_31 : decode cX4_type 31 = .ok (.getfield 193, 3) := by decide +kernel
theorem dX4_type_34 : decode cX4_type 34 = .ok (.bipush 120, 2) := by decide +kernel
theorem dX4_type_36 : decode cX4_type 36 = .ok (.if_icmp .lt 10, 3) := by decide +kernel
theorem dX4_type_39 : decode cX4_type 39 = .ok (.aload_n 0, 1) := by decide +kernel
theorem dX4_type_40 : decode cX4_type 40 = .ok (.bipush (-4), 2) := by decide +kernel
theorem dX4_type_42 : decode cX4_type 42 = .ok (.invokevirtual 47, 3) := by decide +kernel
theorem dX4_type_45 : decode cX4_type 45 = .ok (.ireturn, 1) := by decide +kernel
theorem dX4_type_46 : decode cX4_type 46 = .ok (.aload_n 0, 1) := by decide +kernel
theorem dX4_type_47 : decode cX4_type 47 = .ok (.getfield 26, 3) := by decide +kernel
theorem dX4_type_50 : decode cX4_type 50 = .ok (.getfield 196, 3) := by decide +kernel
theorem dX4_type_53 : decode cX4_type 53 = .ok (.aload_n 0, 1) := by decide +kernel
theorem dX4_type_54 : decode cX4_type 54 = .ok (.getfield 26, 3) := by decide +kernel
theorem dX4_type_57 : decode cX4_type 57 = .ok (.getfield 193, 3) := by decide +kernel
theorem dX4_type_60 : decode cX4_type 60 = .ok (.iload_n 1, 1) := by decide +kernel
theorem dX4_type_61 : decode cX4_type 61 = .ok (.iastore, 1) := by decide +kernel
theorem dX4_type_62 : decode cX4_type 62 = .ok (.aload_n 0, 1) := by decide +kernel
theorem dX4_type_63 : decode cX4_type 63 = .ok (.getfield 26, 3) := by decide +kernel
theorem dX4_type_66 : decode cX4_type 66 = .ok (.dup, 1) := by decide +kernel
theorem dX4_type_67 : decode cX4_type 67 = .ok (.getfield 193, 3) := by decide +kernel
theorem dX4_type_70 : decode cX4_type 70 = .ok (.iconst 1, 1) := by decide +kernel
theorem dX4_type_71 : decode cX4_type 71 = .ok (.iadd, 1) := by decide +kernel
theorem dX4_type_72 : decode cX4_type 72 = .ok (.putfield 193, 3) := by decide +kernel
theorem dX4_type_75 : decode cX4_type 75 = .ok (.aload_n 0, 1) := by decide +kernel
theorem dX4_type_76 : decode cX4_type 76 = .ok (.getfield 26, 3) := by decide +kernel
theorem dX4_type_79 : decode cX4_type 79 = .ok (.getfield 193, 3) := by decide +kernel
theorem dX4_type_82 : decode cX4_type 82 = .ok (.ireturn, 1) := by decide +kernel
theorem dX4_clear_0 : decode cX4_clear 0 = .ok (.aload_n 0, 1) := by decide +kernel
theorem dX4_clear_1 : decode cX4_clear 1 = .ok (.getfield 26, 3) := by decide +kernel
theorem dX4_clear_4 : decode cX4_clear 4 = .ok (.getfield 193, 3) := by decide +kernel
theorem dX4_clear_7 : decode cX4_clear 7 = .ok (.istore_n 1, 1) := by decide +kernel
theorem dX4_clear_8 : decode cX4_clear 8 = .ok (.aload_n 0, 1) := by decide +kernel
theorem dX4_clear_9 : decode cX4_clear 9 = .ok (.getfield 26, 3) := by decide +kernel
theorem dX4_clear_12 : decode cX4_clear 12 = .ok (.iconst 0, 1) := by decide +kernel
theorem dX4_clear_13 : decode cX4_clear 13 = .ok (.putfield 193, 3) := by decide +kernel
theorem dX4_clear_16 : decode cX4_clear 16 = .ok (.iload_n 1, 1) := by decide +kernel
theorem dX4_clear_17 : decode cX4_clear 17 = .ok (.ireturn, 1) := by decide +kernel
theorem dX4_runs_0 : decode cX4_runs 0 = .ok (.aload_n 0, 1) := by decide +kernel
theorem dX4_runs_1 : decode cX4_runs 1 = .ok (.getfield 26, 3) := by decide +kernel
theorem dX4_runs_4 : decode cX4_runs 4 = .ok (.invokevirtual 177, 3) := by decide +kernel
theorem dX4_runs_7 : decode cX4_runs 7 = .ok (.istore_n 1, 1) := by decide +kernel
theorem dX4_runs_8 : decode cX4_runs 8 = .ok (.iload_n 1, 1) := by decide +kernel
theorem dX4_runs_9 : decode cX4_runs 9 = .ok (.iconst (-1), 1) := by decide +kernel
theorem dX4_runs_10 : decode cX4_runs 10 = .ok (.if_icmp .eq 8, 3) := by decide +kernel
theorem dX4_runs_13 : decode cX4_runs 13 = .ok (.bipush (-10), 2) := by decide +kernel
theorem dX4_runs_15 : decode cX4_runs 15 = .ok (.iload_n 1, 1) := by decide +kernel
theorem dX4_runs_16 : decode cX4_runs 16 = .ok (.isub, 1) := by decide +kernel
theorem dX4_runs_17 : decode cX4_runs 17 = .ok (.ireturn, 1) := by decide +kernel
theorem dX4_runs_18 : decode cX4_runs 18 = .ok (.aload_n 0, 1) := by decide +kernel
theorem dX4_runs_19 : decode cX4_runs 19 = .ok (.invokevirtual 51, 3) := by decide +kernel
theorem dX4_runs_22 : decode cX4_runs 22 = .ok (.aload_n 0, 1) := by decide +kernel
theorem dX4_runs_23 : decode cX4_runs 23 = .ok (.getfield 10, 3) := by decide +kernel
theorem dX4_runs_26 : decode cX4_runs 26 = .ok (.getfield 60, 3) := by decide +kernel
theorem dX4_runs_29 : decode cX4_runs 29 = .ok (.bipush 9, 2) := by decide +kernel
theorem dX4_runs_31 : decode cX4_runs 31 = .ok (.iaload, 1) := by decide +kernel
theorem dX4_runs_32 : decode cX4_runs 32 = .ok (.istore_n 2, 1) := by decide +kernel
theorem dX4_runs_33 : decode cX4_runs 33 = .ok (.aload_n 0, 1) := by decide +kernel
theorem dX4_runs_34 : decode cX4_runs 34 = .ok (.getfield 10, 3) := by decide +kernel
theorem dX4_runs_37 : decode cX4_runs 37 = .ok (.aload_n 0, 1) := by decide +kernel
theorem dX4_runs_38 : decode cX4_runs 38 = .ok (.getfield 26, 3) := by decide +kernel
theorem dX4_runs_41 : decode cX4_runs 41 = .ok (.invokevirtual 186, 3) := by decide +kernel
theorem dX4_runs_44 : decode cX4_runs 44 = .ok (.aload_n 0, 1) := by decide +kernel
theorem dX4_runs_45 : decode cX4_runs 45 = .ok (.getfield 10, 3) := by decide +kernel
theorem dX4_runs_48 : decode cX4_runs 48 = .ok (.getfield 60, 3) := by decide +kernel
theorem dX4_runs_51 : decode cX4_runs 51 = .ok (.bipush 9, 2) := by decide +kernel
theorem dX4_runs_53 : decode cX4_runs 53 = .ok (.iaload, 1) := by decide +kernel
theorem dX4_runs_54 : decode cX4_runs 54 = .ok (.iload_n 2, 1) := by decide +kernel
theorem dX4_runs_55 : decode cX4_runs 55 = .ok (.isub, 1) := by decide +kernel
theorem dX4_runs_56 : decode cX4_runs 56 = .ok (.ireturn, 1) := by decide +kernel
theorem dX4_back_0 : decode cX4_back 0 = .ok (.aload_n 0, 1) := by decide +kernel
theorem dX4_back_1 : decode cX4_back 1 = .ok (.getfield 38, 3) := by decide +kernel
theorem dX4_back_4 : decode cX4_back 4 = .ok (.ifCond .le 19, 3) := by decide +kernel
theorem dX4_back_7 : decode cX4_back 7 = .ok (.aload_n 0, 1) := by decide +kernel
theorem dX4_back_8 : decode cX4_back 8 = .ok (.getfield 34, 3) := by decide +kernel
theorem dX4_back_11 : decode cX4_back 11 = .ok (.ifCond .lt 12, 3) := by decide +kernel
theorem dX4_back_14 : decode cX4_back 14 = .ok (.aload_n 0, 1) := by decide +kernel
theorem dX4_back_15 : decode cX4_back 15 = .ok (.getfield 34, 3) := by decide +kernel
theorem dX4_back_18 : decode cX4_back 18 = .ok (.bipush 6, 2) := by decide +kernel
theorem dX4_back_20 : decode cX4_back 20 = .ok (.if_icmp .lt 10, 3) := by decide +kernel
theorem dX4_back_23 : decode cX4_back 23 = .ok (.aload_n 0, 1) := by decide +kernel
theorem dX4_back_24 : decode cX4_back 24 = .ok (.bipush (-3), 2) := by decide +kernel
theorem dX4_back_26 : decode cX4_back 26 = .ok (.invokevirtual 47, 3) := by decide +kernel
theorem dX4_back_29 : decode cX4_back 29 = .ok (.ireturn, 1) := by decide +kernel
theorem dX4_back_30 : decode cX4_back 30 = .ok (.aload_n 0, 1) := by decide +kernel
theorem dX4_back_31 : decode cX4_back 31 = .ok (.getfield 10, 3) := by decide +kernel
theorem dX4_back_34 : decode cX4_back 34 = .ok (.aload_n 0, 1) := by decide +kernel
theorem dX4_back_35 : decode cX4_back 35 = .ok (.getfield 19, 3) := by decide +kernel
theorem dX4_back_38 : decode cX4_back 38 = .ok (.aload_n 0, 1) := by decide +kernel
theorem dX4_back_39 : decode cX4_back 39 = .ok (.getfield 34, 3) := by decide +kernel
theorem dX4_back_42 : decode cX4_back 42 = .ok (.aaload, 1) := by decide +kernel
theorem dX4_back_43 : decode cX4_back 43 = .ok (.invokevirtual 199, 3) := by decide +kernel
theorem dX4_back_46 : decode cX4_back 46 = .ok (.aload_n 0, 1) := by decide +kernel
theorem dX4_back_47 : decode cX4_back 47 = .ok (.aload_n 0, 1) := by decide +kernel
theorem dX4_back_48 : decode cX4_back 48 = .ok (.getfield 34, 3) := by decide +kernel
theorem dX4_back_51 : decode cX4_back 51 = .ok (.bipush 6, 2) := by decide +kernel
theorem dX4_back_53 : decode cX4_back 53 = .ok (.iadd, 1) := by decide +kernel
theorem dX4_back_54 : decode cX4_back 54 = .ok (.iconst 1, 1) := by decide +kernel
theorem dX4_back_55 : decode cX4_back 55 = .ok (.isub, 1) := by decide +kernel
theorem dX4_back_56 : decode cX4_back 56 = .ok (.bipush 6, 2) := by decide +kernel
theorem dX4_back_58 : decode cX4_back 58 = .ok (.irem, 1) := by decide +kernel
theorem dX4_back_59 : decode cX4_back 59 = .ok (.putfield 34, 3) := by decide +kernel
theorem dX4_back_62 : decode cX4_back 62 = .ok (.aload_n 0, 1) := by decide +kernel
theorem dX4_back_63 : decode cX4_back 63 = .ok (.dup, 1) := by decide +kernel
theorem dX4_back_64 : decode cX4_back 64 = .ok (.getfield 38, 3) := by decide +kernel
theorem dX4_back_67 : decode cX4_back 67 = .ok (.iconst 1, 1) := by decide +kernel
theorem dX4_back_68 : decode cX4_back 68 = .ok (.isub, 1) := by decide +kernel
theorem dX4_back_69 : decode cX4_back 69 = .ok (.putfield 38, 3) := by decide +kernel
theorem dX4_back_72 : decode cX4_back 72 = .ok (.aload_n 0, 1) := by decide +kernel
theorem dX4_back_73 : decode cX4_back 73 = .ok (.getfield 38, 3) := by decide +kernel
theorem dX4_back_76 : decode cX4_back 76 = .ok (.ireturn, 1) := by decide +kernel
theorem dX4_told_0 : decode cX4_told 0 = .ok (.iload_n 1, 1) := by decide +kernel
theorem dX4_told_1 : decode cX4_told 1 = .ok (.ifCond .lt 9, 3) := by decide +kernel
theorem dX4_told_4 : decode cX4_told 4 = .ok (.iload_n 1, 1) := by decide +kernel
theorem dX4_told_5 : decode cX4_told 5 = .ok (.bipush 9, 2) := by decide +kernel
theorem dX4_told_7 : decode cX4_told 7 = .ok (.if_icmp .le 10, 3) := by decide +kernel
theorem dX4_told_10 : decode cX4_told 10 = .ok (.aload_n 0, 1) := by decide +kernel
theorem dX4_told_11 : decode cX4_told 11 = .ok (.bipush (-2), 2) := by decide +kernel
theorem dX4_told_13 : decode cX4_told 13 = .ok (.invokevirtual 47, 3) := by decide +kernel
theorem dX4_told_16 : decode cX4_told 16 = .ok (.ireturn, 1) := by decide +kernel
theorem dX4_told_17 : decode cX4_told 17 = .ok (.iload_n 1, 1) := by decide +kernel
theorem dX4_told_18 : decode cX4_told 18 = .ok (.iconst 3, 1) := by decide +kernel
theorem dX4_told_19 : decode cX4_told 19 = .ok (.if_icmp .ge 10, 3) := by decide +kernel
theorem dX4_told_22 : decode cX4_told 22 = .ok (.aload_n 0, 1) := by decide +kernel
theorem dX4_told_23 : decode cX4_told 23 = .ok (.getfield 30, 3) := by decide +kernel
theorem dX4_told_26 : decode cX4_told 26 = .ok (.iload_n 1, 1) := by decide +kernel
theorem dX4_told_27 : decode cX4_told 27 = .ok (.iaload, 1) := by decide +kernel
theorem dX4_told_28 : decode cX4_told 28 = .ok (.ireturn, 1) := by decide +kernel
theorem dX4_told_29 : decode cX4_told 29 = .ok (.iload_n 1, 1) := by decide +kernel
theorem dX4_told_30 : decode cX4_told 30 = .ok (.iconst 3, 1) := by decide +kernel
theorem dX4_told_31 : decode cX4_told 31 = .ok (.if_icmp .ne 11, 3) := by decide +kernel
theorem dX4_told_34 : decode cX4_told 34 = .ok (.aload_n 0, 1) := by decide +kernel
theorem dX4_told_35 : decode cX4_told 35 = .ok (.getfield 26, 3) := by decide +kernel
theorem dX4_told_38 : decode cX4_told 38 = .ok (.getfield 193, 3) := by decide +kernel
theorem dX4_told_41 : decode cX4_told 41 = .ok (.ireturn, 1) := by decide +kernel
theorem dX4_told_42 : decode cX4_told 42 = .ok (.iload_n 1, 1) := by decide +kernel
theorem dX4_told_43 : decode cX4_told 43 = .ok (.bipush 9, 2) := by decide +kernel
theorem dX4_told_45 : decode cX4_told 45 = .ok (.if_icmp .ne 10, 3) := by decide +kernel
theorem dX4_told_48 : decode cX4_told 48 = .ok (.aload_n 0, 1) := by decide +kernel
theorem dX4_told_49 : decode cX4_told 49 = .ok (.getfield 38, 3) := by decide +kernel
theorem dX4_told_52 : decode cX4_told 52 = .ok (.goto 14, 3) := by decide +kernel
theorem dX4_told_55 : decode cX4_told 55 = .ok (.aload_n 0, 1) := by decide +kernel
theorem dX4_told_56 : decode cX4_told 56 = .ok (.getfield 10, 3) := by decide +kernel
theorem dX4_told_59 : decode cX4_told 59 = .ok (.getfield 54, 3) := by decide +kernel
theorem dX4_told_62 : decode cX4_told 62 = .ok (.iload_n 1, 1) := by decide +kernel
theorem dX4_told_63 : decode cX4_told 63 = .ok (.iconst 4, 1) := by decide +kernel
theorem dX4_told_64 : decode cX4_told 64 = .ok (.isub, 1) := by decide +kernel
theorem dX4_told_65 : decode cX4_told 65 = .ok (.iaload, 1) := by decide +kernel
theorem dX4_told_66 : decode cX4_told 66 = .ok (.ireturn, 1) := by decide +kernel
theorem dX4_isBox_0 : decode cX4_isBox 0 = .ok (.iload_n 0, 1) := by decide +kernel
theorem dX4_isBox_1 : decode cX4_isBox 1 = .ok (.ifCond .lt 13, 3) := by decide +kernel
theorem dX4_isBox_4 : decode cX4_isBox 4 = .ok (.iload_n 0, 1) := by decide +kernel
theorem dX4_isBox_5 : decode cX4_isBox 5 = .ok (.bipush 16, 2) := by decide +kernel
theorem dX4_isBox_7 : decode cX4_isBox 7 = .ok (.if_icmp .ge 7, 3) := by decide +kernel
theorem dX4_isBox_10 : decode cX4_isBox 10 = .ok (.iconst 1, 1) := by decide +kernel
theorem dX4_isBox_11 : decode cX4_isBox 11 = .ok (.goto 4, 3) := by decide +kernel
theorem dX4_isBox_14 : decode cX4_isBox 14 = .ok (.iconst 0, 1) := by decide +kernel
theorem dX4_isBox_15 : decode cX4_isBox 15 = .ok (.ireturn, 1) := by decide +kernel
theorem dX4_isItem_0 : decode cX4_isItem 0 = .ok (.iload_n 0, 1) := by decide +kernel
theorem dX4_isItem_1 : decode cX4_isItem 1 = .ok (.ifCond .lt 12, 3) := by decide +kernel
theorem dX4_isItem_4 : decode cX4_isItem 4 = .ok (.iload_n 0, 1) := by decide +kernel
theorem dX4_isItem_5 : decode cX4_isItem 5 = .ok (.iconst 4, 1) := by decide +kernel
theorem dX4_isItem_6 : decode cX4_isItem 6 = .ok (.if_icmp .ge 7, 3) := by decide +kernel
theorem dX4_isItem_9 : decode cX4_isItem 9 = .ok (.iconst 1, 1) := by decide +kernel
theorem dX4_isItem_10 : decode cX4_isItem 10 = .ok (.goto 4, 3) := by decide +kernel
theorem dX4_isItem_13 : decode cX4_isItem 13 = .ok (.iconst 0, 1) := by decide +kernel
theorem dX4_isItem_14 : decode cX4_isItem 14 = .ok (.ireturn, 1) := by decide +kernel
theorem dX4_refuse_0 : decode cX4_refuse 0 = .ok (.bipush (-2), 2) := by decide +kernel
theorem dX4_refuse_2 : decode cX4_refuse 2 = .ok (.iload_n 1, 1) := by decide +kernel
theorem dX4_refuse_3 : decode cX4_refuse 3 = .ok (.isub, 1) := by decide +kernel
theorem dX4_refuse_4 : decode cX4_refuse 4 = .ok (.istore_n 2, 1) := by decide +kernel
theorem dX4_refuse_5 : decode cX4_refuse 5 = .ok (.iload_n 2, 1) := by decide +kernel
theorem dX4_refuse_6 : decode cX4_refuse 6 = .ok (.ifCond .lt 22, 3) := by decide +kernel
theorem dX4_refuse_9 : decode cX4_refuse 9 = .ok (.iload_n 2, 1) := by decide +kernel
theorem dX4_refuse_10 : decode cX4_refuse 10 = .ok (.aload_n 0, 1) := by decide +kernel
theorem dX4_refuse_11 : decode cX4_refuse 11 = .ok (.getfield 30, 3) := by decide +kernel
theorem dX4_refuse_14 : decode cX4_refuse 14 = .ok (.arraylength, 1) := by decide +kernel
theorem dX4_refuse_15 : decode cX4_refuse 15 = .ok (.if_icmp .ge 13, 3) := by decide +kernel
theorem dX4_refuse_18 : decode cX4_refuse 18 = .ok (.aload_n 0, 1) := by decide +kernel
theorem dX4_refuse_19 : decode cX4_refuse 19 = .ok (.getfield 30, 3) := by decide +kernel
theorem dX4_refuse_22 : decode cX4_refuse 22 = .ok (.iload_n 2, 1) := by decide +kernel
theorem dX4_refuse_23 : decode cX4_refuse 23 = .ok (.dup2, 1) := by decide +kernel
theorem dX4_refuse_24 : decode cX4_refuse 24 = .ok (.iaload, 1) := by decide +kernel
theorem dX4_refuse_25 : decode cX4_refuse 25 = .ok (.iconst 1, 1) := by decide +kernel
theorem dX4_refuse_26 : decode cX4_refuse 26 = .ok (.iadd, 1) := by decide +kernel
theorem dX4_refuse_27 : decode cX4_refuse 27 = .ok (.iastore, 1) := by decide +kernel
theorem dX4_refuse_28 : decode cX4_refuse 28 = .ok (.iload_n 1, 1) := by decide +kernel
theorem dX4_refuse_29 : decode cX4_refuse 29 = .ok (.ireturn, 1) := by decide +kernel
theorem dX4_keep_0 : decode cX4_keep 0 = .ok (.aload_n 0, 1) := by decide +kernel
theorem dX4_keep_1 : decode cX4_keep 1 = .ok (.aload_n 0, 1) := by decide +kernel
theorem dX4_keep_2 : decode cX4_keep 2 = .ok (.getfield 34, 3) := by decide +kernel
theorem dX4_keep_5 : decode cX4_keep 5 = .ok (.iconst 1, 1) := by decide +kernel
theorem dX4_keep_6 : decode cX4_keep 6 = .ok (.iadd, 1) := by decide +kernel
theorem dX4_keep_7 : decode cX4_keep 7 = .ok (.bipush 6, 2) := by decide +kernel
theorem dX4_keep_9 : decode cX4_keep 9 = .ok (.irem, 1) := by decide +kernel
theorem dX4_keep_10 : decode cX4_keep 10 = .ok (.putfield 34, 3) := by decide +kernel
theorem dX4_keep_13 : decode cX4_keep 13 = .ok (.aload_n 0, 1) := by decide +kernel
theorem dX4_keep_14 : decode cX4_keep 14 = .ok (.getfield 34, 3) := by decide +kernel
theorem dX4_keep_17 : decode cX4_keep 17 = .ok (.ifCond .lt 19, 3) := by decide +kernel
theorem dX4_keep_20 : decode cX4_keep 20 = .ok (.aload_n 0, 1) := by decide +kernel
theorem dX4_keep_21 : decode cX4_keep 21 = .ok (.getfield 19, 3) := by decide +kernel
theorem dX4_keep_24 : decode cX4_keep 24 = .ok (.aload_n 0, 1) := by decide +kernel
theorem dX4_keep_25 : decode cX4_keep 25 = .ok (.getfield 34, 3) := by decide +kernel
theorem dX4_keep_28 : decode cX4_keep 28 = .ok (.aaload, 1) := by decide +kernel
theorem dX4_keep_29 : decode cX4_keep 29 = .ok (.aload_n 0, 1) := by decide +kernel
theorem dX4_keep_30 : decode cX4_keep 30 = .ok (.getfield 10, 3) := by decide +kernel
theorem dX4_keep_33 : decode cX4_keep 33 = .ok (.invokevirtual 199, 3) := by decide +kernel
theorem dX4_keep_36 : decode cX4_keep 36 = .ok (.aload_n 0, 1) := by decide +kernel
theorem dX4_keep_37 : decode cX4_keep 37 = .ok (.getfield 38, 3) := by decide +kernel
theorem dX4_keep_40 : decode cX4_keep 40 = .ok (.bipush 6, 2) := by decide +kernel
theorem dX4_keep_42 : decode cX4_keep 42 = .ok (.if_icmp .ge 13, 3) := by decide +kernel
theorem dX4_keep_45 : decode cX4_keep 45 = .ok (.aload_n 0, 1) := by decide +kernel
theorem dX4_keep_46 : decode cX4_keep 46 = .ok (.dup, 1) := by decide +kernel
theorem dX4_keep_47 : decode cX4_keep 47 = .ok (.getfield 38, 3) := by decide +kernel
theorem dX4_keep_50 : decode cX4_keep 50 = .ok (.iconst 1, 1) := by decide +kernel
theorem dX4_keep_51 : decode cX4_keep 51 = .ok (.iadd, 1) := by decide +kernel
theorem dX4_keep_52 : decode cX4_keep 52 = .ok (.putfield 38, 3) := by decide +kernel
theorem dX4_keep_55 : decode cX4_keep 55 = .ok (.return_, 1) := by decide +kernel
theorem dX4_floatBits_0 : decode cX4_floatBits 0 = .ok (.fload_n 0, 1) := by decide +kernel
theorem dX4_floatBits_1 : decode cX4_floatBits 1 = .ok (.fconst 0, 1) := by decide +kernel
theorem dX4_floatBits_2 : decode cX4_floatBits 2 = .ok (.fcmp .g, 1) := by decide +kernel
theorem dX4_floatBits_3 : decode cX4_floatBits 3 = .ok (.ifCond .ge 8, 3) := by decide +kernel
theorem dX4_floatBits_6 : decode cX4_floatBits 6 = .ok (.fload_n 0, 1) := by decide +kernel
theorem dX4_floatBits_7 : decode cX4_floatBits 7 = .ok (.fneg, 1) := by decide +kernel
theorem dX4_floatBits_8 : decode cX4_floatBits 8 = .ok (.goto 4, 3) := by decide +kernel
theorem dX4_floatBits_11 : decode cX4_floatBits 11 = .ok (.fload_n 0, 1) := by decide +kernel
theorem dX4_floatBits_12 : decode cX4_floatBits 12 = .ok (.fstore_n 1, 1) := by decide +kernel
theorem dX4_floatBits_13 : decode cX4_floatBits 13 = .ok (.bipush 127, 2) := by decide +kernel
theorem dX4_floatBits_15 : decode cX4_floatBits 15 = .ok (.istore_n 2, 1) := by decide +kernel
theorem dX4_floatBits_16 : decode cX4_floatBits 16 = .ok (.iconst 0, 1) := by decide +kernel
theorem dX4_floatBits_17 : decode cX4_floatBits 17 = .ok (.istore_n 3, 1) := by decide +kernel
theorem dX4_floatBits_18 : decode cX4_floatBits 18 = .ok (.iload_n 3, 1) := by decide +kernel
theorem dX4_floatBits_19 : decode cX4_floatBits 19 = .ok (.sipush 300, 3) := by decide +kernel
theorem dX4_floatBits_22 : decode cX4_floatBits 22 = .ok (.if_icmp .ge 23, 3) := by decide +kernel
theorem dX4_floatBits_25 : decode cX4_floatBits 25 = .ok (.fload_n 1, 1) := by decide +kernel
theorem dX4_floatBits_26 : decode cX4_floatBits 26 = .ok (.fconst 2, 1) := by decide +kernel
theorem dX4_floatBits_27 : decode cX4_floatBits 27 = .ok (.fcmp .l, 1) := by decide +kernel
theorem dX4_floatBits_28 : decode cX4_floatBits 28 = .ok (.ifCond .lt 17, 3) := by decide +kernel
theorem dX4_floatBits_31 : decode cX4_floatBits 31 = .ok (.fload_n 1, 1) := by decide +kernel
theorem dX4_floatBits_32 : decode cX4_floatBits 32 = .ok (.ldc 226, 2) := by decide +kernel
theorem dX4_floatBits_34 : decode cX4_floatBits 34 = .ok (.fmul, 1) := by decide +kernel
theorem dX4_floatBits_35 : decode cX4_floatBits 35 = .ok (.fstore_n 1, 1) := by decide +kernel
theorem dX4_floatBits_36 : decode cX4_floatBits 36 = .ok (.iinc 2 1, 3) := by decide +kernel
theorem dX4_floatBits_39 : decode cX4_floatBits 39 = .ok (.iinc 3 1, 3) := by decide +kernel
theorem dX4_floatBits_42 : decode cX4_floatBits 42 = .ok (.goto (-24), 3) := by decide +kernel
theorem dX4_floatBits_45 : decode cX4_floatBits 45 = .ok (.iconst 0, 1) := by decide +kernel
theorem dX4_floatBits_46 : decode cX4_floatBits 46 = .ok (.istore_n 3, 1) := by decide +kernel
theorem dX4_floatBits_47 : decode cX4_floatBits 47 = .ok (.iload_n 3, 1) := by decide +kernel
theorem dX4_floatBits_48 : decode cX4_floatBits 48 = .ok (.sipush 300, 3) := by decide +kernel
theorem dX4_floatBits_51 : decode cX4_floatBits 51 = .ok (.if_icmp .ge 33, 3) := by decide +kernel
theorem dX4_floatBits_54 : decode cX4_floatBits 54 = .ok (.fload_n 1, 1) := by decide +kernel
theorem dX4_floatBits_55 : decode cX4_floatBits 55 = .ok (.fconst 0, 1) := by decide +kernel
theorem dX4_floatBits_56 : decode cX4_floatBits 56 = .ok (.fcmp .l, 1) := by decide +kernel
theorem dX4_floatBits_57 : decode cX4_floatBits 57 = .ok (.ifCond .le 27, 3) := by decide +kernel
theorem dX4_floatBits_60 : decode cX4_floatBits 60 = .ok (.fload_n 1, 1) := by decide +kernel
theorem dX4_floatBits_61 : decode cX4_floatBits 61 = .ok (.fconst 1, 1) := by decide +kernel
theorem dX4_floatBits_62 : decode cX4_floatBits 62 = .ok (.fcmp .g, 1) := by decide +kernel
theorem dX4_floatBits_63 : decode cX4_floatBits 63 = .ok (.ifCond .ge 21, 3) := by decide +kernel
theorem dX4_floatBits_66 : decode cX4_floatBits 66 = .ok (.iload_n 2, 1) := by decide +kernel
theorem dX4_floatBits_67 : decode cX4_floatBits 67 = .ok (.iconst 1, 1) := by decide +kernel
theorem dX4_floatBits_68 : decode cX4_floatBits 68 = .ok (.if_icmp .le 16, 3) := by decide +kernel
theorem dX4_floatBits_71 : decode cX4_floatBits 71 = .ok (.fload_n 1, 1) := by decide +kernel
theorem dX4_floatBits_72 : decode cX4_floatBits 72 = .ok (.fconst 2, 1) := by decide +kernel
theorem dX4_floatBits_73 : decode cX4_floatBits 73 = .ok (.fmul, 1) := by decide +kernel
theorem dX4_floatBits_74 : decode cX4_floatBits 74 = .ok (.fstore_n 1, 1) := by decide +kernel
theorem dX4_floatBits_75 : decode cX4_floatBits 75 = .ok (.iinc 2 (-1), 3) := by decide +kernel
theorem dX4_floatBits_78 : decode cX4_floatBits 78 = .ok (.iinc 3 1, 3) := by decide +kernel
theorem dX4_floatBits_81 : decode cX4_floatBits 81 = .ok (.goto (-34), 3) := by decide +kernel
theorem dX4_floatBits_84 : decode cX4_floatBits 84 = .ok (.fload_n 1, 1) := by decide +kernel
theorem dX4_floatBits_85 : decode cX4_floatBits 85 = .ok (.fconst 1, 1) := by decide +kernel
theorem dX4_floatBits_86 : decode cX4_floatBits 86 = .ok (.fcmp .g, 1) := by decide +kernel
theorem dX4_floatBits_87 : decode cX4_floatBits 87 = .ok (.ifCond .ge 11, 3) := by decide +kernel
theorem dX4_floatBits_90 : decode cX4_floatBits 90 = .ok (.fload_n 1, 1) := by decide +kernel
theorem dX4_floatBits_91 : decode cX4_floatBits 91 = .ok (.ldc 227, 2) := by decide +kernel
theorem dX4_floatBits_93 : decode cX4_floatBits 93 = .ok (.fmul, 1) := by decide +kernel
theorem dX4_floatBits_94 : decode cX4_floatBits 94 = .ok (.f2i, 1) := by decide +kernel
theorem dX4_floatBits_95 : decode cX4_floatBits 95 = .ok (.goto 15, 3) := by decide +kernel
theorem dX4_floatBits_98 : decode cX4_floatBits 98 = .ok (.iload_n 2, 1) := by decide +kernel
theorem dX4_floatBits_99 : decode cX4_floatBits 99 = .ok (.bipush 23, 2) := by decide +kernel
theorem dX4_floatBits_101 : decode cX4_floatBits 101 = .ok (.ishl, 1) := by decide +kernel
theorem dX4_floatBits_102 : decode cX4_floatBits 102 = .ok (.fload_n 1, 1) := by decide +kernel
theorem dX4_floatBits_103 : decode cX4_floatBits 103 = .ok (.fconst 1, 1) := by decide +kernel
theorem dX4_floatBits_104 : decode cX4_floatBits 104 = .ok (.fsub, 1) := by decide +kernel
theorem dX4_floatBits_105 : decode cX4_floatBits 105 = .ok (.ldc 227, 2) := by decide +kernel
theorem dX4_floatBits_107 : decode cX4_floatBits 107 = .ok (.fmul, 1) := by decide +kernel
theorem dX4_floatBits_108 : decode cX4_floatBits 108 = .ok (.f2i, 1) := by decide +kernel
theorem dX4_floatBits_109 : decode cX4_floatBits 109 = .ok (.ior, 1) := by decide +kernel
theorem dX4_floatBits_110 : decode cX4_floatBits 110 = .ok (.istore_n 3, 1) := by decide +kernel
theorem dX4_floatBits_111 : decode cX4_floatBits 111 = .ok (.fload_n 0, 1) := by decide +kernel
theorem dX4_floatBits_112 : decode cX4_floatBits 112 = .ok (.fconst 0, 1) := by decide +kernel
theorem dX4_floatBits_113 : decode cX4_floatBits 113 = .ok (.fcmp .g, 1) := by decide +kernel
theorem dX4_floatBits_114 : decode cX4_floatBits 114 = .ok (.ifCond .ge 10, 3) := by decide +kernel
theorem dX4_floatBits_117 : decode cX4_floatBits 117 = .ok (.iload_n 3, 1) := by decide +kernel
theorem dX4_floatBits_118 : decode cX4_floatBits 118 = .ok (.ldc 228, 2) := by decide +kernel
theorem dX4_floatBits_120 : decode cX4_floatBits 120 = .ok (.ior, 1) := by decide +kernel
theorem dX4_floatBits_121 : decode cX4_floatBits 121 = .ok (.goto 4, 3) := by decide +kernel
theorem dX4_floatBits_124 : decode cX4_floatBits 124 = .ok (.iload_n 3, 1) := by decide +kernel
theorem dX4_floatBits_125 : decode cX4_floatBits 125 = .ok (.ireturn, 1) := by decide +kernel
theorem dX4_doubleBits_0 : decode cX4_doubleBits 0 = .ok (.dload_n 0, 1) := by decide +kernel
theorem dX4_doubleBits_1 : decode cX4_doubleBits 1 = .ok (.dconst 0, 1) := by decide +kernel
theorem dX4_doubleBits_2 : decode cX4_doubleBits 2 = .ok (.dcmp .g, 1) := by decide +kernel
theorem dX4_doubleBits_3 : decode cX4_doubleBits 3 = .ok (.ifCond .ge 8, 3) := by decide +kernel
theorem dX4_doubleBits_6 : decode cX4_doubleBits 6 = .ok (.dload_n 0, 1) := by decide +kernel
theorem dX4_doubleBits_7 : decode cX4_doubleBits 7 = .ok (.dneg, 1) := by decide +kernel
theorem dX4_doubleBits_8 : decode cX4_doubleBits 8 = .ok (.goto 4, 3) := by decide +kernel
theorem dX4_doubleBits_11 : decode cX4_doubleBits 11 = .ok (.dload_n 0, 1) := by decide +kernel
theorem dX4_doubleBits_12 : decode cX4_doubleBits 12 = .ok (.dstore_n 2, 1) := by decide +kernel
theorem dX4_doubleBits_13 : decode cX4_doubleBits 13 = .ok (.ldc2_w 229, 3) := by decide +kernel
theorem dX4_doubleBits_16 : decode cX4_doubleBits 16 = .ok (.lstore 4, 2) := by decide +kernel
theorem dX4_doubleBits_18 : decode cX4_doubleBits 18 = .ok (.iconst 0, 1) := by decide +kernel
theorem dX4_doubleBits_19 : decode cX4_doubleBits 19 = .ok (.istore 6, 2) := by decide +kernel
theorem dX4_doubleBits_21 : decode cX4_doubleBits 21 = .ok (.iload 6, 2) := by decide +kernel
theorem dX4_doubleBits_23 : decode cX4_doubleBits 23 = .ok (.sipush 1100, 3) := by decide +kernel
theorem dX4_doubleBits_26 : decode cX4_doubleBits 26 = .ok (.if_icmp .ge 29, 3) := by decide +kernel
theorem dX4_doubleBits_29 : decode cX4_doubleBits 29 = .ok (.dload_n 2, 1) := by decide +kernel
theorem dX4_doubleBits_30 : decode cX4_doubleBits 30 = .ok (.ldc2_w 231, 3) := by decide +kernel
theorem dX4_doubleBits_33 : decode cX4_doubleBits 33 = .ok (.dcmp .l, 1) := by decide +kernel
theorem dX4_doubleBits_34 : decode cX4_doubleBits 34 = .ok (.ifCond .lt 21, 3) := by decide +kernel
theorem dX4_doubleBits_37 : decode cX4_doubleBits 37 = .ok (.dload_n 2, 1) := by decide +kernel
theorem dX4_doubleBits_38 : decode cX4_doubleBits 38 = .ok (.ldc2_w 233, 3) := by decide +kernel
theorem dX4_doubleBits_41 : decode cX4_doubleBits 41 = .ok (.dmul, 1) := by decide +kernel
theorem dX4_doubleBits_42 : decode cX4_doubleBits 42 = .ok (.dstore_n 2, 1) := by decide +kernel
theorem dX4_doubleBits_43 : decode cX4_doubleBits 43 = .ok (.lload 4, 2) := by decide +kernel
theorem dX4_doubleBits_45 : decode cX4_doubleBits 45 = .ok (.lconst 1, 1) := by decide +kernel
theorem dX4_doubleBits_46 : decode cX4_doubleBits 46 = .ok (.ladd, 1) := by decide +kernel
theorem dX4_doubleBits_47 : decode cX4_doubleBits 47 = .ok (.lstore 4, 2) := by decide +kernel
theorem dX4_doubleBits_49 : decode cX4_doubleBits 49 = .ok (.iinc 6 1, 3) := by decide +kernel
theorem dX4_doubleBits_52 : decode cX4_doubleBits 52 = .ok (.goto (-31), 3) := by decide +kernel
theorem dX4_doubleBits_55 : decode cX4_doubleBits 55 = .ok (.iconst 0, 1) := by decide +kernel
theorem dX4_doubleBits_56 : decode cX4_doubleBits 56 = .ok (.istore 6, 2) := by decide +kernel
theorem dX4_doubleBits_58 : decode cX4_doubleBits 58 = .ok (.iload 6, 2) := by decide +kernel
theorem dX4_doubleBits_60 : decode cX4_doubleBits 60 = .ok (.sipush 1100, 3) := by decide +kernel
theorem dX4_doubleBits_63 : decode cX4_doubleBits 63 = .ok (.if_icmp .ge 40, 3) := by decide +kernel
theorem dX4_doubleBits_66 : decode cX4_doubleBits 66 = .ok (.dload_n 2, 1) := by decide +kernel
theorem dX4_doubleBits_67 : decode cX4_doubleBits 67 = .ok (.dconst 0, 1) := by decide +kernel
theorem dX4_doubleBits_68 : decode cX4_doubleBits 68 = .ok (.dcmp .l, 1) := by decide +kernel
theorem dX4_doubleBits_69 : decode cX4_doubleBits 69 = .ok (.ifCond .le 34, 3) := by decide +kernel
theorem dX4_doubleBits_72 : decode cX4_doubleBits 72 = .ok (.dload_n 2, 1) := by decide +kernel
theorem dX4_doubleBits_73 : decode cX4_doubleBits 73 = .ok (.dconst 1, 1) := by decide +kernel
theorem dX4_doubleBits_74 : decode cX4_doubleBits 74 = .ok (.dcmp .g, 1) := by decide +kernel
theorem dX4_doubleBits_75 : decode cX4_doubleBits 75 = .ok (.ifCond .ge 28, 3) := by decide +kernel
theorem dX4_doubleBits_78 : decode cX4_doubleBits 78 = .ok (.lload 4, 2) := by decide +kernel
theorem dX4_doubleBits_80 : decode cX4_doubleBits 80 = .ok (.lconst 1, 1) := by decide +kernel
theorem dX4_doubleBits_81 : decode cX4_doubleBits 81 = .ok (.lcmp, 1) := by decide +kernel
theorem dX4_doubleBits_82 : decode cX4_doubleBits 82 = .ok (.ifCond .le 21, 3) := by decide +kernel
theorem dX4_doubleBits_85 : decode cX4_doubleBits 85 = .ok (.dload_n 2, 1) := by decide +kernel
theorem dX4_doubleBits_86 : decode cX4_doubleBits 86 = .ok (.ldc2_w 231, 3) := by decide +kernel
theorem dX4_doubleBits_89 : decode cX4_doubleBits 89 = .ok (.dmul, 1) := by decide +kernel
theorem dX4_doubleBits_90 : decode cX4_doubleBits 90 = .ok (.dstore_n 2, 1) := by decide +kernel
theorem dX4_doubleBits_91 : decode cX4_doubleBits 91 = .ok (.lload 4, 2) := by decide +kernel
theorem dX4_doubleBits_93 : decode cX4_doubleBits 93 = .ok (.lconst 1, 1) := by decide +kernel
theorem dX4_doubleBits_94 : decode cX4_doubleBits 94 = .ok (.lsub, 1) := by decide +kernel
theorem dX4_doubleBits_95 : decode cX4_doubleBits 95 = .ok (.lstore 4, 2) := by decide +kernel
theorem dX4_doubleBits_97 : decode cX4_doubleBits 97 = .ok (.iinc 6 1, 3) := by decide +kernel
theorem dX4_doubleBits_100 : decode cX4_doubleBits 100 = .ok (.goto (-42), 3) := by decide +kernel
theorem dX4_doubleBits_103 : decode cX4_doubleBits 103 = .ok (.dload_n 2, 1) := by decide +kernel
theorem dX4_doubleBits_104 : decode cX4_doubleBits 104 = .ok (.dconst 1, 1) := by decide +kernel
theorem dX4_doubleBits_105 : decode cX4_doubleBits 105 = .ok (.dcmp .g, 1) := by decide +kernel
theorem dX4_doubleBits_106 : decode cX4_doubleBits 106 = .ok (.ifCond .ge 12, 3) := by decide +kernel
theorem dX4_doubleBits_109 : decode cX4_doubleBits 109 = .ok (.dload_n 2, 1) := by decide +kernel
theorem dX4_doubleBits_110 : decode cX4_doubleBits 110 = .ok (.ldc2_w 235, 3) := by decide +kernel
theorem dX4_doubleBits_113 : decode cX4_doubleBits 113 = .ok (.dmul, 1) := by decide +kernel
theorem dX4_doubleBits_114 : decode cX4_doubleBits 114 = .ok (.d2l, 1) := by decide +kernel
theorem dX4_doubleBits_115 : decode cX4_doubleBits 115 = .ok (.goto 17, 3) := by decide +kernel
theorem dX4_doubleBits_118 : decode cX4_doubleBits 118 = .ok (.lload 4, 2) := by decide +kernel
theorem dX4_doubleBits_120 : decode cX4_doubleBits 120 = .ok (.bipush 52, 2) := by decide +kernel
theorem dX4_doubleBits_122 : decode cX4_doubleBits 122 = .ok (.lshl, 1) := by decide +kernel
theorem dX4_doubleBits_123 : decode cX4_doubleBits 123 = .ok (.dload_n 2, 1) := by decide +kernel
theorem dX4_doubleBits_124 : decode cX4_doubleBits 124 = .ok (.dconst 1, 1) := by decide +kernel
theorem dX4_doubleBits_125 : decode cX4_doubleBits 125 = .ok (.dsub, 1) := by decide +kernel
theorem dX4_doubleBits_126 : decode cX4_doubleBits 126 = .ok (.ldc2_w 235, 3) := by decide +kernel
theorem dX4_doubleBits_129 : decode cX4_doubleBits 129 = .ok (.dmul, 1) := by decide +kernel
theorem dX4_doubleBits_130 : decode cX4_doubleBits 130 = .ok (.d2l, 1) := by decide +kernel
theorem dX4_doubleBits_131 : decode cX4_doubleBits 131 = .ok (.lor, 1) := by decide +kernel
theorem dX4_doubleBits_132 : decode cX4_doubleBits 132 = .ok (.lstore 6, 2) := by decide +kernel
theorem dX4_doubleBits_134 : decode cX4_doubleBits 134 = .ok (.dload_n 0, 1) := by decide +kernel
theorem dX4_doubleBits_135 : decode cX4_doubleBits 135 = .ok (.dconst 0, 1) := by decide +kernel
theorem dX4_doubleBits_136 : decode cX4_doubleBits 136 = .ok (.dcmp .g, 1) := by decide +kernel
theorem dX4_doubleBits_137 : decode cX4_doubleBits 137 = .ok (.ifCond .ge 12, 3) := by decide +kernel
theorem dX4_doubleBits_140 : decode cX4_doubleBits 140 = .ok (.lload 6, 2) := by decide +kernel
theorem dX4_doubleBits_142 : decode cX4_doubleBits 142 = .ok (.ldc2_w 237, 3) := by decide +kernel
theorem dX4_doubleBits_145 : decode cX4_doubleBits 145 = .ok (.lor, 1) := by decide +kernel
theorem dX4_doubleBits_146 : decode cX4_doubleBits 146 = .ok (.goto 5, 3) := by decide +kernel
theorem dX4_doubleBits_149 : decode cX4_doubleBits 149 = .ok (.lload 6, 2) := by decide +kernel
theorem dX4_doubleBits_151 : decode cX4_doubleBits 151 = .ok (.lreturn, 1) := by decide +kernel
theorem dJ9_max_7cf53_0 : decode cJ9_max_7cf53 0 = .ok (.iload_n 0, 1) := by decide +kernel
theorem dJ9_max_7cf53_1 : decode cJ9_max_7cf53 1 = .ok (.iload_n 1, 1) := by decide +kernel
theorem dJ9_max_7cf53_2 : decode cJ9_max_7cf53 2 = .ok (.if_icmp .lt 7, 3) := by decide +kernel
theorem dJ9_max_7cf53_5 : decode cJ9_max_7cf53 5 = .ok (.iload_n 0, 1) := by decide +kernel
theorem dJ9_max_7cf53_6 : decode cJ9_max_7cf53 6 = .ok (.goto 4, 3) := by decide +kernel
theorem dJ9_max_7cf53_9 : decode cJ9_max_7cf53 9 = .ok (.iload_n 1, 1) := by decide +kernel
theorem dJ9_max_7cf53_10 : decode cJ9_max_7cf53 10 = .ok (.ireturn, 1) := by decide +kernel
theorem dJ9_min_7cf53_0 : decode cJ9_min_7cf53 0 = .ok (.iload_n 0, 1) := by decide +kernel
theorem dJ9_min_7cf53_1 : decode cJ9_min_7cf53 1 = .ok (.iload_n 1, 1) := by decide +kernel
theorem dJ9_min_7cf53_2 : decode cJ9_min_7cf53 2 = .ok (.if_icmp .gt 7, 3) := by decide +kernel
theorem dJ9_min_7cf53_5 : decode cJ9_min_7cf53 5 = .ok (.iload_n 0, 1) := by decide +kernel
theorem dJ9_min_7cf53_6 : decode cJ9_min_7cf53 6 = .ok (.goto 4, 3) := by decide +kernel
theorem dJ9_min_7cf53_9 : decode cJ9_min_7cf53 9 = .ok (.iload_n 1, 1) := by decide +kernel
theorem dJ9_min_7cf53_10 : decode cJ9_min_7cf53 10 = .ok (.ireturn, 1) := by decide +kernel
theorem dL_low_0 : decode cL_low 0 = .ok (.iload_n 0, 1) := by decide +kernel
theorem dL_low_1 : decode cL_low 1 = .ok (.ldc 7, 2) := by decide +kernel
theorem dL_low_3 : decode cL_low 3 = .ok (.iand, 1) := by decide +kernel
theorem dL_low_4 : decode cL_low 4 = .ok (.iload_n 1, 1) := by decide +kernel
theorem dL_low_5 : decode cL_low 5 = .ok (.irem, 1) := by decide +kernel
theorem dL_low_6 : decode cL_low 6 = .ok (.ireturn, 1) := by decide +kernel
theorem dL_cell_0 : decode cL_cell 0 = .ok (.iload_n 1, 1) := by decide +kernel
theorem dL_cell_1 : decode cL_cell 1 = .ok (.aload_n 0, 1) := by decide +kernel
theorem dL_cell_2 : decode cL_cell 2 = .ok (.arraylength, 1) := by decide +kernel
theorem dL_cell_3 : decode cL_cell 3 = .ok (.if_icmp .ge 9, 3) := by decide +kernel
theorem dL_cell_6 : decode cL_cell 6 = .ok (.aload_n 0, 1) := by decide +kernel
theorem dL_cell_7 : decode cL_cell 7 = .ok (.iload_n 1, 1) := by decide +kernel
theorem dL_cell_8 : decode cL_cell 8 = .ok (.iaload, 1) := by decide +kernel
theorem dL_cell_9 : decode cL_cell 9 = .ok (.goto 11, 3) := by decide +kernel
theorem dL_cell_12 : decode cL_cell 12 = .ok (.ldc 8, 2) := by decide +kernel
theorem dL_cell_14 : decode cL_cell 14 = .ok (.iload_n 1, 1) := by decide +kernel
theorem dL_cell_15 : decode cL_cell 15 = .ok (.imul, 1) := by decide +kernel
theorem dL_cell_16 : decode cL_cell 16 = .ok (.sipush 977, 3) := by decide +kernel
theorem dL_cell_19 : decode cL_cell 19 = .ok (.iadd, 1) := by decide +kernel
theorem dL_cell_20 : decode cL_cell 20 = .ok (.ireturn, 1) := by decide +kernel
